section
/-- a private method of a class that the tables say can be made, by its rows of tables_1 -/
def lw_okq (q : MethodName × Nat) : Prop := (q.1.cls ≠ "java/lang/invoke/MethodHandle" ∧ q.1.cls ≠ "java/lang/invoke/VarHandle") ∧ Cond.instantiable q.1.cls q.2 ∈ tables_1 ∧ Cond.privateMethod q.1 ∈ tables_1 ∧ Cond.instanceMethod q.1 ∈ tables_1
theorem lw_p0 : lw_okq (⟨"SlotStart$Bus", "isSignGiven", "()Z"⟩, 6) := ⟨⟨by decide +kernel, by decide +kernel⟩, List.mem_of_getElem? (i := 19) (by decide +kernel), List.mem_of_getElem? (i := 293) (by decide +kernel), List.mem_of_getElem? (i := 294) (by decide +kernel)⟩
theorem lw_p1 : lw_okq (⟨"SlotStart$Bus", "chooseSenders", "()V"⟩, 6) := ⟨⟨by decide +kernel, by decide +kernel⟩, List.mem_of_getElem? (i := 19) (by decide +kernel), List.mem_of_getElem? (i := 301) (by decide +kernel), List.mem_of_getElem? (i := 302) (by decide +kernel)⟩
theorem lw_p2 : lw_okq (⟨"SlotStart$Bus", "thatGiveWay", "(I)I"⟩, 6) := ⟨⟨by decide +kernel, by decide +kernel⟩, List.mem_of_getElem? (i := 19) (by decide +kernel), List.mem_of_getElem? (i := 309) (by decide +kernel), List.mem_of_getElem? (i := 310) (by decide +kernel)⟩
theorem lw_p3 : lw_okq (⟨"SlotStart$Bus", "givesWay", "(LSlotStart$Node;II)Z"⟩, 6) := ⟨⟨by decide +kernel, by decide +kernel⟩, List.mem_of_getElem? (i := 19) (by decide +kernel), List.mem_of_getElem? (i := 321) (by decide +kernel), List.mem_of_getElem? (i := 322) (by decide +kernel)⟩
theorem lw_p4 : lw_okq (⟨"SlotStart$Bus", "listen", "()V"⟩, 6) := ⟨⟨by decide +kernel, by decide +kernel⟩, List.mem_of_getElem? (i := 19) (by decide +kernel), List.mem_of_getElem? (i := 326) (by decide +kernel), List.mem_of_getElem? (i := 327) (by decide +kernel)⟩
theorem lw_p5 : lw_okq (⟨"SlotStart$Bus", "hearOthers", "(LSlotStart$Node;I)V"⟩, 6) := ⟨⟨by decide +kernel, by decide +kernel⟩, List.mem_of_getElem? (i := 19) (by decide +kernel), List.mem_of_getElem? (i := 338) (by decide +kernel), List.mem_of_getElem? (i := 339) (by decide +kernel)⟩
theorem lw_p6 : lw_okq (⟨"SlotStart$Bus", "settle", "(Z)V"⟩, 6) := ⟨⟨by decide +kernel, by decide +kernel⟩, List.mem_of_getElem? (i := 19) (by decide +kernel), List.mem_of_getElem? (i := 347) (by decide +kernel), List.mem_of_getElem? (i := 348) (by decide +kernel)⟩
theorem lw_p7 : lw_okq (⟨"SlotStart$Node", "settleListening", "(Z)V"⟩, 16) := ⟨⟨by decide +kernel, by decide +kernel⟩, List.mem_of_getElem? (i := 66) (by decide +kernel), List.mem_of_getElem? (i := 359) (by decide +kernel), List.mem_of_getElem? (i := 360) (by decide +kernel)⟩
theorem lw_p8 : lw_okq (⟨"SlotStart$Node", "followGuide", "()V"⟩, 16) := ⟨⟨by decide +kernel, by decide +kernel⟩, List.mem_of_getElem? (i := 66) (by decide +kernel), List.mem_of_getElem? (i := 363) (by decide +kernel), List.mem_of_getElem? (i := 364) (by decide +kernel)⟩
theorem lw_p9 : lw_okq (⟨"SlotStart$Node", "settleLeading", "()V"⟩, 16) := ⟨⟨by decide +kernel, by decide +kernel⟩, List.mem_of_getElem? (i := 66) (by decide +kernel), List.mem_of_getElem? (i := 367) (by decide +kernel), List.mem_of_getElem? (i := 368) (by decide +kernel)⟩
theorem lw_p10 : lw_okq (⟨"SlotStart$Node", "settleJoining", "()V"⟩, 16) := ⟨⟨by decide +kernel, by decide +kernel⟩, List.mem_of_getElem? (i := 66) (by decide +kernel), List.mem_of_getElem? (i := 371) (by decide +kernel), List.mem_of_getElem? (i := 372) (by decide +kernel)⟩
theorem lw_p11 : lw_okq (⟨"SlotStart$Bus", "moveClocks", "()V"⟩, 6) := ⟨⟨by decide +kernel, by decide +kernel⟩, List.mem_of_getElem? (i := 19) (by decide +kernel), List.mem_of_getElem? (i := 409) (by decide +kernel), List.mem_of_getElem? (i := 410) (by decide +kernel)⟩
theorem lw_p12 : lw_okq (⟨"SlotStart", "staysTogether", "(III)Z"⟩, 5) := ⟨⟨by decide +kernel, by decide +kernel⟩, List.mem_of_getElem? (i := 11) (by decide +kernel), List.mem_of_getElem? (i := 484) (by decide +kernel), List.mem_of_getElem? (i := 485) (by decide +kernel)⟩
theorem lw_p13 : lw_okq (⟨"SlotStartModel", "is", "(II)Z"⟩, 14) := ⟨⟨by decide +kernel, by decide +kernel⟩, List.mem_of_getElem? (i := 500) (by decide +kernel), List.mem_of_getElem? (i := 560) (by decide +kernel), List.mem_of_getElem? (i := 561) (by decide +kernel)⟩
theorem lw_p14 : lw_okq (⟨"SlotStartModel", "isTaken", "(II)Z"⟩, 14) := ⟨⟨by decide +kernel, by decide +kernel⟩, List.mem_of_getElem? (i := 500) (by decide +kernel), List.mem_of_getElem? (i := 564) (by decide +kernel), List.mem_of_getElem? (i := 565) (by decide +kernel)⟩
theorem lw_p15 : lw_okq (⟨"SlotStartModel", "isOut", "(I)Z"⟩, 14) := ⟨⟨by decide +kernel, by decide +kernel⟩, List.mem_of_getElem? (i := 500) (by decide +kernel), List.mem_of_getElem? (i := 580) (by decide +kernel), List.mem_of_getElem? (i := 581) (by decide +kernel)⟩
def lw_privs_1 : List (MethodName × Nat) := [(⟨"SlotStart$Bus", "isSignGiven", "()Z"⟩, 6), (⟨"SlotStart$Bus", "chooseSenders", "()V"⟩, 6), (⟨"SlotStart$Bus", "thatGiveWay", "(I)I"⟩, 6), (⟨"SlotStart$Bus", "givesWay", "(LSlotStart$Node;II)Z"⟩, 6), (⟨"SlotStart$Bus", "listen", "()V"⟩, 6), (⟨"SlotStart$Bus", "hearOthers", "(LSlotStart$Node;I)V"⟩, 6), (⟨"SlotStart$Bus", "settle", "(Z)V"⟩, 6), (⟨"SlotStart$Node", "settleListening", "(Z)V"⟩, 16), (⟨"SlotStart$Node", "followGuide", "()V"⟩, 16), (⟨"SlotStart$Node", "settleLeading", "()V"⟩, 16), (⟨"SlotStart$Node", "settleJoining", "()V"⟩, 16), (⟨"SlotStart$Bus", "moveClocks", "()V"⟩, 6), (⟨"SlotStart", "staysTogether", "(III)Z"⟩, 5), (⟨"SlotStartModel", "is", "(II)Z"⟩, 14), (⟨"SlotStartModel", "isTaken", "(II)Z"⟩, 14), (⟨"SlotStartModel", "isOut", "(I)Z"⟩, 14)]
theorem lw_r1 : ∀ q ∈ lw_privs_1, lw_okq q := List.forall_mem_cons.mpr ⟨lw_p0, List.forall_mem_cons.mpr ⟨lw_p1, List.forall_mem_cons.mpr ⟨lw_p2, List.forall_mem_cons.mpr ⟨lw_p3, List.forall_mem_cons.mpr ⟨lw_p4, List.forall_mem_cons.mpr ⟨lw_p5, List.forall_mem_cons.mpr ⟨lw_p6, List.forall_mem_cons.mpr ⟨lw_p7, List.forall_mem_cons.mpr ⟨lw_p8, List.forall_mem_cons.mpr ⟨lw_p9, List.forall_mem_cons.mpr ⟨lw_p10, List.forall_mem_cons.mpr ⟨lw_p11, List.forall_mem_cons.mpr ⟨lw_p12, List.forall_mem_cons.mpr ⟨lw_p13, List.forall_mem_cons.mpr ⟨lw_p14, List.forall_mem_cons.mpr ⟨lw_p15, fun _ h => absurd h List.not_mem_nil⟩⟩⟩⟩⟩⟩⟩⟩⟩⟩⟩⟩⟩⟩⟩⟩
theorem lw_p16 : lw_okq (⟨"SlotStartModel", "begin", "(II)V"⟩, 14) := ⟨⟨by decide +kernel, by decide +kernel⟩, List.mem_of_getElem? (i := 500) (by decide +kernel), List.mem_of_getElem? (i := 584) (by decide +kernel), List.mem_of_getElem? (i := 585) (by decide +kernel)⟩
theorem lw_p17 : lw_okq (⟨"SlotStartModel", "cycle", "()V"⟩, 14) := ⟨⟨by decide +kernel, by decide +kernel⟩, List.mem_of_getElem? (i := 500) (by decide +kernel), List.mem_of_getElem? (i := 596) (by decide +kernel), List.mem_of_getElem? (i := 597) (by decide +kernel)⟩
theorem lw_p18 : lw_okq (⟨"SlotStartModel", "laySenders", "()V"⟩, 14) := ⟨⟨by decide +kernel, by decide +kernel⟩, List.mem_of_getElem? (i := 500) (by decide +kernel), List.mem_of_getElem? (i := 600) (by decide +kernel), List.mem_of_getElem? (i := 601) (by decide +kernel)⟩
theorem lw_p19 : lw_okq (⟨"SlotStartModel", "isFirst", "(I)Z"⟩, 14) := ⟨⟨by decide +kernel, by decide +kernel⟩, List.mem_of_getElem? (i := 500) (by decide +kernel), List.mem_of_getElem? (i := 604) (by decide +kernel), List.mem_of_getElem? (i := 605) (by decide +kernel)⟩
theorem lw_p20 : lw_okq (⟨"SlotStartModel", "givesWay", "(I)Z"⟩, 14) := ⟨⟨by decide +kernel, by decide +kernel⟩, List.mem_of_getElem? (i := 500) (by decide +kernel), List.mem_of_getElem? (i := 608) (by decide +kernel), List.mem_of_getElem? (i := 609) (by decide +kernel)⟩
theorem lw_p21 : lw_okq (⟨"SlotStartModel", "hear", "(I)V"⟩, 14) := ⟨⟨by decide +kernel, by decide +kernel⟩, List.mem_of_getElem? (i := 500) (by decide +kernel), List.mem_of_getElem? (i := 612) (by decide +kernel), List.mem_of_getElem? (i := 613) (by decide +kernel)⟩
theorem lw_p22 : lw_okq (⟨"SlotStartModel", "end", "(I)V"⟩, 14) := ⟨⟨by decide +kernel, by decide +kernel⟩, List.mem_of_getElem? (i := 500) (by decide +kernel), List.mem_of_getElem? (i := 616) (by decide +kernel), List.mem_of_getElem? (i := 617) (by decide +kernel)⟩
theorem lw_p23 : lw_okq (⟨"SlotStartModel", "keepEvent", "(I)V"⟩, 14) := ⟨⟨by decide +kernel, by decide +kernel⟩, List.mem_of_getElem? (i := 500) (by decide +kernel), List.mem_of_getElem? (i := 620) (by decide +kernel), List.mem_of_getElem? (i := 621) (by decide +kernel)⟩
theorem lw_p24 : lw_okq (⟨"SlotStartModel", "listen", "(I)V"⟩, 14) := ⟨⟨by decide +kernel, by decide +kernel⟩, List.mem_of_getElem? (i := 500) (by decide +kernel), List.mem_of_getElem? (i := 624) (by decide +kernel), List.mem_of_getElem? (i := 625) (by decide +kernel)⟩
theorem lw_p25 : lw_okq (⟨"SlotStartModel", "otherSign", "(I)Z"⟩, 14) := ⟨⟨by decide +kernel, by decide +kernel⟩, List.mem_of_getElem? (i := 500) (by decide +kernel), List.mem_of_getElem? (i := 628) (by decide +kernel), List.mem_of_getElem? (i := 629) (by decide +kernel)⟩
theorem lw_p26 : lw_okq (⟨"SlotStartModel", "follow", "(II)V"⟩, 14) := ⟨⟨by decide +kernel, by decide +kernel⟩, List.mem_of_getElem? (i := 500) (by decide +kernel), List.mem_of_getElem? (i := 632) (by decide +kernel), List.mem_of_getElem? (i := 633) (by decide +kernel)⟩
theorem lw_p27 : lw_okq (⟨"SlotStartModel", "become", "(II)V"⟩, 14) := ⟨⟨by decide +kernel, by decide +kernel⟩, List.mem_of_getElem? (i := 500) (by decide +kernel), List.mem_of_getElem? (i := 636) (by decide +kernel), List.mem_of_getElem? (i := 637) (by decide +kernel)⟩
theorem lw_p28 : lw_okq (⟨"SlotStartModel", "lead", "(I)V"⟩, 14) := ⟨⟨by decide +kernel, by decide +kernel⟩, List.mem_of_getElem? (i := 500) (by decide +kernel), List.mem_of_getElem? (i := 640) (by decide +kernel), List.mem_of_getElem? (i := 641) (by decide +kernel)⟩
theorem lw_p29 : lw_okq (⟨"SlotStartModel", "join", "(I)V"⟩, 14) := ⟨⟨by decide +kernel, by decide +kernel⟩, List.mem_of_getElem? (i := 500) (by decide +kernel), List.mem_of_getElem? (i := 644) (by decide +kernel), List.mem_of_getElem? (i := 645) (by decide +kernel)⟩
theorem lw_p30 : lw_okq (⟨"SlotStartModel", "keepOn", "(I)V"⟩, 14) := ⟨⟨by decide +kernel, by decide +kernel⟩, List.mem_of_getElem? (i := 500) (by decide +kernel), List.mem_of_getElem? (i := 648) (by decide +kernel), List.mem_of_getElem? (i := 649) (by decide +kernel)⟩
theorem lw_p31 : lw_okq (⟨"SlotStartModel", "correct", "(I)V"⟩, 14) := ⟨⟨by decide +kernel, by decide +kernel⟩, List.mem_of_getElem? (i := 500) (by decide +kernel), List.mem_of_getElem? (i := 652) (by decide +kernel), List.mem_of_getElem? (i := 653) (by decide +kernel)⟩
def lw_privs_2 : List (MethodName × Nat) := [(⟨"SlotStartModel", "begin", "(II)V"⟩, 14), (⟨"SlotStartModel", "cycle", "()V"⟩, 14), (⟨"SlotStartModel", "laySenders", "()V"⟩, 14), (⟨"SlotStartModel", "isFirst", "(I)Z"⟩, 14), (⟨"SlotStartModel", "givesWay", "(I)Z"⟩, 14), (⟨"SlotStartModel", "hear", "(I)V"⟩, 14), (⟨"SlotStartModel", "end", "(I)V"⟩, 14), (⟨"SlotStartModel", "keepEvent", "(I)V"⟩, 14), (⟨"SlotStartModel", "listen", "(I)V"⟩, 14), (⟨"SlotStartModel", "otherSign", "(I)Z"⟩, 14), (⟨"SlotStartModel", "follow", "(II)V"⟩, 14), (⟨"SlotStartModel", "become", "(II)V"⟩, 14), (⟨"SlotStartModel", "lead", "(I)V"⟩, 14), (⟨"SlotStartModel", "join", "(I)V"⟩, 14), (⟨"SlotStartModel", "keepOn", "(I)V"⟩, 14), (⟨"SlotStartModel", "correct", "(I)V"⟩, 14)]
theorem lw_r2 : ∀ q ∈ lw_privs_2, lw_okq q := List.forall_mem_cons.mpr ⟨lw_p16, List.forall_mem_cons.mpr ⟨lw_p17, List.forall_mem_cons.mpr ⟨lw_p18, List.forall_mem_cons.mpr ⟨lw_p19, List.forall_mem_cons.mpr ⟨lw_p20, List.forall_mem_cons.mpr ⟨lw_p21, List.forall_mem_cons.mpr ⟨lw_p22, List.forall_mem_cons.mpr ⟨lw_p23, List.forall_mem_cons.mpr ⟨lw_p24, List.forall_mem_cons.mpr ⟨lw_p25, List.forall_mem_cons.mpr ⟨lw_p26, List.forall_mem_cons.mpr ⟨lw_p27, List.forall_mem_cons.mpr ⟨lw_p28, List.forall_mem_cons.mpr ⟨lw_p29, List.forall_mem_cons.mpr ⟨lw_p30, List.forall_mem_cons.mpr ⟨lw_p31, fun _ h => absurd h List.not_mem_nil⟩⟩⟩⟩⟩⟩⟩⟩⟩⟩⟩⟩⟩⟩⟩⟩
theorem lw_p32 : lw_okq (⟨"SlotStartModel", "trimSeen", "(I)I"⟩, 14) := ⟨⟨by decide +kernel, by decide +kernel⟩, List.mem_of_getElem? (i := 500) (by decide +kernel), List.mem_of_getElem? (i := 656) (by decide +kernel), List.mem_of_getElem? (i := 657) (by decide +kernel)⟩
theorem lw_p33 : lw_okq (⟨"SlotStartModel", "lay", "(I)V"⟩, 14) := ⟨⟨by decide +kernel, by decide +kernel⟩, List.mem_of_getElem? (i := 500) (by decide +kernel), List.mem_of_getElem? (i := 660) (by decide +kernel), List.mem_of_getElem? (i := 661) (by decide +kernel)⟩
theorem lw_p34 : lw_okq (⟨"SlotStartModel", "trimmed", "()I"⟩, 14) := ⟨⟨by decide +kernel, by decide +kernel⟩, List.mem_of_getElem? (i := 500) (by decide +kernel), List.mem_of_getElem? (i := 664) (by decide +kernel), List.mem_of_getElem? (i := 665) (by decide +kernel)⟩
theorem lw_p35 : lw_okq (⟨"SlotStartModel", "trimChanged", "(I)I"⟩, 14) := ⟨⟨by decide +kernel, by decide +kernel⟩, List.mem_of_getElem? (i := 500) (by decide +kernel), List.mem_of_getElem? (i := 671) (by decide +kernel), List.mem_of_getElem? (i := 672) (by decide +kernel)⟩
theorem lw_p36 : lw_okq (⟨"SlotStartModel", "keepCycle", "(I)V"⟩, 14) := ⟨⟨by decide +kernel, by decide +kernel⟩, List.mem_of_getElem? (i := 500) (by decide +kernel), List.mem_of_getElem? (i := 675) (by decide +kernel), List.mem_of_getElem? (i := 676) (by decide +kernel)⟩
theorem lw_p37 : lw_okq (⟨"SlotStartModel", "setOf", "(I)I"⟩, 14) := ⟨⟨by decide +kernel, by decide +kernel⟩, List.mem_of_getElem? (i := 500) (by decide +kernel), List.mem_of_getElem? (i := 679) (by decide +kernel), List.mem_of_getElem? (i := 680) (by decide +kernel)⟩
theorem lw_p38 : lw_okq (⟨"SlotStartModel", "spreadBut", "(I)I"⟩, 14) := ⟨⟨by decide +kernel, by decide +kernel⟩, List.mem_of_getElem? (i := 500) (by decide +kernel), List.mem_of_getElem? (i := 710) (by decide +kernel), List.mem_of_getElem? (i := 711) (by decide +kernel)⟩
theorem lw_p39 : lw_okq (⟨"SlotStartModel", "inSet", "()I"⟩, 14) := ⟨⟨by decide +kernel, by decide +kernel⟩, List.mem_of_getElem? (i := 500) (by decide +kernel), List.mem_of_getElem? (i := 718) (by decide +kernel), List.mem_of_getElem? (i := 719) (by decide +kernel)⟩
theorem lw_p40 : lw_okq (⟨"SlotStartModel", "save", "(I)V"⟩, 14) := ⟨⟨by decide +kernel, by decide +kernel⟩, List.mem_of_getElem? (i := 500) (by decide +kernel), List.mem_of_getElem? (i := 722) (by decide +kernel), List.mem_of_getElem? (i := 723) (by decide +kernel)⟩
theorem lw_p41 : lw_okq (⟨"SlotStartModel", "load", "(I)V"⟩, 14) := ⟨⟨by decide +kernel, by decide +kernel⟩, List.mem_of_getElem? (i := 500) (by decide +kernel), List.mem_of_getElem? (i := 726) (by decide +kernel), List.mem_of_getElem? (i := 727) (by decide +kernel)⟩
theorem lw_p42 : lw_okq (⟨"SlotStartModel", "bearsOne", "(IIII)Z"⟩, 14) := ⟨⟨by decide +kernel, by decide +kernel⟩, List.mem_of_getElem? (i := 500) (by decide +kernel), List.mem_of_getElem? (i := 734) (by decide +kernel), List.mem_of_getElem? (i := 735) (by decide +kernel)⟩
def lw_privs_3 : List (MethodName × Nat) := [(⟨"SlotStartModel", "trimSeen", "(I)I"⟩, 14), (⟨"SlotStartModel", "lay", "(I)V"⟩, 14), (⟨"SlotStartModel", "trimmed", "()I"⟩, 14), (⟨"SlotStartModel", "trimChanged", "(I)I"⟩, 14), (⟨"SlotStartModel", "keepCycle", "(I)V"⟩, 14), (⟨"SlotStartModel", "setOf", "(I)I"⟩, 14), (⟨"SlotStartModel", "spreadBut", "(I)I"⟩, 14), (⟨"SlotStartModel", "inSet", "()I"⟩, 14), (⟨"SlotStartModel", "save", "(I)V"⟩, 14), (⟨"SlotStartModel", "load", "(I)V"⟩, 14), (⟨"SlotStartModel", "bearsOne", "(IIII)Z"⟩, 14)]
theorem lw_r3 : ∀ q ∈ lw_privs_3, lw_okq q := List.forall_mem_cons.mpr ⟨lw_p32, List.forall_mem_cons.mpr ⟨lw_p33, List.forall_mem_cons.mpr ⟨lw_p34, List.forall_mem_cons.mpr ⟨lw_p35, List.forall_mem_cons.mpr ⟨lw_p36, List.forall_mem_cons.mpr ⟨lw_p37, List.forall_mem_cons.mpr ⟨lw_p38, List.forall_mem_cons.mpr ⟨lw_p39, List.forall_mem_cons.mpr ⟨lw_p40, List.forall_mem_cons.mpr ⟨lw_p41, List.forall_mem_cons.mpr ⟨lw_p42, fun _ h => absurd h List.not_mem_nil⟩⟩⟩⟩⟩⟩⟩⟩⟩⟩⟩
def lw_privs : List (MethodName × Nat) := lw_privs_1 ++ (lw_privs_2 ++ (lw_privs_3))
def lw_tbl : List Cond := k2_sels lw_privs ++ tables_1
theorem lw_privs_ok : ∀ q ∈ lw_privs, lw_okq q := by
  show ∀ q ∈ lw_privs_1 ++ (lw_privs_2 ++ (lw_privs_3)), lw_okq q
  exact List.forall_mem_append.mpr ⟨lw_r1, List.forall_mem_append.mpr ⟨lw_r2, lw_r3⟩⟩
/-! ===== BEGIN words of one list among another's, by their places ===== -/
theorem goodIn_r {big : List Cond} (ws : List Cond) (ps : List Nat) (hp : ws = ps.filterMap (fun i => big[i]?)) (h : ws.all goodWord = true) : GoodIn big ws := by
  intro w hw
  have h1 := List.all_eq_true.mp h w hw
  rw [hp] at hw
  obtain ⟨i, -, hi⟩ := List.mem_filterMap.mp hw
  have hm : w ∈ big := by first | exact List.mem_of_getElem? hi | exact List.getElem?_mem hi
  exact ⟨hm, good_of_word h1⟩
theorem goodIn_app {big a b : List Cond} (ha : GoodIn big a) (hb : GoodIn big b) : GoodIn big (a ++ b) := fun w h => (List.mem_append.mp h).elim (ha w) (hb w)
theorem goodIn_ca {big a b : List Cond} {c : Cond} (ha : GoodIn big (c :: a)) (hb : GoodIn big b) : GoodIn big (c :: (a ++ b)) := fun w h => (List.mem_cons.mp h).elim (fun e => ha w (List.mem_cons.mpr (Or.inl e))) (fun h => (List.mem_append.mp h).elim (fun h => ha w (List.mem_cons.mpr (Or.inr h))) (hb w))
theorem goodIn_sub {big ws : List Cond} (hm : ∀ w ∈ ws, w ∈ big) (h : ws.all goodWord = true) : GoodIn big ws := fun w hw => ⟨hm w hw, good_of_word (List.all_eq_true.mp h w hw)⟩
/-! ===== END ===== -/

/-! ===== BEGIN printed: names, fields, word lists, decode rows ===== -/
def RX0 : String := "SlotStart$Bus"
def TX0 : u_T := fun k => match k with
  | 0 => ("SlotStart$Bus", "nodes", "[LSlotStart$Node;", true)
  | 1 => ("SlotStart$Bus", "log", "LSlotStart$Log;", true)
  | 2 => ("SlotStart$Bus", "numbers", "LSlotStart$Numbers;", true)
  | 3 => ("SlotStart$Bus", "bound", "I", false)
  | 4 => ("SlotStart$Bus", "cycles", "I", false)
  | _ => ("SlotStart$Bus", "senders", "I", false)
def tyX0 : Nat → FieldType := fun k => match k with
  | 0 => .array (.object "SlotStart$Node")
  | 1 => .object "SlotStart$Log"
  | 2 => .object "SlotStart$Numbers"
  | 3 => .int
  | 4 => .int
  | _ => .int
abbrev wsX00 : List Cond := u_ws RX0 TX0 6
theorem nmX0 : ∀ a, a < 6 → ∀ b, b < 6 → a ≠ b → (TX0 a).2.1 ≠ (TX0 b).2.1 := by decide +kernel
theorem tyX0_ok : ∀ k, k < 6 → parseFieldDescriptor (TX0 k).2.2.1 = some (tyX0 k) := by decide +kernel
abbrev cX0_init : ByteArray := prog_2_method_1_code
def yX0_init : MethodName := ⟨RX0, "<init>", "()V"⟩
abbrev cX0_copy : ByteArray := prog_2_method_2_code
def yX0_copy : MethodName := ⟨RX0, "copy", "(LSlotStart$Bus;)V"⟩
abbrev cX0_isSlotOfAnother : ByteArray := prog_2_method_3_code
def yX0_isSlotOfAnother : MethodName := ⟨RX0, "isSlotOfAnother", "(II)Z"⟩
abbrev cX0_thatAre : ByteArray := prog_2_method_4_code
def yX0_thatAre : MethodName := ⟨RX0, "thatAre", "(I)I"⟩
abbrev cX0_awake : ByteArray := prog_2_method_5_code
def yX0_awake : MethodName := ⟨RX0, "awake", "()I"⟩
abbrev cX0_apart : ByteArray := prog_2_method_6_code
def yX0_apart : MethodName := ⟨RX0, "apart", "(I)I"⟩
abbrev cX0_passCycle : ByteArray := prog_2_method_7_code
def yX0_passCycle : MethodName := ⟨RX0, "passCycle", "()V"⟩
abbrev cX0_isSignGiven : ByteArray := prog_2_method_8_code
def yX0_isSignGiven : MethodName := ⟨RX0, "isSignGiven", "()Z"⟩
abbrev cX0_chooseSenders : ByteArray := prog_2_method_9_code
def yX0_chooseSenders : MethodName := ⟨RX0, "chooseSenders", "()V"⟩
abbrev cX0_thatGiveWay : ByteArray := prog_2_method_10_code
def yX0_thatGiveWay : MethodName := ⟨RX0, "thatGiveWay", "(I)I"⟩
abbrev cX0_givesWay : ByteArray := prog_2_method_11_code
def yX0_givesWay : MethodName := ⟨RX0, "givesWay", "(LSlotStart$Node;II)Z"⟩
abbrev cX0_listen : ByteArray := prog_2_method_12_code
def yX0_listen : MethodName := ⟨RX0, "listen", "()V"⟩
abbrev cX0_hearOthers : ByteArray := prog_2_method_13_code
def yX0_hearOthers : MethodName := ⟨RX0, "hearOthers", "(LSlotStart$Node;I)V"⟩
abbrev cX0_settle : ByteArray := prog_2_method_14_code
def yX0_settle : MethodName := ⟨RX0, "settle", "(Z)V"⟩
abbrev cX0_moveClocks : ByteArray := prog_2_method_15_code
def yX0_moveClocks : MethodName := ⟨RX0, "moveClocks", "()V"⟩
def RX1 : String := "SlotStart$Hearing"
def TX1 : u_T := fun k => match k with
  | 0 => ("SlotStart$Hearing", "heard", "I", false)
  | 1 => ("SlotStart$Hearing", "starters", "I", false)
  | 2 => ("SlotStart$Hearing", "guide", "I", false)
  | 3 => ("SlotStart$Hearing", "guideSlot", "I", false)
  | 4 => ("SlotStart$Hearing", "guideSeen", "I", false)
  | 5 => ("SlotStart$Hearing", "guidePace", "I", false)
  | _ => ("SlotStart$Hearing", "seen", "[I", true)
def tyX1 : Nat → FieldType := fun k => match k with
  | 0 => .int
  | 1 => .int
  | 2 => .int
  | 3 => .int
  | 4 => .int
  | 5 => .int
  | _ => .array .int
abbrev wsX10 : List Cond := u_ws RX1 TX1 7
theorem nmX1 : ∀ a, a < 7 → ∀ b, b < 7 → a ≠ b → (TX1 a).2.1 ≠ (TX1 b).2.1 := by decide +kernel
theorem tyX1_ok : ∀ k, k < 7 → parseFieldDescriptor (TX1 k).2.2.1 = some (tyX1 k) := by decide +kernel
abbrev cX1_init : ByteArray := prog_3_method_1_code
def yX1_init : MethodName := ⟨RX1, "<init>", "()V"⟩
abbrev cX1_clear : ByteArray := prog_3_method_2_code
def yX1_clear : MethodName := ⟨RX1, "clear", "()V"⟩
abbrev cX1_copy : ByteArray := prog_3_method_3_code
def yX1_copy : MethodName := ⟨RX1, "copy", "(LSlotStart$Hearing;)V"⟩
abbrev cX1_note : ByteArray := prog_3_method_4_code
def yX1_note : MethodName := ⟨RX1, "note", "(ILSlotStart$Node;I)V"⟩
abbrev cX1_trimOfSeen : ByteArray := prog_3_method_5_code
def yX1_trimOfSeen : MethodName := ⟨RX1, "trimOfSeen", "(LSlotStart$Numbers;)I"⟩
abbrev cX1_trimOfMoves : ByteArray := prog_3_method_6_code
def yX1_trimOfMoves : MethodName := ⟨RX1, "trimOfMoves", "(LSlotStart$Hearing;LSlotStart$Numbers;)I"⟩
def RX2 : String := "SlotStart$Log"
def TX2 : u_T := fun k => match k with
  | 0 => ("SlotStart$Log", "cycles", "[I", true)
  | 1 => ("SlotStart$Log", "nodes", "[I", true)
  | 2 => ("SlotStart$Log", "things", "[I", true)
  | 3 => ("SlotStart$Log", "size", "I", false)
  | _ => ("SlotStart$Log", "first", "I", false)
def tyX2 : Nat → FieldType := fun k => match k with
  | 0 => .array .int
  | 1 => .array .int
  | 2 => .array .int
  | 3 => .int
  | _ => .int
abbrev wsX20 : List Cond := u_ws RX2 TX2 5
theorem nmX2 : ∀ a, a < 5 → ∀ b, b < 5 → a ≠ b → (TX2 a).2.1 ≠ (TX2 b).2.1 := by decide +kernel
theorem tyX2_ok : ∀ k, k < 5 → parseFieldDescriptor (TX2 k).2.2.1 = some (tyX2 k) := by decide +kernel
abbrev cX2_init : ByteArray := prog_4_method_1_code
def yX2_init : MethodName := ⟨RX2, "<init>", "()V"⟩
abbrev cX2_copy : ByteArray := prog_4_method_2_code
def yX2_copy : MethodName := ⟨RX2, "copy", "(LSlotStart$Log;)V"⟩
abbrev cX2_add : ByteArray := prog_4_method_3_code
def yX2_add : MethodName := ⟨RX2, "add", "(III)V"⟩
abbrev cX2_placeOf : ByteArray := prog_4_method_4_code
def yX2_placeOf : MethodName := ⟨RX2, "placeOf", "(I)I"⟩
def RX3 : String := "SlotStart$Node"
def TX3 : u_T := fun k => match k with
  | 0 => ("SlotStart$Node", "kind", "I", false)
  | 1 => ("SlotStart$Node", "slot", "I", false)
  | 2 => ("SlotStart$Node", "wait", "I", false)
  | 3 => ("SlotStart$Node", "drift", "I", false)
  | 4 => ("SlotStart$Node", "lie", "I", false)
  | 5 => ("SlotStart$Node", "is", "I", false)
  | 6 => ("SlotStart$Node", "isNew", "Z", false)
  | 7 => ("SlotStart$Node", "age", "I", false)
  | 8 => ("SlotStart$Node", "quiet", "I", false)
  | 9 => ("SlotStart$Node", "good", "I", false)
  | 10 => ("SlotStart$Node", "bad", "I", false)
  | 11 => ("SlotStart$Node", "at", "I", false)
  | 12 => ("SlotStart$Node", "rate", "I", false)
  | 13 => ("SlotStart$Node", "sent", "I", false)
  | 14 => ("SlotStart$Node", "last", "LSlotStart$Hearing;", false)
  | _ => ("SlotStart$Node", "ahead", "LSlotStart$Hearing;", false)
def tyX3 : Nat → FieldType := fun k => match k with
  | 0 => .int
  | 1 => .int
  | 2 => .int
  | 3 => .int
  | 4 => .int
  | 5 => .int
  | 6 => .boolean
  | 7 => .int
  | 8 => .int
  | 9 => .int
  | 10 => .int
  | 11 => .int
  | 12 => .int
  | 13 => .int
  | 14 => .object "SlotStart$Hearing"
  | _ => .object "SlotStart$Hearing"
abbrev wsX30 : List Cond := u_ws RX3 TX3 16
theorem nmX3 : ∀ a, a < 16 → ∀ b, b < 16 → a ≠ b → (TX3 a).2.1 ≠ (TX3 b).2.1 := by decide +kernel
theorem tyX3_ok : ∀ k, k < 16 → parseFieldDescriptor (TX3 k).2.2.1 = some (tyX3 k) := by decide +kernel
abbrev cX3_init : ByteArray := prog_5_method_1_code
def yX3_init : MethodName := ⟨RX3, "<init>", "(I)V"⟩
abbrev cX3_copy : ByteArray := prog_5_method_2_code
def yX3_copy : MethodName := ⟨RX3, "copy", "(LSlotStart$Node;)V"⟩
abbrev cX3_isAwake : ByteArray := prog_5_method_3_code
def yX3_isAwake : MethodName := ⟨RX3, "isAwake", "()Z"⟩
abbrev cX3_isReadyToSend : ByteArray := prog_5_method_4_code
def yX3_isReadyToSend : MethodName := ⟨RX3, "isReadyToSend", "()Z"⟩
abbrev cX3_isFirstTurnOfLeader : ByteArray := prog_5_method_5_code
def yX3_isFirstTurnOfLeader : MethodName := ⟨RX3, "isFirstTurnOfLeader", "()Z"⟩
abbrev cX3_givesSign : ByteArray := prog_5_method_6_code
def yX3_givesSign : MethodName := ⟨RX3, "givesSign", "()Z"⟩
abbrev cX3_become : ByteArray := prog_5_method_7_code
def yX3_become : MethodName := ⟨RX3, "become", "(I)V"⟩
abbrev cX3_beginAnew : ByteArray := prog_5_method_8_code
def yX3_beginAnew : MethodName := ⟨RX3, "beginAnew", "(II)V"⟩
abbrev cX3_turnHearing : ByteArray := prog_5_method_9_code
def yX3_turnHearing : MethodName := ⟨RX3, "turnHearing", "()V"⟩
abbrev cX3_settle : ByteArray := prog_5_method_10_code
def yX3_settle : MethodName := ⟨RX3, "settle", "(Z)V"⟩
abbrev cX3_settleListening : ByteArray := prog_5_method_11_code
def yX3_settleListening : MethodName := ⟨RX3, "settleListening", "(Z)V"⟩
abbrev cX3_followGuide : ByteArray := prog_5_method_12_code
def yX3_followGuide : MethodName := ⟨RX3, "followGuide", "()V"⟩
abbrev cX3_settleLeading : ByteArray := prog_5_method_13_code
def yX3_settleLeading : MethodName := ⟨RX3, "settleLeading", "()V"⟩
abbrev cX3_settleJoining : ByteArray := prog_5_method_14_code
def yX3_settleJoining : MethodName := ⟨RX3, "settleJoining", "()V"⟩
abbrev cX3_correct : ByteArray := prog_5_method_15_code
def yX3_correct : MethodName := ⟨RX3, "correct", "(ILSlotStart$Numbers;)V"⟩
def RX4 : String := "SlotStart$Numbers"
def TX4 : u_T := fun k => match k with
  | 0 => ("SlotStart$Numbers", "row", "[I", true)
  | _ => ("SlotStart$Numbers", "size", "I", false)
def tyX4 : Nat → FieldType := fun k => match k with
  | 0 => .array .int
  | _ => .int
abbrev wsX40 : List Cond := u_ws RX4 TX4 2
theorem nmX4 : ∀ a, a < 2 → ∀ b, b < 2 → a ≠ b → (TX4 a).2.1 ≠ (TX4 b).2.1 := by decide +kernel
theorem tyX4_ok : ∀ k, k < 2 → parseFieldDescriptor (TX4 k).2.2.1 = some (tyX4 k) := by decide +kernel
abbrev cX4_init : ByteArray := prog_6_method_1_code
def yX4_init : MethodName := ⟨RX4, "<init>", "()V"⟩
abbrev cX4_clear : ByteArray := prog_6_method_2_code
def yX4_clear : MethodName := ⟨RX4, "clear", "()V"⟩
abbrev cX4_put : ByteArray := prog_6_method_3_code
def yX4_put : MethodName := ⟨RX4, "put", "(I)V"⟩
abbrev cX4_areWithin : ByteArray := prog_6_method_4_code
def yX4_areWithin : MethodName := ⟨RX4, "areWithin", "(II)Z"⟩
abbrev cX4_trimmed : ByteArray := prog_6_method_5_code
def yX4_trimmed : MethodName := ⟨RX4, "trimmed", "()I"⟩
def RX5 : String := "SlotStart"
def TX5 : u_T := fun k => match k with
  | 0 => ("SlotStart", "bus", "LSlotStart$Bus;", true)
  | 1 => ("SlotStart", "trial", "LSlotStart$Bus;", true)
  | 2 => ("SlotStart", "images", "[LSlotStart$Bus;", true)
  | 3 => ("SlotStart", "kept", "I", false)
  | _ => ("SlotStart", "given", "LSlotStart$Numbers;", true)
def tyX5 : Nat → FieldType := fun k => match k with
  | 0 => .object "SlotStart$Bus"
  | 1 => .object "SlotStart$Bus"
  | 2 => .array (.object "SlotStart$Bus")
  | 3 => .int
  | _ => .object "SlotStart$Numbers"
abbrev wsX50 : List Cond := u_ws RX5 TX5 5
theorem nmX5 : ∀ a, a < 5 → ∀ b, b < 5 → a ≠ b → (TX5 a).2.1 ≠ (TX5 b).2.1 := by decide +kernel
theorem tyX5_ok : ∀ k, k < 5 → parseFieldDescriptor (TX5 k).2.2.1 = some (tyX5 k) := by decide +kernel
abbrev cX5_init : ByteArray := prog_1_method_1_code
def yX5_init : MethodName := ⟨RX5, "<init>", "()V"⟩
abbrev cX5_node : ByteArray := prog_1_method_2_code
def yX5_node : MethodName := ⟨RX5, "node", "(IIII)I"⟩
abbrev cX5_clock : ByteArray := prog_1_method_3_code
def yX5_clock : MethodName := ⟨RX5, "clock", "(III)I"⟩
abbrev cX5_bound : ByteArray := prog_1_method_4_code
def yX5_bound : MethodName := ⟨RX5, "bound", "(I)I"⟩
abbrev cX5_wake : ByteArray := prog_1_method_5_code
def yX5_wake : MethodName := ⟨RX5, "wake", "(II)I"⟩
abbrev cX5_off : ByteArray := prog_1_method_6_code
def yX5_off : MethodName := ⟨RX5, "off", "(I)I"⟩
abbrev cX5_run : ByteArray := prog_1_method_7_code
def yX5_run : MethodName := ⟨RX5, "run", "(I)I"⟩
abbrev cX5_told : ByteArray := prog_1_method_8_code
def yX5_told : MethodName := ⟨RX5, "told", "(II)I"⟩
abbrev cX5_seen : ByteArray := prog_1_method_9_code
def yX5_seen : MethodName := ⟨RX5, "seen", "(II)I"⟩
abbrev cX5_trim : ByteArray := prog_1_method_10_code
def yX5_trim : MethodName := ⟨RX5, "trim", "(IIIII)I"⟩
abbrev cX5_event : ByteArray := prog_1_method_11_code
def yX5_event : MethodName := ⟨RX5, "event", "(II)I"⟩
abbrev cX5_spread : ByteArray := prog_1_method_12_code
def yX5_spread : MethodName := ⟨RX5, "spread", "()I"⟩
abbrev cX5_soon : ByteArray := prog_1_method_13_code
def yX5_soon : MethodName := ⟨RX5, "soon", "()I"⟩
abbrev cX5_bears : ByteArray := prog_1_method_14_code
def yX5_bears : MethodName := ⟨RX5, "bears", "(III)I"⟩
abbrev cX5_image : ByteArray := prog_1_method_15_code
def yX5_image : MethodName := ⟨RX5, "image", "(I)I"⟩
abbrev cX5_restore : ByteArray := prog_1_method_16_code
def yX5_restore : MethodName := ⟨RX5, "restore", "(I)I"⟩
abbrev cX5_count : ByteArray := prog_1_method_17_code
def yX5_count : MethodName := ⟨RX5, "count", "(I)I"⟩
abbrev cX5_staysTogether : ByteArray := prog_1_method_18_code
def yX5_staysTogether : MethodName := ⟨RX5, "staysTogether", "(III)Z"⟩
abbrev cX5_isNode : ByteArray := prog_1_method_19_code
def yX5_isNode : MethodName := ⟨RX5, "isNode", "(I)Z"⟩
abbrev cX5_isWithin : ByteArray := prog_1_method_20_code
def yX5_isWithin : MethodName := ⟨RX5, "isWithin", "(III)Z"⟩
abbrev cX5_bitOf : ByteArray := prog_1_method_21_code
def yX5_bitOf : MethodName := ⟨RX5, "bitOf", "(I)I"⟩
abbrev cX5_isIn : ByteArray := prog_1_method_22_code
def yX5_isIn : MethodName := ⟨RX5, "isIn", "(II)Z"⟩
abbrev cX5_areAllIn : ByteArray := prog_1_method_23_code
def yX5_areAllIn : MethodName := ⟨RX5, "areAllIn", "(II)Z"⟩
def RX6 : String := "SlotStartModel"
def TX6 : u_T := fun k => match k with
  | 0 => ("SlotStartModel", "state", "[I", true)
  | 1 => ("SlotStartModel", "images", "[I", true)
  | 2 => ("SlotStartModel", "isKept", "[Z", true)
  | 3 => ("SlotStartModel", "numbers", "[I", true)
  | 4 => ("SlotStartModel", "many", "I", false)
  | 5 => ("SlotStartModel", "sends", "[Z", true)
  | 6 => ("SlotStartModel", "signs", "[Z", true)
  | 7 => ("SlotStartModel", "fell", "[Z", true)
  | 8 => ("SlotStartModel", "changed", "[Z", true)
  | 9 => ("SlotStartModel", "heard", "[I", true)
  | 10 => ("SlotStartModel", "starters", "[I", true)
  | 11 => ("SlotStartModel", "guide", "[I", true)
  | 12 => ("SlotStartModel", "seen", "[I", true)
  | _ => ("SlotStartModel", "rate", "[I", true)
def tyX6 : Nat → FieldType := fun k => match k with
  | 0 => .array .int
  | 1 => .array .int
  | 2 => .array .boolean
  | 3 => .array .int
  | 4 => .int
  | 5 => .array .boolean
  | 6 => .array .boolean
  | 7 => .array .boolean
  | 8 => .array .boolean
  | 9 => .array .int
  | 10 => .array .int
  | 11 => .array .int
  | 12 => .array .int
  | _ => .array .int
abbrev wsX60 : List Cond := u_ws RX6 TX6 14
theorem nmX6 : ∀ a, a < 14 → ∀ b, b < 14 → a ≠ b → (TX6 a).2.1 ≠ (TX6 b).2.1 := by decide +kernel
theorem tyX6_ok : ∀ k, k < 14 → parseFieldDescriptor (TX6 k).2.2.1 = some (tyX6 k) := by decide +kernel
abbrev cX6_init : ByteArray := prog_8_method_1_code
def yX6_init : MethodName := ⟨RX6, "<init>", "()V"⟩
abbrev cX6_in : ByteArray := prog_8_method_2_code
def yX6_in : MethodName := ⟨RX6, "in", "(III)Z"⟩
abbrev cX6_isNode : ByteArray := prog_8_method_3_code
def yX6_isNode : MethodName := ⟨RX6, "isNode", "(I)Z"⟩
abbrev cX6_is : ByteArray := prog_8_method_4_code
def yX6_is : MethodName := ⟨RX6, "is", "(II)Z"⟩
abbrev cX6_isOut : ByteArray := prog_8_method_5_code
def yX6_isOut : MethodName := ⟨RX6, "isOut", "(I)Z"⟩
abbrev cX6_plain : ByteArray := prog_8_method_6_code
def yX6_plain : MethodName := ⟨RX6, "plain", "(I)I"⟩
abbrev cX6_isTaken : ByteArray := prog_8_method_7_code
def yX6_isTaken : MethodName := ⟨RX6, "isTaken", "(II)Z"⟩
abbrev cX6_node : ByteArray := prog_8_method_8_code
def yX6_node : MethodName := ⟨RX6, "node", "(IIII)I"⟩
abbrev cX6_clock : ByteArray := prog_8_method_9_code
def yX6_clock : MethodName := ⟨RX6, "clock", "(III)I"⟩
abbrev cX6_bound : ByteArray := prog_8_method_10_code
def yX6_bound : MethodName := ⟨RX6, "bound", "(I)I"⟩
abbrev cX6_begin : ByteArray := prog_8_method_11_code
def yX6_begin : MethodName := ⟨RX6, "begin", "(II)V"⟩
abbrev cX6_wake : ByteArray := prog_8_method_12_code
def yX6_wake : MethodName := ⟨RX6, "wake", "(II)I"⟩
abbrev cX6_off : ByteArray := prog_8_method_13_code
def yX6_off : MethodName := ⟨RX6, "off", "(I)I"⟩
abbrev cX6_lay : ByteArray := prog_8_method_14_code
def yX6_lay : MethodName := ⟨RX6, "lay", "(I)V"⟩
abbrev cX6_trimmed : ByteArray := prog_8_method_15_code
def yX6_trimmed : MethodName := ⟨RX6, "trimmed", "()I"⟩
abbrev cX6_isFirst : ByteArray := prog_8_method_16_code
def yX6_isFirst : MethodName := ⟨RX6, "isFirst", "(I)Z"⟩
abbrev cX6_laySenders : ByteArray := prog_8_method_17_code
def yX6_laySenders : MethodName := ⟨RX6, "laySenders", "()V"⟩
abbrev cX6_givesWay : ByteArray := prog_8_method_18_code
def yX6_givesWay : MethodName := ⟨RX6, "givesWay", "(I)Z"⟩
abbrev cX6_hear : ByteArray := prog_8_method_19_code
def yX6_hear : MethodName := ⟨RX6, "hear", "(I)V"⟩
abbrev cX6_keepEvent : ByteArray := prog_8_method_20_code
def yX6_keepEvent : MethodName := ⟨RX6, "keepEvent", "(I)V"⟩
abbrev cX6_become : ByteArray := prog_8_method_21_code
def yX6_become : MethodName := ⟨RX6, "become", "(II)V"⟩
abbrev cX6_otherSign : ByteArray := prog_8_method_22_code
def yX6_otherSign : MethodName := ⟨RX6, "otherSign", "(I)Z"⟩
abbrev cX6_follow : ByteArray := prog_8_method_23_code
def yX6_follow : MethodName := ⟨RX6, "follow", "(II)V"⟩
abbrev cX6_listen : ByteArray := prog_8_method_24_code
def yX6_listen : MethodName := ⟨RX6, "listen", "(I)V"⟩
abbrev cX6_lead : ByteArray := prog_8_method_25_code
def yX6_lead : MethodName := ⟨RX6, "lead", "(I)V"⟩
abbrev cX6_join : ByteArray := prog_8_method_26_code
def yX6_join : MethodName := ⟨RX6, "join", "(I)V"⟩
abbrev cX6_trimSeen : ByteArray := prog_8_method_27_code
def yX6_trimSeen : MethodName := ⟨RX6, "trimSeen", "(I)I"⟩
abbrev cX6_trimChanged : ByteArray := prog_8_method_28_code
def yX6_trimChanged : MethodName := ⟨RX6, "trimChanged", "(I)I"⟩
abbrev cX6_correct : ByteArray := prog_8_method_29_code
def yX6_correct : MethodName := ⟨RX6, "correct", "(I)V"⟩
abbrev cX6_keepOn : ByteArray := prog_8_method_30_code
def yX6_keepOn : MethodName := ⟨RX6, "keepOn", "(I)V"⟩
abbrev cX6_end : ByteArray := prog_8_method_31_code
def yX6_end : MethodName := ⟨RX6, "end", "(I)V"⟩
abbrev cX6_keepCycle : ByteArray := prog_8_method_32_code
def yX6_keepCycle : MethodName := ⟨RX6, "keepCycle", "(I)V"⟩
abbrev cX6_cycle : ByteArray := prog_8_method_33_code
def yX6_cycle : MethodName := ⟨RX6, "cycle", "()V"⟩
abbrev cX6_setOf : ByteArray := prog_8_method_34_code
def yX6_setOf : MethodName := ⟨RX6, "setOf", "(I)I"⟩
abbrev cX6_run : ByteArray := prog_8_method_35_code
def yX6_run : MethodName := ⟨RX6, "run", "(I)I"⟩
abbrev cX6_size : ByteArray := prog_8_method_36_code
def yX6_size : MethodName := ⟨RX6, "size", "(I)I"⟩
abbrev cX6_told : ByteArray := prog_8_method_37_code
def yX6_told : MethodName := ⟨RX6, "told", "(II)I"⟩
abbrev cX6_seen : ByteArray := prog_8_method_38_code
def yX6_seen : MethodName := ⟨RX6, "seen", "(II)I"⟩
abbrev cX6_isWithin : ByteArray := prog_8_method_39_code
def yX6_isWithin : MethodName := ⟨RX6, "isWithin", "(I)Z"⟩
abbrev cX6_trim : ByteArray := prog_8_method_40_code
def yX6_trim : MethodName := ⟨RX6, "trim", "(IIIII)I"⟩
abbrev cX6_event : ByteArray := prog_8_method_41_code
def yX6_event : MethodName := ⟨RX6, "event", "(II)I"⟩
abbrev cX6_spreadBut : ByteArray := prog_8_method_42_code
def yX6_spreadBut : MethodName := ⟨RX6, "spreadBut", "(I)I"⟩
abbrev cX6_spread : ByteArray := prog_8_method_43_code
def yX6_spread : MethodName := ⟨RX6, "spread", "()I"⟩
abbrev cX6_save : ByteArray := prog_8_method_44_code
def yX6_save : MethodName := ⟨RX6, "save", "(I)V"⟩
abbrev cX6_load : ByteArray := prog_8_method_45_code
def yX6_load : MethodName := ⟨RX6, "load", "(I)V"⟩
abbrev cX6_inSet : ByteArray := prog_8_method_46_code
def yX6_inSet : MethodName := ⟨RX6, "inSet", "()I"⟩
abbrev cX6_soon : ByteArray := prog_8_method_47_code
def yX6_soon : MethodName := ⟨RX6, "soon", "()I"⟩
abbrev cX6_bearsOne : ByteArray := prog_8_method_48_code
def yX6_bearsOne : MethodName := ⟨RX6, "bearsOne", "(IIII)Z"⟩
abbrev cX6_bears : ByteArray := prog_8_method_49_code
def yX6_bears : MethodName := ⟨RX6, "bears", "(III)I"⟩
abbrev cX6_image : ByteArray := prog_8_method_50_code
def yX6_image : MethodName := ⟨RX6, "image", "(I)I"⟩
abbrev cX6_restore : ByteArray := prog_8_method_51_code
def yX6_restore : MethodName := ⟨RX6, "restore", "(I)I"⟩
abbrev cX6_count : ByteArray := prog_8_method_52_code
def yX6_count : MethodName := ⟨RX6, "count", "(I)I"⟩
def RJ6 : String := "java/lang/Integer"
def TJ6 : u_T := fun k => match k with
  | _ => ("", "", "", false)
def tyJ6 : Nat → FieldType := fun k => match k with
  | _ => .int
abbrev wsJ60 : List Cond := u_ws RJ6 TJ6 0
theorem nmJ6 : ∀ a, a < 0 → ∀ b, b < 0 → a ≠ b → (TJ6 a).2.1 ≠ (TJ6 b).2.1 := by decide +kernel
theorem tyJ6_ok : ∀ k, k < 0 → parseFieldDescriptor (TJ6 k).2.2.1 = some (tyJ6 k) := by decide +kernel
abbrev cJ6_bitCount_0f7a4 : ByteArray := prog_9_method_49_code
def yJ6_bitCount_0f7a4 : MethodName := ⟨RJ6, "bitCount", "(I)I"⟩
def RJ9 : String := "java/lang/Math"
def TJ9 : u_T := fun k => match k with
  | _ => ("", "", "", false)
def tyJ9 : Nat → FieldType := fun k => match k with
  | _ => .int
abbrev wsJ90 : List Cond := u_ws RJ9 TJ9 0
theorem nmJ9 : ∀ a, a < 0 → ∀ b, b < 0 → a ≠ b → (TJ9 a).2.1 ≠ (TJ9 b).2.1 := by decide +kernel
theorem tyJ9_ok : ∀ k, k < 0 → parseFieldDescriptor (TJ9 k).2.2.1 = some (tyJ9 k) := by decide +kernel
abbrev cJ9_abs_0f7a4 : ByteArray := prog_10_method_59_code
def yJ9_abs_0f7a4 : MethodName := ⟨RJ9, "abs", "(I)I"⟩
abbrev cJ9_max_7cf53 : ByteArray := prog_10_method_65_code
def yJ9_max_7cf53 : MethodName := ⟨RJ9, "max", "(II)I"⟩
abbrev cJ9_min_7cf53 : ByteArray := prog_10_method_69_code
def yJ9_min_7cf53 : MethodName := ⟨RJ9, "min", "(II)I"⟩
def RL : String := "SlotStartLaw"
abbrev cL_law : ByteArray := code
def yL_law : MethodName := ⟨RL, "law", "([I)Z"⟩
def wsL_law_r1 : List Cond := [Cond.classLink RL 7 RX5, Cond.instantiable RX5 5, Cond.initialized RX5, Cond.classLink RL 10 RX6, Cond.instantiable RX6 14, Cond.initialized RX6, Cond.methodLink RL 9 yX5_init, Cond.instanceMethod yX5_init, Cond.code yX5_init cX5_init 2 none, Cond.methodLink RX5 1 objectInit, Cond.instanceMethod objectInit, Cond.code objectInit ⟨#[0xb1]⟩ 1 none, Cond.classLink RX5 7 RX0, Cond.instantiable RX0 6, Cond.initialized RX0, Cond.fieldLink RX5 10 "SlotStart" "bus" "LSlotStart$Bus;", Cond.fieldLink RX5 16 "SlotStart" "trial" "LSlotStart$Bus;", Cond.fieldLink RX5 19 "SlotStart" "images" "[LSlotStart$Bus;", Cond.fieldLink RX5 23 "SlotStart" "kept" "I", Cond.classLink RX5 27 RX4, Cond.instantiable RX4 2, Cond.initialized RX4, Cond.fieldLink RX5 30 "SlotStart" "given" "LSlotStart$Numbers;", Cond.methodLink RX5 9 yX0_init]
def wsL_law_r2 : List Cond := [Cond.instanceMethod yX0_init, Cond.code yX0_init cX0_init 2 none, Cond.methodLink RX0 3 objectInit, Cond.classLink RX0 9 RX3, Cond.fieldLink RX0 11 "SlotStart$Bus" "nodes" "[LSlotStart$Node;", Cond.classLink RX0 17 RX2, Cond.instantiable RX2 5, Cond.initialized RX2, Cond.fieldLink RX0 20 "SlotStart$Bus" "log" "LSlotStart$Log;", Cond.classLink RX0 24 RX4, Cond.fieldLink RX0 27 "SlotStart$Bus" "numbers" "LSlotStart$Numbers;", Cond.fieldLink RX0 31 "SlotStart$Bus" "bound" "I", Cond.fieldLink RX0 35 "SlotStart$Bus" "cycles" "I", Cond.fieldLink RX0 38 "SlotStart$Bus" "senders" "I", Cond.instantiable RX3 16, Cond.initialized RX3, Cond.instanceMethod yX2_init, Cond.code yX2_init cX2_init 1 none, Cond.methodLink RX2 3 objectInit, Cond.arrayClass .int, Cond.fieldLink RX2 9 "SlotStart$Log" "cycles" "[I", Cond.fieldLink RX2 15 "SlotStart$Log" "nodes" "[I", Cond.fieldLink RX2 18 "SlotStart$Log" "things" "[I", Cond.fieldLink RX2 21 "SlotStart$Log" "size" "I"]
def wsL_law_r3 : List Cond := [Cond.fieldLink RX2 25 "SlotStart$Log" "first" "I", Cond.instanceMethod yX4_init, Cond.code yX4_init cX4_init 1 none, Cond.methodLink RX4 3 objectInit, Cond.fieldLink RX4 9 "SlotStart$Numbers" "row" "[I", Cond.fieldLink RX4 15 "SlotStart$Numbers" "size" "I", Cond.methodLink RX0 41 yX3_init, Cond.instanceMethod yX3_init, Cond.code yX3_init cX3_init 2 none, Cond.methodLink RX3 3 objectInit, Cond.fieldLink RX3 9 "SlotStart$Node" "wait" "I", Cond.fieldLink RX3 15 "SlotStart$Node" "drift" "I", Cond.fieldLink RX3 18 "SlotStart$Node" "lie" "I", Cond.fieldLink RX3 21 "SlotStart$Node" "is" "I", Cond.fieldLink RX3 24 "SlotStart$Node" "isNew" "Z", Cond.fieldLink RX3 28 "SlotStart$Node" "age" "I", Cond.fieldLink RX3 31 "SlotStart$Node" "quiet" "I", Cond.fieldLink RX3 34 "SlotStart$Node" "good" "I", Cond.fieldLink RX3 37 "SlotStart$Node" "bad" "I", Cond.fieldLink RX3 40 "SlotStart$Node" "at" "I", Cond.fieldLink RX3 43 "SlotStart$Node" "rate" "I", Cond.fieldLink RX3 46 "SlotStart$Node" "sent" "I", Cond.classLink RX3 49 RX1, Cond.instantiable RX1 7]
def wsL_law_r4 : List Cond := [Cond.initialized RX1, Cond.fieldLink RX3 52 "SlotStart$Node" "last" "LSlotStart$Hearing;", Cond.fieldLink RX3 56 "SlotStart$Node" "ahead" "LSlotStart$Hearing;", Cond.fieldLink RX3 59 "SlotStart$Node" "kind" "I", Cond.fieldLink RX3 62 "SlotStart$Node" "slot" "I", Cond.instanceMethod yX1_init, Cond.code yX1_init cX1_init 1 none, Cond.methodLink RX1 3 objectInit, Cond.fieldLink RX1 9 "SlotStart$Hearing" "heard" "I", Cond.fieldLink RX1 15 "SlotStart$Hearing" "starters" "I", Cond.fieldLink RX1 18 "SlotStart$Hearing" "guide" "I", Cond.fieldLink RX1 21 "SlotStart$Hearing" "guideSlot" "I", Cond.fieldLink RX1 24 "SlotStart$Hearing" "guideSeen" "I", Cond.fieldLink RX1 27 "SlotStart$Hearing" "guidePace" "I", Cond.fieldLink RX1 30 "SlotStart$Hearing" "seen" "[I", Cond.methodLink RL 12 yX6_init, Cond.instanceMethod yX6_init, Cond.code yX6_init cX6_init 2 none, Cond.methodLink RX6 1 objectInit, Cond.fieldLink RX6 7 "SlotStartModel" "state" "[I", Cond.fieldLink RX6 13 "SlotStartModel" "images" "[I", Cond.arrayClass .boolean, Cond.fieldLink RX6 16 "SlotStartModel" "isKept" "[Z", Cond.fieldLink RX6 20 "SlotStartModel" "numbers" "[I"]
def wsL_law_r5 : List Cond := [Cond.fieldLink RX6 23 "SlotStartModel" "sends" "[Z", Cond.fieldLink RX6 26 "SlotStartModel" "signs" "[Z", Cond.fieldLink RX6 29 "SlotStartModel" "fell" "[Z", Cond.fieldLink RX6 32 "SlotStartModel" "changed" "[Z", Cond.fieldLink RX6 35 "SlotStartModel" "heard" "[I", Cond.fieldLink RX6 38 "SlotStartModel" "starters" "[I", Cond.fieldLink RX6 41 "SlotStartModel" "guide" "[I", Cond.fieldLink RX6 44 "SlotStartModel" "seen" "[I", Cond.fieldLink RX6 47 "SlotStartModel" "rate" "[I", Cond.methodLink RL 13 yX5_node, Cond.instanceMethod yX5_node, Cond.selects RX5 yX5_node yX5_node, Cond.code yX5_node cX5_node 8 (some .int), Cond.fieldLink RX5 42 "SlotStart$Bus" "nodes" "[LSlotStart$Node;", Cond.fieldLink RX5 46 "SlotStart$Node" "is" "I", Cond.fieldLink RX5 55 "SlotStart$Node" "slot" "I", Cond.fieldLink RX5 58 "SlotStart$Node" "kind" "I", Cond.fieldLink RX5 61 "SlotStart$Node" "wait" "I", Cond.methodLink RX5 34 yX5_isNode, Cond.static yX5_isNode, Cond.code yX5_isNode cX5_isNode 1 (some .boolean), Cond.methodLink RX5 38 yX5_isWithin, Cond.static yX5_isWithin, Cond.code yX5_isWithin cX5_isWithin 3 (some .boolean)]
def wsL_law_r6 : List Cond := [Cond.methodLink RX5 51 yX0_isSlotOfAnother, Cond.instanceMethod yX0_isSlotOfAnother, Cond.selects RX0 yX0_isSlotOfAnother yX0_isSlotOfAnother, Cond.code yX0_isSlotOfAnother cX0_isSlotOfAnother 4 (some .boolean), Cond.fieldLink RX0 51 "SlotStart$Node" "slot" "I", Cond.methodLink RL 17 yX6_node, Cond.instanceMethod yX6_node, Cond.selects RX6 yX6_node yX6_node, Cond.code yX6_node cX6_node 6 (some .int), Cond.methodLink RX6 58 yX6_isNode, Cond.static yX6_isNode, Cond.code yX6_isNode cX6_isNode 1 (some .boolean), Cond.methodLink RX6 50 yX6_in, Cond.static yX6_in, Cond.code yX6_in cX6_in 3 (some .boolean), Cond.methodLink RX6 54 yX6_is, Cond.instanceMethod yX6_is, Cond.selects RX6 yX6_is yX6_is, Cond.code yX6_is cX6_is 3 (some .boolean), Cond.methodLink RX6 62 yX6_isTaken, Cond.instanceMethod yX6_isTaken, Cond.selects RX6 yX6_isTaken yX6_isTaken, Cond.code yX6_isTaken cX6_isTaken 5 (some .boolean), Cond.methodLink RL 18 yX5_clock]
def wsL_law_r7 : List Cond := [Cond.instanceMethod yX5_clock, Cond.selects RX5 yX5_clock yX5_clock, Cond.code yX5_clock cX5_clock 6 (some .int), Cond.fieldLink RX5 64 "SlotStart$Node" "drift" "I", Cond.fieldLink RX5 67 "SlotStart$Node" "lie" "I", Cond.methodLink RL 22 yX6_clock, Cond.instanceMethod yX6_clock, Cond.selects RX6 yX6_clock yX6_clock, Cond.code yX6_clock cX6_clock 5 (some .int), Cond.methodLink RL 23 yX5_bound, Cond.instanceMethod yX5_bound, Cond.selects RX5 yX5_bound yX5_bound, Cond.code yX5_bound cX5_bound 3 (some .int), Cond.fieldLink RX5 70 "SlotStart$Bus" "bound" "I", Cond.methodLink RL 27 yX6_bound, Cond.instanceMethod yX6_bound, Cond.selects RX6 yX6_bound yX6_bound, Cond.code yX6_bound cX6_bound 3 (some .int), Cond.methodLink RL 28 yX5_wake, Cond.instanceMethod yX5_wake, Cond.selects RX5 yX5_wake yX5_wake, Cond.code yX5_wake cX5_wake 4 (some .int), Cond.methodLink RX5 73 yX3_isAwake, Cond.instanceMethod yX3_isAwake]
def wsL_law_r8 : List Cond := [Cond.selects RX3 yX3_isAwake yX3_isAwake, Cond.code yX3_isAwake cX3_isAwake 1 (some .boolean), Cond.methodLink RX5 77 yX3_beginAnew, Cond.instanceMethod yX3_beginAnew, Cond.selects RX3 yX3_beginAnew yX3_beginAnew, Cond.code yX3_beginAnew cX3_beginAnew 3 none, Cond.methodLink RX3 69 yX3_become, Cond.instanceMethod yX3_become, Cond.selects RX3 yX3_become yX3_become, Cond.code yX3_become cX3_become 2 none, Cond.methodLink RX5 81 yX0_awake, Cond.instanceMethod yX0_awake, Cond.selects RX0 yX0_awake yX0_awake, Cond.code yX0_awake cX0_awake 3 (some .int), Cond.methodLink RX0 61 yX3_isAwake, Cond.static yX5_bitOf, Cond.code yX5_bitOf cX5_bitOf 1 (some .int), Cond.methodLink RX5 85 yJ6_bitCount_0f7a4, Cond.static yJ6_bitCount_0f7a4, Cond.initialized RJ6, Cond.code yJ6_bitCount_0f7a4 cJ6_bitCount_0f7a4 1 (some .int), Cond.constant RJ6 265 (1431655765), Cond.constant RJ6 266 (858993459), Cond.constant RJ6 267 (252645135)]
def wsL_law_r9 : List Cond := [Cond.methodLink RL 32 yX6_wake, Cond.instanceMethod yX6_wake, Cond.selects RX6 yX6_wake yX6_wake, Cond.code yX6_wake cX6_wake 5 (some .int), Cond.methodLink RX6 65 yX6_isOut, Cond.instanceMethod yX6_isOut, Cond.selects RX6 yX6_isOut yX6_isOut, Cond.code yX6_isOut cX6_isOut 2 (some .boolean), Cond.methodLink RX6 68 yX6_begin, Cond.instanceMethod yX6_begin, Cond.selects RX6 yX6_begin yX6_begin, Cond.code yX6_begin cX6_begin 3 none, Cond.methodLink RL 33 yX5_off, Cond.instanceMethod yX5_off, Cond.selects RX5 yX5_off yX5_off, Cond.code yX5_off cX5_off 4 (some .int), Cond.methodLink RL 36 yX6_off, Cond.instanceMethod yX6_off, Cond.selects RX6 yX6_off yX6_off, Cond.code yX6_off cX6_off 3 (some .int), Cond.methodLink RL 37 yX5_run, Cond.instanceMethod yX5_run, Cond.selects RX5 yX5_run yX5_run, Cond.code yX5_run cX5_run 3 (some .int)]
def wsL_law_r10 : List Cond := [Cond.methodLink RX5 91 yX0_passCycle, Cond.instanceMethod yX0_passCycle, Cond.selects RX0 yX0_passCycle yX0_passCycle, Cond.code yX0_passCycle cX0_passCycle 2 none, Cond.methodLink RX0 81 yX0_isSignGiven, Cond.instanceMethod yX0_isSignGiven, Cond.selects RX0 yX0_isSignGiven yX0_isSignGiven, Cond.code yX0_isSignGiven cX0_isSignGiven 2 (some .boolean), Cond.methodLink RX0 97 yX3_givesSign, Cond.instanceMethod yX3_givesSign, Cond.selects RX3 yX3_givesSign yX3_givesSign, Cond.code yX3_givesSign cX3_givesSign 1 (some .boolean), Cond.methodLink RX0 84 yX0_chooseSenders, Cond.instanceMethod yX0_chooseSenders, Cond.selects RX0 yX0_chooseSenders yX0_chooseSenders, Cond.code yX0_chooseSenders cX0_chooseSenders 3 none, Cond.fieldLink RX0 100 "SlotStart$Node" "isNew" "Z", Cond.fieldLink RX0 110 "SlotStart$Node" "sent" "I", Cond.methodLink RX0 104 yX3_isReadyToSend, Cond.instanceMethod yX3_isReadyToSend, Cond.selects RX3 yX3_isReadyToSend yX3_isReadyToSend, Cond.code yX3_isReadyToSend cX3_isReadyToSend 1 (some .boolean), Cond.methodLink RX0 107 yX0_thatGiveWay, Cond.instanceMethod yX0_thatGiveWay]
def wsL_law_r11 : List Cond := [Cond.selects RX0 yX0_thatGiveWay yX0_thatGiveWay, Cond.code yX0_thatGiveWay cX0_thatGiveWay 4 (some .int), Cond.static yX5_isIn, Cond.code yX5_isIn cX5_isIn 2 (some .boolean), Cond.methodLink RX5 181 yX5_bitOf, Cond.methodLink RX0 116 yX3_isFirstTurnOfLeader, Cond.instanceMethod yX3_isFirstTurnOfLeader, Cond.selects RX3 yX3_isFirstTurnOfLeader yX3_isFirstTurnOfLeader, Cond.code yX3_isFirstTurnOfLeader cX3_isFirstTurnOfLeader 1 (some .boolean), Cond.methodLink RX0 119 yX0_givesWay, Cond.instanceMethod yX0_givesWay, Cond.selects RX0 yX0_givesWay yX0_givesWay, Cond.code yX0_givesWay cX0_givesWay 5 (some .boolean), Cond.methodLink RX0 113 yX3_become, Cond.methodLink RX0 87 yX0_listen, Cond.instanceMethod yX0_listen, Cond.selects RX0 yX0_listen yX0_listen, Cond.code yX0_listen cX0_listen 2 none, Cond.methodLink RX0 123 yX3_turnHearing, Cond.instanceMethod yX3_turnHearing, Cond.selects RX3 yX3_turnHearing yX3_turnHearing, Cond.code yX3_turnHearing cX3_turnHearing 2 none, Cond.methodLink RX3 73 yX1_clear, Cond.instanceMethod yX1_clear]
def wsL_law_r12 : List Cond := [Cond.selects RX1 yX1_clear yX1_clear, Cond.code yX1_clear cX1_clear 1 none, Cond.methodLink RX0 126 yX0_hearOthers, Cond.instanceMethod yX0_hearOthers, Cond.selects RX0 yX0_hearOthers yX0_hearOthers, Cond.code yX0_hearOthers cX0_hearOthers 4 none, Cond.fieldLink RX0 130 "SlotStart$Node" "last" "LSlotStart$Hearing;", Cond.fieldLink RX0 69 "SlotStart$Node" "at" "I", Cond.methodLink RX0 134 yX1_note, Cond.instanceMethod yX1_note, Cond.selects RX1 yX1_note yX1_note, Cond.code yX1_note cX1_note 5 none, Cond.fieldLink RX1 34 "SlotStart$Node" "at" "I", Cond.fieldLink RX1 39 "SlotStart$Node" "lie" "I", Cond.fieldLink RX1 46 "SlotStart$Node" "kind" "I", Cond.fieldLink RX1 49 "SlotStart$Node" "slot" "I", Cond.fieldLink RX1 52 "SlotStart$Node" "drift" "I", Cond.fieldLink RX1 55 "SlotStart$Node" "rate" "I", Cond.methodLink RX0 90 yX0_settle, Cond.instanceMethod yX0_settle, Cond.selects RX0 yX0_settle yX0_settle, Cond.code yX0_settle cX0_settle 6 none, Cond.fieldLink RX0 54 "SlotStart$Node" "is" "I", Cond.methodLink RX0 140 yX2_add]
def wsL_law_r13 : List Cond := [Cond.instanceMethod yX2_add, Cond.selects RX2 yX2_add yX2_add, Cond.code yX2_add cX2_add 5 none, Cond.methodLink RX0 144 yX3_settle, Cond.instanceMethod yX3_settle, Cond.selects RX3 yX3_settle yX3_settle, Cond.code yX3_settle cX3_settle 2 none, Cond.methodLink RX3 76 yX3_settleListening, Cond.instanceMethod yX3_settleListening, Cond.selects RX3 yX3_settleListening yX3_settleListening, Cond.code yX3_settleListening cX3_settleListening 2 none, Cond.fieldLink RX3 86 "SlotStart$Hearing" "heard" "I", Cond.fieldLink RX3 89 "SlotStart$Hearing" "guide" "I", Cond.fieldLink RX3 95 "SlotStart$Hearing" "starters" "I", Cond.methodLink RX3 92 yX3_followGuide, Cond.instanceMethod yX3_followGuide, Cond.selects RX3 yX3_followGuide yX3_followGuide, Cond.code yX3_followGuide cX3_followGuide 1 none, Cond.fieldLink RX3 98 "SlotStart$Hearing" "guideSeen" "I", Cond.fieldLink RX3 101 "SlotStart$Hearing" "guidePace" "I", Cond.methodLink RX3 80 yX3_settleLeading, Cond.instanceMethod yX3_settleLeading, Cond.selects RX3 yX3_settleLeading yX3_settleLeading, Cond.code yX3_settleLeading cX3_settleLeading 1 none]
def wsL_law_r14 : List Cond := [Cond.methodLink RX3 83 yX3_settleJoining, Cond.instanceMethod yX3_settleJoining, Cond.selects RX3 yX3_settleJoining yX3_settleJoining, Cond.code yX3_settleJoining cX3_settleJoining 1 none, Cond.methodLink RX0 145 yX3_correct, Cond.instanceMethod yX3_correct, Cond.selects RX3 yX3_correct yX3_correct, Cond.code yX3_correct cX3_correct 5 none, Cond.methodLink RX3 108 Lib.Math.abs.name, Cond.static Lib.Math.abs.name, Cond.initialized "java/lang/Math", Cond.code Lib.Math.abs.name Lib.Math.abs.code 1 (some .int), Cond.methodLink RX3 118 Lib.Math.min.name, Cond.static Lib.Math.min.name, Cond.code Lib.Math.min.name Lib.Math.min.code 2 (some .int), Cond.methodLink RX3 122 Lib.Math.max.name, Cond.static Lib.Math.max.name, Cond.code Lib.Math.max.name Lib.Math.max.code 2 (some .int), Cond.methodLink RX3 104 yX1_trimOfSeen, Cond.instanceMethod yX1_trimOfSeen, Cond.selects RX1 yX1_trimOfSeen yX1_trimOfSeen, Cond.code yX1_trimOfSeen cX1_trimOfSeen 3 (some .int), Cond.methodLink RX1 58 yX4_clear, Cond.instanceMethod yX4_clear]
def wsL_law_r15 : List Cond := [Cond.selects RX4 yX4_clear yX4_clear, Cond.code yX4_clear cX4_clear 1 none, Cond.methodLink RX1 63 yX4_put, Cond.instanceMethod yX4_put, Cond.selects RX4 yX4_put yX4_put, Cond.code yX4_put cX4_put 3 none, Cond.methodLink RX1 71 yX4_trimmed, Cond.instanceMethod yX4_trimmed, Cond.selects RX4 yX4_trimmed yX4_trimmed, Cond.code yX4_trimmed cX4_trimmed 3 (some .int), Cond.methodLink RX3 114 yX1_trimOfMoves, Cond.instanceMethod yX1_trimOfMoves, Cond.selects RX1 yX1_trimOfMoves yX1_trimOfMoves, Cond.code yX1_trimOfMoves cX1_trimOfMoves 4 (some .int), Cond.methodLink RX0 94 yX0_moveClocks, Cond.instanceMethod yX0_moveClocks, Cond.selects RX0 yX0_moveClocks yX0_moveClocks, Cond.code yX0_moveClocks cX0_moveClocks 3 none, Cond.fieldLink RX0 149 "SlotStart$Node" "drift" "I", Cond.fieldLink RX0 152 "SlotStart$Node" "rate" "I", Cond.fieldLink RX0 155 "SlotStart$Node" "age" "I", Cond.methodLink RX5 94 yX0_thatAre, Cond.instanceMethod yX0_thatAre, Cond.selects RX0 yX0_thatAre yX0_thatAre]
def wsL_law_r16 : List Cond := [Cond.code yX0_thatAre cX0_thatAre 4 (some .int), Cond.methodLink RL 40 yX6_run, Cond.instanceMethod yX6_run, Cond.selects RX6 yX6_run yX6_run, Cond.code yX6_run cX6_run 3 (some .int), Cond.methodLink RX6 139 yX6_cycle, Cond.instanceMethod yX6_cycle, Cond.selects RX6 yX6_cycle yX6_cycle, Cond.code yX6_cycle cX6_cycle 2 none, Cond.methodLink RX6 127 yX6_laySenders, Cond.instanceMethod yX6_laySenders, Cond.selects RX6 yX6_laySenders yX6_laySenders, Cond.code yX6_laySenders cX6_laySenders 2 none, Cond.methodLink RX6 76 yX6_isFirst, Cond.instanceMethod yX6_isFirst, Cond.selects RX6 yX6_isFirst yX6_isFirst, Cond.code yX6_isFirst cX6_isFirst 2 (some .boolean), Cond.methodLink RX6 79 yX6_givesWay, Cond.instanceMethod yX6_givesWay, Cond.selects RX6 yX6_givesWay yX6_givesWay, Cond.code yX6_givesWay cX6_givesWay 4 (some .boolean), Cond.methodLink RX6 130 yX6_hear, Cond.instanceMethod yX6_hear, Cond.selects RX6 yX6_hear yX6_hear]
def wsL_law_r17 : List Cond := [Cond.code yX6_hear cX6_hear 3 none, Cond.methodLink RX6 133 yX6_end, Cond.instanceMethod yX6_end, Cond.selects RX6 yX6_end yX6_end, Cond.code yX6_end cX6_end 2 none, Cond.methodLink RX6 82 yX6_keepEvent, Cond.instanceMethod yX6_keepEvent, Cond.selects RX6 yX6_keepEvent yX6_keepEvent, Cond.code yX6_keepEvent cX6_keepEvent 3 none, Cond.methodLink RX6 115 yX6_listen, Cond.instanceMethod yX6_listen, Cond.selects RX6 yX6_listen yX6_listen, Cond.code yX6_listen cX6_listen 3 none, Cond.methodLink RX6 89 yX6_otherSign, Cond.instanceMethod yX6_otherSign, Cond.selects RX6 yX6_otherSign yX6_otherSign, Cond.code yX6_otherSign cX6_otherSign 4 (some .boolean), Cond.methodLink RX6 92 yX6_follow, Cond.instanceMethod yX6_follow, Cond.selects RX6 yX6_follow yX6_follow, Cond.code yX6_follow cX6_follow 4 none, Cond.methodLink RX6 86 yX6_become, Cond.instanceMethod yX6_become, Cond.selects RX6 yX6_become yX6_become]
def wsL_law_r18 : List Cond := [Cond.code yX6_become cX6_become 3 none, Cond.methodLink RX6 118 yX6_lead, Cond.instanceMethod yX6_lead, Cond.selects RX6 yX6_lead yX6_lead, Cond.code yX6_lead cX6_lead 2 none, Cond.methodLink RX6 121 yX6_join, Cond.instanceMethod yX6_join, Cond.selects RX6 yX6_join yX6_join, Cond.code yX6_join cX6_join 2 none, Cond.methodLink RX6 124 yX6_keepOn, Cond.instanceMethod yX6_keepOn, Cond.selects RX6 yX6_keepOn yX6_keepOn, Cond.code yX6_keepOn cX6_keepOn 2 none, Cond.methodLink RX6 112 yX6_correct, Cond.instanceMethod yX6_correct, Cond.selects RX6 yX6_correct yX6_correct, Cond.code yX6_correct cX6_correct 4 none, Cond.methodLink RX6 102 yX6_trimSeen, Cond.instanceMethod yX6_trimSeen, Cond.selects RX6 yX6_trimSeen yX6_trimSeen, Cond.code yX6_trimSeen cX6_trimSeen 3 (some .int), Cond.fieldLink RX6 72 "SlotStartModel" "many" "I", Cond.methodLink RX6 95 yX6_lay, Cond.instanceMethod yX6_lay]
def wsL_law_r19 : List Cond := [Cond.selects RX6 yX6_lay yX6_lay, Cond.code yX6_lay cX6_lay 3 none, Cond.methodLink RX6 98 yX6_trimmed, Cond.instanceMethod yX6_trimmed, Cond.selects RX6 yX6_trimmed yX6_trimmed, Cond.code yX6_trimmed cX6_trimmed 2 (some .int), Cond.methodLink RX6 106 yX6_plain, Cond.static yX6_plain, Cond.code yX6_plain cX6_plain 1 (some .int), Cond.methodLink RX6 109 yX6_trimChanged, Cond.instanceMethod yX6_trimChanged, Cond.selects RX6 yX6_trimChanged yX6_trimChanged, Cond.code yX6_trimChanged cX6_trimChanged 3 (some .int), Cond.methodLink RX6 136 yX6_keepCycle, Cond.instanceMethod yX6_keepCycle, Cond.selects RX6 yX6_keepCycle yX6_keepCycle, Cond.code yX6_keepCycle cX6_keepCycle 3 none, Cond.methodLink RX6 142 yX6_setOf, Cond.instanceMethod yX6_setOf, Cond.selects RX6 yX6_setOf yX6_setOf, Cond.code yX6_setOf cX6_setOf 4 (some .int), Cond.methodLink RL 41 yX5_told, Cond.instanceMethod yX5_told, Cond.selects RX5 yX5_told yX5_told]
def wsL_law_r20 : List Cond := [Cond.code yX5_told cX5_told 4 (some .int), Cond.fieldLink RX5 97 "SlotStart$Node" "age" "I", Cond.fieldLink RX5 100 "SlotStart$Node" "quiet" "I", Cond.fieldLink RX5 103 "SlotStart$Node" "good" "I", Cond.fieldLink RX5 106 "SlotStart$Node" "bad" "I", Cond.fieldLink RX5 109 "SlotStart$Node" "at" "I", Cond.constant RX5 112 (100000), Cond.fieldLink RX5 113 "SlotStart$Node" "rate" "I", Cond.fieldLink RX5 116 "SlotStart$Node" "sent" "I", Cond.fieldLink RX5 119 "SlotStart$Node" "last" "LSlotStart$Hearing;", Cond.fieldLink RX5 123 "SlotStart$Hearing" "guide" "I", Cond.fieldLink RX5 128 "SlotStart$Hearing" "heard" "I", Cond.methodLink RL 44 yX6_told, Cond.instanceMethod yX6_told, Cond.selects RX6 yX6_told yX6_told, Cond.code yX6_told cX6_told 3 (some .int), Cond.constant RX6 145 (100000), Cond.methodLink RX6 146 yX6_size, Cond.static yX6_size, Cond.code yX6_size cX6_size 3 (some .int), Cond.methodLink RL 45 yX5_seen, Cond.instanceMethod yX5_seen, Cond.selects RX5 yX5_seen yX5_seen, Cond.code yX5_seen cX5_seen 4 (some .int)]
def wsL_law_r21 : List Cond := [Cond.fieldLink RX5 134 "SlotStart$Hearing" "seen" "[I", Cond.methodLink RX5 131 yX5_isIn, Cond.methodLink RL 48 yX6_seen, Cond.instanceMethod yX6_seen, Cond.selects RX6 yX6_seen yX6_seen, Cond.code yX6_seen cX6_seen 3 (some .int), Cond.methodLink RL 49 yX5_trim, Cond.instanceMethod yX5_trim, Cond.selects RX5 yX5_trim yX5_trim, Cond.code yX5_trim cX5_trim 6 (some .int), Cond.methodLink RX5 138 yX4_clear, Cond.methodLink RX5 141 yX4_put, Cond.methodLink RX5 145 yX4_areWithin, Cond.instanceMethod yX4_areWithin, Cond.selects RX4 yX4_areWithin yX4_areWithin, Cond.code yX4_areWithin cX4_areWithin 4 (some .boolean), Cond.methodLink RX5 148 yX4_trimmed, Cond.methodLink RL 53 yX6_trim, Cond.instanceMethod yX6_trim, Cond.selects RX6 yX6_trim yX6_trim, Cond.code yX6_trim cX6_trim 6 (some .int), Cond.methodLink RX6 149 yX6_isWithin, Cond.static yX6_isWithin, Cond.code yX6_isWithin cX6_isWithin 1 (some .boolean)]
def wsL_law_r22 : List Cond := [Cond.methodLink RL 54 yX5_event, Cond.instanceMethod yX5_event, Cond.selects RX5 yX5_event yX5_event, Cond.code yX5_event cX5_event 4 (some .int), Cond.fieldLink RX5 151 "SlotStart$Bus" "log" "LSlotStart$Log;", Cond.fieldLink RX5 155 "SlotStart$Log" "size" "I", Cond.fieldLink RX5 163 "SlotStart$Log" "cycles" "[I", Cond.fieldLink RX5 166 "SlotStart$Log" "nodes" "[I", Cond.fieldLink RX5 168 "SlotStart$Log" "things" "[I", Cond.methodLink RX5 160 yX2_placeOf, Cond.instanceMethod yX2_placeOf, Cond.selects RX2 yX2_placeOf yX2_placeOf, Cond.code yX2_placeOf cX2_placeOf 2 (some .int), Cond.methodLink RL 57 yX6_event, Cond.instanceMethod yX6_event, Cond.selects RX6 yX6_event yX6_event, Cond.code yX6_event cX6_event 3 (some .int), Cond.methodLink RL 58 yX5_spread, Cond.instanceMethod yX5_spread, Cond.selects RX5 yX5_spread yX5_spread, Cond.code yX5_spread cX5_spread 1 (some .int), Cond.methodLink RX5 171 yX0_apart, Cond.instanceMethod yX0_apart, Cond.selects RX0 yX0_apart yX0_apart]
def wsL_law_r23 : List Cond := [Cond.code yX0_apart cX0_apart 7 (some .int), Cond.methodLink RX0 72 Lib.Math.min.name, Cond.methodLink RX0 78 Lib.Math.max.name, Cond.methodLink RL 62 yX6_spread, Cond.instanceMethod yX6_spread, Cond.selects RX6 yX6_spread yX6_spread, Cond.code yX6_spread cX6_spread 1 (some .int), Cond.methodLink RX6 152 yX6_spreadBut, Cond.instanceMethod yX6_spreadBut, Cond.selects RX6 yX6_spreadBut yX6_spreadBut, Cond.code yX6_spreadBut cX6_spreadBut 6 (some .int), Cond.methodLink RL 63 yX5_soon, Cond.instanceMethod yX5_soon, Cond.selects RX5 yX5_soon yX5_soon, Cond.code yX5_soon cX5_soon 3 (some .int), Cond.methodLink RX5 174 yX0_copy, Cond.instanceMethod yX0_copy, Cond.selects RX0 yX0_copy yX0_copy, Cond.code yX0_copy cX0_copy 3 none, Cond.methodLink RX0 44 yX3_copy, Cond.instanceMethod yX3_copy, Cond.selects RX3 yX3_copy yX3_copy, Cond.code yX3_copy cX3_copy 2 none, Cond.methodLink RX3 65 yX1_copy]
def wsL_law_r24 : List Cond := [Cond.instanceMethod yX1_copy, Cond.selects RX1 yX1_copy yX1_copy, Cond.code yX1_copy cX1_copy 3 none, Cond.methodLink RX0 48 yX2_copy, Cond.instanceMethod yX2_copy, Cond.selects RX2 yX2_copy yX2_copy, Cond.code yX2_copy cX2_copy 3 none, Cond.methodLink RX5 178 yX5_areAllIn, Cond.static yX5_areAllIn, Cond.code yX5_areAllIn cX5_areAllIn 2 (some .boolean), Cond.methodLink RL 66 yX6_soon, Cond.instanceMethod yX6_soon, Cond.selects RX6 yX6_soon yX6_soon, Cond.code yX6_soon cX6_soon 4 (some .int), Cond.methodLink RX6 155 yX6_inSet, Cond.instanceMethod yX6_inSet, Cond.selects RX6 yX6_inSet yX6_inSet, Cond.code yX6_inSet cX6_inSet 3 (some .int), Cond.methodLink RX6 158 yX6_save, Cond.instanceMethod yX6_save, Cond.selects RX6 yX6_save yX6_save, Cond.code yX6_save cX6_save 3 none, Cond.methodLink RX6 161 yX6_load, Cond.instanceMethod yX6_load]
def wsL_law_r25 : List Cond := [Cond.selects RX6 yX6_load yX6_load, Cond.code yX6_load cX6_load 3 none, Cond.methodLink RL 67 yX5_bears, Cond.instanceMethod yX5_bears, Cond.selects RX5 yX5_bears yX5_bears, Cond.code yX5_bears cX5_bears 5 (some .int), Cond.methodLink RX5 184 yX5_staysTogether, Cond.instanceMethod yX5_staysTogether, Cond.selects RX5 yX5_staysTogether yX5_staysTogether, Cond.code yX5_staysTogether cX5_staysTogether 7 (some .boolean), Cond.methodLink RL 70 yX6_bears, Cond.instanceMethod yX6_bears, Cond.selects RX6 yX6_bears yX6_bears, Cond.code yX6_bears cX6_bears 5 (some .int), Cond.methodLink RX6 164 yX6_bearsOne, Cond.instanceMethod yX6_bearsOne, Cond.selects RX6 yX6_bearsOne yX6_bearsOne, Cond.code yX6_bearsOne cX6_bearsOne 8 (some .boolean), Cond.methodLink RL 71 yX5_image, Cond.instanceMethod yX5_image, Cond.selects RX5 yX5_image yX5_image, Cond.code yX5_image cX5_image 2 (some .int), Cond.methodLink RL 74 yX6_image, Cond.instanceMethod yX6_image]
def wsL_law_r26 : List Cond := [Cond.selects RX6 yX6_image yX6_image, Cond.code yX6_image cX6_image 2 (some .int), Cond.methodLink RL 75 yX5_restore, Cond.instanceMethod yX5_restore, Cond.selects RX5 yX5_restore yX5_restore, Cond.code yX5_restore cX5_restore 2 (some .int), Cond.methodLink RL 78 yX6_restore, Cond.instanceMethod yX6_restore, Cond.selects RX6 yX6_restore yX6_restore, Cond.code yX6_restore cX6_restore 2 (some .int), Cond.methodLink RL 79 yX5_count, Cond.instanceMethod yX5_count, Cond.selects RX5 yX5_count yX5_count, Cond.code yX5_count cX5_count 2 (some .int), Cond.fieldLink RX5 187 "SlotStart$Bus" "cycles" "I", Cond.fieldLink RX5 189 "SlotStart$Bus" "senders" "I", Cond.methodLink RL 82 yX6_count, Cond.instanceMethod yX6_count, Cond.selects RX6 yX6_count yX6_count, Cond.code yX6_count cX6_count 2 (some .int)]
def wsL_law : List Cond := (wsL_law_r1 ++ (wsL_law_r2 ++ (wsL_law_r3 ++ (wsL_law_r4 ++ (wsL_law_r5 ++ (wsL_law_r6 ++ (wsL_law_r7 ++ (wsL_law_r8 ++ (wsL_law_r9 ++ (wsL_law_r10 ++ (wsL_law_r11 ++ (wsL_law_r12 ++ (wsL_law_r13 ++ (wsL_law_r14 ++ (wsL_law_r15 ++ (wsL_law_r16 ++ (wsL_law_r17 ++ (wsL_law_r18 ++ (wsL_law_r19 ++ (wsL_law_r20 ++ (wsL_law_r21 ++ (wsL_law_r22 ++ (wsL_law_r23 ++ (wsL_law_r24 ++ (wsL_law_r25 ++ wsL_law_r26))))))))))))))))))))))))) ++ wsX50 ++ wsX60 ++ wsX00 ++ wsX40 ++ wsX20 ++ wsX30 ++ wsX10 ++ ([] : List Cond)
theorem inlX0 : ∀ w ∈ wsX00, w ∈ wsL_law := fun _ h => List.mem_append_left _ (List.mem_append_left _ (List.mem_append_left _ (List.mem_append_left _ (List.mem_append_left _ (List.mem_append_right _ h)))))
theorem inlX1 : ∀ w ∈ wsX10, w ∈ wsL_law := fun _ h => List.mem_append_left _ (List.mem_append_right _ h)
theorem inlX2 : ∀ w ∈ wsX20, w ∈ wsL_law := fun _ h => List.mem_append_left _ (List.mem_append_left _ (List.mem_append_left _ (List.mem_append_right _ h)))
theorem inlX3 : ∀ w ∈ wsX30, w ∈ wsL_law := fun _ h => List.mem_append_left _ (List.mem_append_left _ (List.mem_append_right _ h))
theorem inlX4 : ∀ w ∈ wsX40, w ∈ wsL_law := fun _ h => List.mem_append_left _ (List.mem_append_left _ (List.mem_append_left _ (List.mem_append_left _ (List.mem_append_right _ h))))
theorem inlX5 : ∀ w ∈ wsX50, w ∈ wsL_law := fun _ h => List.mem_append_left _ (List.mem_append_left _ (List.mem_append_left _ (List.mem_append_left _ (List.mem_append_left _ (List.mem_append_left _ (List.mem_append_left _ (List.mem_append_right _ h)))))))
theorem inlX6 : ∀ w ∈ wsX60, w ∈ wsL_law := fun _ h => List.mem_append_left _ (List.mem_append_left _ (List.mem_append_left _ (List.mem_append_left _ (List.mem_append_left _ (List.mem_append_left _ (List.mem_append_right _ h))))))
abbrev vwCl : List vw_C := [(RX0, TX0, 6), (RX1, TX1, 7), (RX2, TX2, 5), (RX3, TX3, 16), (RX4, TX4, 2), (RX5, TX5, 5), (RX6, TX6, 14)]
end
section
theorem wsr_all : ∀ w ∈ (wsL_law_r1 ++ (wsL_law_r2 ++ (wsL_law_r3 ++ (wsL_law_r4 ++ (wsL_law_r5 ++ (wsL_law_r6 ++ (wsL_law_r7 ++ (wsL_law_r8 ++ (wsL_law_r9 ++ (wsL_law_r10 ++ (wsL_law_r11 ++ (wsL_law_r12 ++ (wsL_law_r13 ++ (wsL_law_r14 ++ (wsL_law_r15 ++ (wsL_law_r16 ++ (wsL_law_r17 ++ (wsL_law_r18 ++ (wsL_law_r19 ++ (wsL_law_r20 ++ (wsL_law_r21 ++ (wsL_law_r22 ++ (wsL_law_r23 ++ (wsL_law_r24 ++ (wsL_law_r25 ++ (wsL_law_r26)))))))))))))))))))))))))), w ∈ wsL_law := fun _ h => List.mem_append_left _ (List.mem_append_left _ (List.mem_append_left _ (List.mem_append_left _ (List.mem_append_left _ (List.mem_append_left _ (List.mem_append_left _ (List.mem_append_left _  h)))))))
theorem wsr_1 : ∀ w ∈ wsL_law_r1, w ∈ wsL_law := fun w h => wsr_all w (List.mem_append_left _ h)
theorem wsr_2 : ∀ w ∈ wsL_law_r2, w ∈ wsL_law := fun w h => wsr_all w (List.mem_append_right _ (List.mem_append_left _ h))
theorem wsr_3 : ∀ w ∈ wsL_law_r3, w ∈ wsL_law := fun w h => wsr_all w (List.mem_append_right _ (List.mem_append_right _ (List.mem_append_left _ h)))
theorem wsr_4 : ∀ w ∈ wsL_law_r4, w ∈ wsL_law := fun w h => wsr_all w (List.mem_append_right _ (List.mem_append_right _ (List.mem_append_right _ (List.mem_append_left _ h))))
theorem wsr_5 : ∀ w ∈ wsL_law_r5, w ∈ wsL_law := fun w h => wsr_all w (List.mem_append_right _ (List.mem_append_right _ (List.mem_append_right _ (List.mem_append_right _ (List.mem_append_left _ h)))))
theorem wsr_6 : ∀ w ∈ wsL_law_r6, w ∈ wsL_law := fun w h => wsr_all w (List.mem_append_right _ (List.mem_append_right _ (List.mem_append_right _ (List.mem_append_right _ (List.mem_append_right _ (List.mem_append_left _ h))))))
theorem wsr_7 : ∀ w ∈ wsL_law_r7, w ∈ wsL_law := fun w h => wsr_all w (List.mem_append_right _ (List.mem_append_right _ (List.mem_append_right _ (List.mem_append_right _ (List.mem_append_right _ (List.mem_append_right _ (List.mem_append_left _ h)))))))
theorem wsr_8 : ∀ w ∈ wsL_law_r8, w ∈ wsL_law := fun w h => wsr_all w (List.mem_append_right _ (List.mem_append_right _ (List.mem_append_right _ (List.mem_append_right _ (List.mem_append_right _ (List.mem_append_right _ (List.mem_append_right _ (List.mem_append_left _ h))))))))
theorem wsr_9 : ∀ w ∈ wsL_law_r9, w ∈ wsL_law := fun w h => wsr_all w (List.mem_append_right _ (List.mem_append_right _ (List.mem_append_right _ (List.mem_append_right _ (List.mem_append_right _ (List.mem_append_right _ (List.mem_append_right _ (List.mem_append_right _ (List.mem_append_left _ h)))))))))
theorem wsr_10 : ∀ w ∈ wsL_law_r10, w ∈ wsL_law := fun w h => wsr_all w (List.mem_append_right _ (List.mem_append_right _ (List.mem_append_right _ (List.mem_append_right _ (List.mem_append_right _ (List.mem_append_right _ (List.mem_append_right _ (List.mem_append_right _ (List.mem_append_right _ (List.mem_append_left _ h))))))))))
theorem wsr_11 : ∀ w ∈ wsL_law_r11, w ∈ wsL_law := fun w h => wsr_all w (List.mem_append_right _ (List.mem_append_right _ (List.mem_append_right _ (List.mem_append_right _ (List.mem_append_right _ (List.mem_append_right _ (List.mem_append_right _ (List.mem_append_right _ (List.mem_append_right _ (List.mem_append_right _ (List.mem_append_left _ h)))))))))))
theorem wsr_12 : ∀ w ∈ wsL_law_r12, w ∈ wsL_law := fun w h => wsr_all w (List.mem_append_right _ (List.mem_append_right _ (List.mem_append_right _ (List.mem_append_right _ (List.mem_append_right _ (List.mem_append_right _ (List.mem_append_right _ (List.mem_append_right _ (List.mem_append_right _ (List.mem_append_right _ (List.mem_append_right _ (List.mem_append_left _ h))))))))))))
theorem wsr_13 : ∀ w ∈ wsL_law_r13, w ∈ wsL_law := fun w h => wsr_all w (List.mem_append_right _ (List.mem_append_right _ (List.mem_append_right _ (List.mem_append_right _ (List.mem_append_right _ (List.mem_append_right _ (List.mem_append_right _ (List.mem_append_right _ (List.mem_append_right _ (List.mem_append_right _ (List.mem_append_right _ (List.mem_append_right _ (List.mem_append_left _ h)))))))))))))
theorem wsr_14 : ∀ w ∈ wsL_law_r14, w ∈ wsL_law := fun w h => wsr_all w (List.mem_append_right _ (List.mem_append_right _ (List.mem_append_right _ (List.mem_append_right _ (List.mem_append_right _ (List.mem_append_right _ (List.mem_append_right _ (List.mem_append_right _ (List.mem_append_right _ (List.mem_append_right _ (List.mem_append_right _ (List.mem_append_right _ (List.mem_append_right _ (List.mem_append_left _ h))))))))))))))
theorem wsr_15 : ∀ w ∈ wsL_law_r15, w ∈ wsL_law := fun w h => wsr_all w (List.mem_append_right _ (List.mem_append_right _ (List.mem_append_right _ (List.mem_append_right _ (List.mem_append_right _ (List.mem_append_right _ (List.mem_append_right _ (List.mem_append_right _ (List.mem_append_right _ (List.mem_append_right _ (List.mem_append_right _ (List.mem_append_right _ (List.mem_append_right _ (List.mem_append_right _ (List.mem_append_left _ h)))))))))))))))
theorem wsr_16 : ∀ w ∈ wsL_law_r16, w ∈ wsL_law := fun w h => wsr_all w (List.mem_append_right _ (List.mem_append_right _ (List.mem_append_right _ (List.mem_append_right _ (List.mem_append_right _ (List.mem_append_right _ (List.mem_append_right _ (List.mem_append_right _ (List.mem_append_right _ (List.mem_append_right _ (List.mem_append_right _ (List.mem_append_right _ (List.mem_append_right _ (List.mem_append_right _ (List.mem_append_right _ (List.mem_append_left _ h))))))))))))))))
theorem wsr_17 : ∀ w ∈ wsL_law_r17, w ∈ wsL_law := fun w h => wsr_all w (List.mem_append_right _ (List.mem_append_right _ (List.mem_append_right _ (List.mem_append_right _ (List.mem_append_right _ (List.mem_append_right _ (List.mem_append_right _ (List.mem_append_right _ (List.mem_append_right _ (List.mem_append_right _ (List.mem_append_right _ (List.mem_append_right _ (List.mem_append_right _ (List.mem_append_right _ (List.mem_append_right _ (List.mem_append_right _ (List.mem_append_left _ h)))))))))))))))))
theorem wsr_18 : ∀ w ∈ wsL_law_r18, w ∈ wsL_law := fun w h => wsr_all w (List.mem_append_right _ (List.mem_append_right _ (List.mem_append_right _ (List.mem_append_right _ (List.mem_append_right _ (List.mem_append_right _ (List.mem_append_right _ (List.mem_append_right _ (List.mem_append_right _ (List.mem_append_right _ (List.mem_append_right _ (List.mem_append_right _ (List.mem_append_right _ (List.mem_append_right _ (List.mem_append_right _ (List.mem_append_right _ (List.mem_append_right _ (List.mem_append_left _ h))))))))))))))))))
theorem wsr_19 : ∀ w ∈ wsL_law_r19, w ∈ wsL_law := fun w h => wsr_all w (List.mem_append_right _ (List.mem_append_right _ (List.mem_append_right _ (List.mem_append_right _ (List.mem_append_right _ (List.mem_append_right _ (List.mem_append_right _ (List.mem_append_right _ (List.mem_append_right _ (List.mem_append_right _ (List.mem_append_right _ (List.mem_append_right _ (List.mem_append_right _ (List.mem_append_right _ (List.mem_append_right _ (List.mem_append_right _ (List.mem_append_right _ (List.mem_append_right _ (List.mem_append_left _ h)))))))))))))))))))
theorem wsr_20 : ∀ w ∈ wsL_law_r20, w ∈ wsL_law := fun w h => wsr_all w (List.mem_append_right _ (List.mem_append_right _ (List.mem_append_right _ (List.mem_append_right _ (List.mem_append_right _ (List.mem_append_right _ (List.mem_append_right _ (List.mem_append_right _ (List.mem_append_right _ (List.mem_append_right _ (List.mem_append_right _ (List.mem_append_right _ (List.mem_append_right _ (List.mem_append_right _ (List.mem_append_right _ (List.mem_append_right _ (List.mem_append_right _ (List.mem_append_right _ (List.mem_append_right _ (List.mem_append_left _ h))))))))))))))))))))
theorem wsr_21 : ∀ w ∈ wsL_law_r21, w ∈ wsL_law := fun w h => wsr_all w (List.mem_append_right _ (List.mem_append_right _ (List.mem_append_right _ (List.mem_append_right _ (List.mem_append_right _ (List.mem_append_right _ (List.mem_append_right _ (List.mem_append_right _ (List.mem_append_right _ (List.mem_append_right _ (List.mem_append_right _ (List.mem_append_right _ (List.mem_append_right _ (List.mem_append_right _ (List.mem_append_right _ (List.mem_append_right _ (List.mem_append_right _ (List.mem_append_right _ (List.mem_append_right _ (List.mem_append_right _ (List.mem_append_left _ h)))))))))))))))))))))
theorem wsr_22 : ∀ w ∈ wsL_law_r22, w ∈ wsL_law := fun w h => wsr_all w (List.mem_append_right _ (List.mem_append_right _ (List.mem_append_right _ (List.mem_append_right _ (List.mem_append_right _ (List.mem_append_right _ (List.mem_append_right _ (List.mem_append_right _ (List.mem_append_right _ (List.mem_append_right _ (List.mem_append_right _ (List.mem_append_right _ (List.mem_append_right _ (List.mem_append_right _ (List.mem_append_right _ (List.mem_append_right _ (List.mem_append_right _ (List.mem_append_right _ (List.mem_append_right _ (List.mem_append_right _ (List.mem_append_right _ (List.mem_append_left _ h))))))))))))))))))))))
theorem wsr_23 : ∀ w ∈ wsL_law_r23, w ∈ wsL_law := fun w h => wsr_all w (List.mem_append_right _ (List.mem_append_right _ (List.mem_append_right _ (List.mem_append_right _ (List.mem_append_right _ (List.mem_append_right _ (List.mem_append_right _ (List.mem_append_right _ (List.mem_append_right _ (List.mem_append_right _ (List.mem_append_right _ (List.mem_append_right _ (List.mem_append_right _ (List.mem_append_right _ (List.mem_append_right _ (List.mem_append_right _ (List.mem_append_right _ (List.mem_append_right _ (List.mem_append_right _ (List.mem_append_right _ (List.mem_append_right _ (List.mem_append_right _ (List.mem_append_left _ h)))))))))))))))))))))))
theorem wsr_24 : ∀ w ∈ wsL_law_r24, w ∈ wsL_law := fun w h => wsr_all w (List.mem_append_right _ (List.mem_append_right _ (List.mem_append_right _ (List.mem_append_right _ (List.mem_append_right _ (List.mem_append_right _ (List.mem_append_right _ (List.mem_append_right _ (List.mem_append_right _ (List.mem_append_right _ (List.mem_append_right _ (List.mem_append_right _ (List.mem_append_right _ (List.mem_append_right _ (List.mem_append_right _ (List.mem_append_right _ (List.mem_append_right _ (List.mem_append_right _ (List.mem_append_right _ (List.mem_append_right _ (List.mem_append_right _ (List.mem_append_right _ (List.mem_append_right _ (List.mem_append_left _ h))))))))))))))))))))))))
theorem wsr_25 : ∀ w ∈ wsL_law_r25, w ∈ wsL_law := fun w h => wsr_all w (List.mem_append_right _ (List.mem_append_right _ (List.mem_append_right _ (List.mem_append_right _ (List.mem_append_right _ (List.mem_append_right _ (List.mem_append_right _ (List.mem_append_right _ (List.mem_append_right _ (List.mem_append_right _ (List.mem_append_right _ (List.mem_append_right _ (List.mem_append_right _ (List.mem_append_right _ (List.mem_append_right _ (List.mem_append_right _ (List.mem_append_right _ (List.mem_append_right _ (List.mem_append_right _ (List.mem_append_right _ (List.mem_append_right _ (List.mem_append_right _ (List.mem_append_right _ (List.mem_append_right _ (List.mem_append_left _ h)))))))))))))))))))))))))
theorem wsr_26 : ∀ w ∈ wsL_law_r26, w ∈ wsL_law := fun w h => wsr_all w (List.mem_append_right _ (List.mem_append_right _ (List.mem_append_right _ (List.mem_append_right _ (List.mem_append_right _ (List.mem_append_right _ (List.mem_append_right _ (List.mem_append_right _ (List.mem_append_right _ (List.mem_append_right _ (List.mem_append_right _ (List.mem_append_right _ (List.mem_append_right _ (List.mem_append_right _ (List.mem_append_right _ (List.mem_append_right _ (List.mem_append_right _ (List.mem_append_right _ (List.mem_append_right _ (List.mem_append_right _ (List.mem_append_right _ (List.mem_append_right _ (List.mem_append_right _ (List.mem_append_right _ (List.mem_append_right _ (h))))))))))))))))))))))))))
theorem wd_0 : (Cond.classLink RL 7 RX5 : Cond) ∈ wsL_law := wsr_1 _ (List.mem_of_getElem? (i := 0) rfl)
theorem wd_1 : (Cond.instantiable RX5 5 : Cond) ∈ wsL_law := wsr_1 _ (List.mem_of_getElem? (i := 1) rfl)
theorem wd_2 : (Cond.initialized RX5 : Cond) ∈ wsL_law := wsr_1 _ (List.mem_of_getElem? (i := 2) rfl)
theorem wd_3 : (Cond.classLink RL 10 RX6 : Cond) ∈ wsL_law := wsr_1 _ (List.mem_of_getElem? (i := 3) rfl)
theorem wd_4 : (Cond.instantiable RX6 14 : Cond) ∈ wsL_law := wsr_1 _ (List.mem_of_getElem? (i := 4) rfl)
theorem wd_5 : (Cond.initialized RX6 : Cond) ∈ wsL_law := wsr_1 _ (List.mem_of_getElem? (i := 5) rfl)
theorem wd_6 : (Cond.methodLink RL 9 yX5_init : Cond) ∈ wsL_law := wsr_1 _ (List.mem_of_getElem? (i := 6) rfl)
theorem wd_7 : (Cond.instanceMethod yX5_init : Cond) ∈ wsL_law := wsr_1 _ (List.mem_of_getElem? (i := 7) rfl)
theorem wd_8 : (Cond.code yX5_init cX5_init 2 none : Cond) ∈ wsL_law := wsr_1 _ (List.mem_of_getElem? (i := 8) rfl)
theorem wd_9 : (Cond.methodLink RX5 1 objectInit : Cond) ∈ wsL_law := wsr_1 _ (List.mem_of_getElem? (i := 9) rfl)
theorem wd_10 : (Cond.instanceMethod objectInit : Cond) ∈ wsL_law := wsr_1 _ (List.mem_of_getElem? (i := 10) rfl)
theorem wd_11 : (Cond.code objectInit ⟨#[0xb1]⟩ 1 none : Cond) ∈ wsL_law := wsr_1 _ (List.mem_of_getElem? (i := 11) rfl)
theorem wd_12 : (Cond.classLink RX5 7 RX0 : Cond) ∈ wsL_law := wsr_1 _ (List.mem_of_getElem? (i := 12) rfl)
theorem wd_13 : (Cond.instantiable RX0 6 : Cond) ∈ wsL_law := wsr_1 _ (List.mem_of_getElem? (i := 13) rfl)
theorem wd_14 : (Cond.initialized RX0 : Cond) ∈ wsL_law := wsr_1 _ (List.mem_of_getElem? (i := 14) rfl)
theorem wd_15 : (Cond.fieldLink RX5 10 "SlotStart" "bus" "LSlotStart$Bus;" : Cond) ∈ wsL_law := wsr_1 _ (List.mem_of_getElem? (i := 15) rfl)
theorem wd_16 : (Cond.fieldLink RX5 16 "SlotStart" "trial" "LSlotStart$Bus;" : Cond) ∈ wsL_law := wsr_1 _ (List.mem_of_getElem? (i := 16) rfl)
theorem wd_17 : (Cond.fieldLink RX5 19 "SlotStart" "images" "[LSlotStart$Bus;" : Cond) ∈ wsL_law := wsr_1 _ (List.mem_of_getElem? (i := 17) rfl)
theorem wd_18 : (Cond.fieldLink RX5 23 "SlotStart" "kept" "I" : Cond) ∈ wsL_law := wsr_1 _ (List.mem_of_getElem? (i := 18) rfl)
theorem wd_19 : (Cond.classLink RX5 27 RX4 : Cond) ∈ wsL_law := wsr_1 _ (List.mem_of_getElem? (i := 19) rfl)
theorem wd_20 : (Cond.instantiable RX4 2 : Cond) ∈ wsL_law := wsr_1 _ (List.mem_of_getElem? (i := 20) rfl)
theorem wd_21 : (Cond.initialized RX4 : Cond) ∈ wsL_law := wsr_1 _ (List.mem_of_getElem? (i := 21) rfl)
theorem wd_22 : (Cond.fieldLink RX5 30 "SlotStart" "given" "LSlotStart$Numbers;" : Cond) ∈ wsL_law := wsr_1 _ (List.mem_of_getElem? (i := 22) rfl)
theorem wd_23 : (Cond.methodLink RX5 9 yX0_init : Cond) ∈ wsL_law := wsr_1 _ (List.mem_of_getElem? (i := 23) rfl)
theorem wd_24 : (Cond.instanceMethod yX0_init : Cond) ∈ wsL_law := wsr_2 _ (List.mem_of_getElem? (i := 0) rfl)
theorem wd_25 : (Cond.code yX0_init cX0_init 2 none : Cond) ∈ wsL_law := wsr_2 _ (List.mem_of_getElem? (i := 1) rfl)
theorem wd_26 : (Cond.methodLink RX0 3 objectInit : Cond) ∈ wsL_law := wsr_2 _ (List.mem_of_getElem? (i := 2) rfl)
theorem wd_27 : (Cond.classLink RX0 9 RX3 : Cond) ∈ wsL_law := wsr_2 _ (List.mem_of_getElem? (i := 3) rfl)
theorem wd_28 : (Cond.fieldLink RX0 11 "SlotStart$Bus" "nodes" "[LSlotStart$Node;" : Cond) ∈ wsL_law := wsr_2 _ (List.mem_of_getElem? (i := 4) rfl)
theorem wd_29 : (Cond.classLink RX0 17 RX2 : Cond) ∈ wsL_law := wsr_2 _ (List.mem_of_getElem? (i := 5) rfl)
theorem wd_30 : (Cond.instantiable RX2 5 : Cond) ∈ wsL_law := wsr_2 _ (List.mem_of_getElem? (i := 6) rfl)
theorem wd_31 : (Cond.initialized RX2 : Cond) ∈ wsL_law := wsr_2 _ (List.mem_of_getElem? (i := 7) rfl)
theorem wd_32 : (Cond.fieldLink RX0 20 "SlotStart$Bus" "log" "LSlotStart$Log;" : Cond) ∈ wsL_law := wsr_2 _ (List.mem_of_getElem? (i := 8) rfl)
theorem wd_33 : (Cond.classLink RX0 24 RX4 : Cond) ∈ wsL_law := wsr_2 _ (List.mem_of_getElem? (i := 9) rfl)
theorem wd_34 : (Cond.fieldLink RX0 27 "SlotStart$Bus" "numbers" "LSlotStart$Numbers;" : Cond) ∈ wsL_law := wsr_2 _ (List.mem_of_getElem? (i := 10) rfl)
theorem wd_35 : (Cond.fieldLink RX0 31 "SlotStart$Bus" "bound" "I" : Cond) ∈ wsL_law := wsr_2 _ (List.mem_of_getElem? (i := 11) rfl)
theorem wd_36 : (Cond.fieldLink RX0 35 "SlotStart$Bus" "cycles" "I" : Cond) ∈ wsL_law := wsr_2 _ (List.mem_of_getElem? (i := 12) rfl)
theorem wd_37 : (Cond.fieldLink RX0 38 "SlotStart$Bus" "senders" "I" : Cond) ∈ wsL_law := wsr_2 _ (List.mem_of_getElem? (i := 13) rfl)
theorem wd_38 : (Cond.instantiable RX3 16 : Cond) ∈ wsL_law := wsr_2 _ (List.mem_of_getElem? (i := 14) rfl)
theorem wd_39 : (Cond.initialized RX3 : Cond) ∈ wsL_law := wsr_2 _ (List.mem_of_getElem? (i := 15) rfl)
theorem wd_40 : (Cond.instanceMethod yX2_init : Cond) ∈ wsL_law := wsr_2 _ (List.mem_of_getElem? (i := 16) rfl)
theorem wd_41 : (Cond.code yX2_init cX2_init 1 none : Cond) ∈ wsL_law := wsr_2 _ (List.mem_of_getElem? (i := 17) rfl)
theorem wd_42 : (Cond.methodLink RX2 3 objectInit : Cond) ∈ wsL_law := wsr_2 _ (List.mem_of_getElem? (i := 18) rfl)
theorem wd_43 : (Cond.arrayClass .int : Cond) ∈ wsL_law := wsr_2 _ (List.mem_of_getElem? (i := 19) rfl)
theorem wd_44 : (Cond.fieldLink RX2 9 "SlotStart$Log" "cycles" "[I" : Cond) ∈ wsL_law := wsr_2 _ (List.mem_of_getElem? (i := 20) rfl)
theorem wd_45 : (Cond.fieldLink RX2 15 "SlotStart$Log" "nodes" "[I" : Cond) ∈ wsL_law := wsr_2 _ (List.mem_of_getElem? (i := 21) rfl)
theorem wd_46 : (Cond.fieldLink RX2 18 "SlotStart$Log" "things" "[I" : Cond) ∈ wsL_law := wsr_2 _ (List.mem_of_getElem? (i := 22) rfl)
theorem wd_47 : (Cond.fieldLink RX2 21 "SlotStart$Log" "size" "I" : Cond) ∈ wsL_law := wsr_2 _ (List.mem_of_getElem? (i := 23) rfl)
theorem wd_48 : (Cond.fieldLink RX2 25 "SlotStart$Log" "first" "I" : Cond) ∈ wsL_law := wsr_3 _ (List.mem_of_getElem? (i := 0) rfl)
theorem wd_49 : (Cond.instanceMethod yX4_init : Cond) ∈ wsL_law := wsr_3 _ (List.mem_of_getElem? (i := 1) rfl)
theorem wd_50 : (Cond.code yX4_init cX4_init 1 none : Cond) ∈ wsL_law := wsr_3 _ (List.mem_of_getElem? (i := 2) rfl)
theorem wd_51 : (Cond.methodLink RX4 3 objectInit : Cond) ∈ wsL_law := wsr_3 _ (List.mem_of_getElem? (i := 3) rfl)
theorem wd_52 : (Cond.fieldLink RX4 9 "SlotStart$Numbers" "row" "[I" : Cond) ∈ wsL_law := wsr_3 _ (List.mem_of_getElem? (i := 4) rfl)
theorem wd_53 : (Cond.fieldLink RX4 15 "SlotStart$Numbers" "size" "I" : Cond) ∈ wsL_law := wsr_3 _ (List.mem_of_getElem? (i := 5) rfl)
theorem wd_54 : (Cond.methodLink RX0 41 yX3_init : Cond) ∈ wsL_law := wsr_3 _ (List.mem_of_getElem? (i := 6) rfl)
theorem wd_55 : (Cond.instanceMethod yX3_init : Cond) ∈ wsL_law := wsr_3 _ (List.mem_of_getElem? (i := 7) rfl)
theorem wd_56 : (Cond.code yX3_init cX3_init 2 none : Cond) ∈ wsL_law := wsr_3 _ (List.mem_of_getElem? (i := 8) rfl)
theorem wd_57 : (Cond.methodLink RX3 3 objectInit : Cond) ∈ wsL_law := wsr_3 _ (List.mem_of_getElem? (i := 9) rfl)
theorem wd_58 : (Cond.fieldLink RX3 9 "SlotStart$Node" "wait" "I" : Cond) ∈ wsL_law := wsr_3 _ (List.mem_of_getElem? (i := 10) rfl)
theorem wd_59 : (Cond.fieldLink RX3 15 "SlotStart$Node" "drift" "I" : Cond) ∈ wsL_law := wsr_3 _ (List.mem_of_getElem? (i := 11) rfl)
theorem wd_60 : (Cond.fieldLink RX3 18 "SlotStart$Node" "lie" "I" : Cond) ∈ wsL_law := wsr_3 _ (List.mem_of_getElem? (i := 12) rfl)
theorem wd_61 : (Cond.fieldLink RX3 21 "SlotStart$Node" "is" "I" : Cond) ∈ wsL_law := wsr_3 _ (List.mem_of_getElem? (i := 13) rfl)
theorem wd_62 : (Cond.fieldLink RX3 24 "SlotStart$Node" "isNew" "Z" : Cond) ∈ wsL_law := wsr_3 _ (List.mem_of_getElem? (i := 14) rfl)
theorem wd_63 : (Cond.fieldLink RX3 28 "SlotStart$Node" "age" "I" : Cond) ∈ wsL_law := wsr_3 _ (List.mem_of_getElem? (i := 15) rfl)
theorem wd_64 : (Cond.fieldLink RX3 31 "SlotStart$Node" "quiet" "I" : Cond) ∈ wsL_law := wsr_3 _ (List.mem_of_getElem? (i := 16) rfl)
theorem wd_65 : (Cond.fieldLink RX3 34 "SlotStart$Node" "good" "I" : Cond) ∈ wsL_law := wsr_3 _ (List.mem_of_getElem? (i := 17) rfl)
theorem wd_66 : (Cond.fieldLink RX3 37 "SlotStart$Node" "bad" "I" : Cond) ∈ wsL_law := wsr_3 _ (List.mem_of_getElem? (i := 18) rfl)
theorem wd_67 : (Cond.fieldLink RX3 40 "SlotStart$Node" "at" "I" : Cond) ∈ wsL_law := wsr_3 _ (List.mem_of_getElem? (i := 19) rfl)
theorem wd_68 : (Cond.fieldLink RX3 43 "SlotStart$Node" "rate" "I" : Cond) ∈ wsL_law := wsr_3 _ (List.mem_of_getElem? (i := 20) rfl)
theorem wd_69 : (Cond.fieldLink RX3 46 "SlotStart$Node" "sent" "I" : Cond) ∈ wsL_law := wsr_3 _ (List.mem_of_getElem? (i := 21) rfl)
theorem wd_70 : (Cond.classLink RX3 49 RX1 : Cond) ∈ wsL_law := wsr_3 _ (List.mem_of_getElem? (i := 22) rfl)
theorem wd_71 : (Cond.instantiable RX1 7 : Cond) ∈ wsL_law := wsr_3 _ (List.mem_of_getElem? (i := 23) rfl)
theorem wd_72 : (Cond.initialized RX1 : Cond) ∈ wsL_law := wsr_4 _ (List.mem_of_getElem? (i := 0) rfl)
theorem wd_73 : (Cond.fieldLink RX3 52 "SlotStart$Node" "last" "LSlotStart$Hearing;" : Cond) ∈ wsL_law := wsr_4 _ (List.mem_of_getElem? (i := 1) rfl)
theorem wd_74 : (Cond.fieldLink RX3 56 "SlotStart$Node" "ahead" "LSlotStart$Hearing;" : Cond) ∈ wsL_law := wsr_4 _ (List.mem_of_getElem? (i := 2) rfl)
theorem wd_75 : (Cond.fieldLink RX3 59 "SlotStart$Node" "kind" "I" : Cond) ∈ wsL_law := wsr_4 _ (List.mem_of_getElem? (i := 3) rfl)
theorem wd_76 : (Cond.fieldLink RX3 62 "SlotStart$Node" "slot" "I" : Cond) ∈ wsL_law := wsr_4 _ (List.mem_of_getElem? (i := 4) rfl)
theorem wd_77 : (Cond.instanceMethod yX1_init : Cond) ∈ wsL_law := wsr_4 _ (List.mem_of_getElem? (i := 5) rfl)
theorem wd_78 : (Cond.code yX1_init cX1_init 1 none : Cond) ∈ wsL_law := wsr_4 _ (List.mem_of_getElem? (i := 6) rfl)
theorem wd_79 : (Cond.methodLink RX1 3 objectInit : Cond) ∈ wsL_law := wsr_4 _ (List.mem_of_getElem? (i := 7) rfl)
theorem wd_80 : (Cond.fieldLink RX1 9 "SlotStart$Hearing" "heard" "I" : Cond) ∈ wsL_law := wsr_4 _ (List.mem_of_getElem? (i := 8) rfl)
theorem wd_81 : (Cond.fieldLink RX1 15 "SlotStart$Hearing" "starters" "I" : Cond) ∈ wsL_law := wsr_4 _ (List.mem_of_getElem? (i := 9) rfl)
theorem wd_82 : (Cond.fieldLink RX1 18 "SlotStart$Hearing" "guide" "I" : Cond) ∈ wsL_law := wsr_4 _ (List.mem_of_getElem? (i := 10) rfl)
theorem wd_83 : (Cond.fieldLink RX1 21 "SlotStart$Hearing" "guideSlot" "I" : Cond) ∈ wsL_law := wsr_4 _ (List.mem_of_getElem? (i := 11) rfl)
theorem wd_84 : (Cond.fieldLink RX1 24 "SlotStart$Hearing" "guideSeen" "I" : Cond) ∈ wsL_law := wsr_4 _ (List.mem_of_getElem? (i := 12) rfl)
theorem wd_85 : (Cond.fieldLink RX1 27 "SlotStart$Hearing" "guidePace" "I" : Cond) ∈ wsL_law := wsr_4 _ (List.mem_of_getElem? (i := 13) rfl)
theorem wd_86 : (Cond.fieldLink RX1 30 "SlotStart$Hearing" "seen" "[I" : Cond) ∈ wsL_law := wsr_4 _ (List.mem_of_getElem? (i := 14) rfl)
theorem wd_87 : (Cond.methodLink RL 12 yX6_init : Cond) ∈ wsL_law := wsr_4 _ (List.mem_of_getElem? (i := 15) rfl)
theorem wd_88 : (Cond.instanceMethod yX6_init : Cond) ∈ wsL_law := wsr_4 _ (List.mem_of_getElem? (i := 16) rfl)
theorem wd_89 : (Cond.code yX6_init cX6_init 2 none : Cond) ∈ wsL_law := wsr_4 _ (List.mem_of_getElem? (i := 17) rfl)
theorem wd_90 : (Cond.methodLink RX6 1 objectInit : Cond) ∈ wsL_law := wsr_4 _ (List.mem_of_getElem? (i := 18) rfl)
theorem wd_91 : (Cond.fieldLink RX6 7 "SlotStartModel" "state" "[I" : Cond) ∈ wsL_law := wsr_4 _ (List.mem_of_getElem? (i := 19) rfl)
theorem wd_92 : (Cond.fieldLink RX6 13 "SlotStartModel" "images" "[I" : Cond) ∈ wsL_law := wsr_4 _ (List.mem_of_getElem? (i := 20) rfl)
theorem wd_93 : (Cond.arrayClass .boolean : Cond) ∈ wsL_law := wsr_4 _ (List.mem_of_getElem? (i := 21) rfl)
theorem wd_94 : (Cond.fieldLink RX6 16 "SlotStartModel" "isKept" "[Z" : Cond) ∈ wsL_law := wsr_4 _ (List.mem_of_getElem? (i := 22) rfl)
theorem wd_95 : (Cond.fieldLink RX6 20 "SlotStartModel" "numbers" "[I" : Cond) ∈ wsL_law := wsr_4 _ (List.mem_of_getElem? (i := 23) rfl)
theorem wd_96 : (Cond.fieldLink RX6 23 "SlotStartModel" "sends" "[Z" : Cond) ∈ wsL_law := wsr_5 _ (List.mem_of_getElem? (i := 0) rfl)
theorem wd_97 : (Cond.fieldLink RX6 26 "SlotStartModel" "signs" "[Z" : Cond) ∈ wsL_law := wsr_5 _ (List.mem_of_getElem? (i := 1) rfl)
theorem wd_98 : (Cond.fieldLink RX6 29 "SlotStartModel" "fell" "[Z" : Cond) ∈ wsL_law := wsr_5 _ (List.mem_of_getElem? (i := 2) rfl)
theorem wd_99 : (Cond.fieldLink RX6 32 "SlotStartModel" "changed" "[Z" : Cond) ∈ wsL_law := wsr_5 _ (List.mem_of_getElem? (i := 3) rfl)
theorem wd_100 : (Cond.fieldLink RX6 35 "SlotStartModel" "heard" "[I" : Cond) ∈ wsL_law := wsr_5 _ (List.mem_of_getElem? (i := 4) rfl)
theorem wd_101 : (Cond.fieldLink RX6 38 "SlotStartModel" "starters" "[I" : Cond) ∈ wsL_law := wsr_5 _ (List.mem_of_getElem? (i := 5) rfl)
theorem wd_102 : (Cond.fieldLink RX6 41 "SlotStartModel" "guide" "[I" : Cond) ∈ wsL_law := wsr_5 _ (List.mem_of_getElem? (i := 6) rfl)
theorem wd_103 : (Cond.fieldLink RX6 44 "SlotStartModel" "seen" "[I" : Cond) ∈ wsL_law := wsr_5 _ (List.mem_of_getElem? (i := 7) rfl)
theorem wd_104 : (Cond.fieldLink RX6 47 "SlotStartModel" "rate" "[I" : Cond) ∈ wsL_law := wsr_5 _ (List.mem_of_getElem? (i := 8) rfl)
theorem wd_105 : (Cond.methodLink RL 13 yX5_node : Cond) ∈ wsL_law := wsr_5 _ (List.mem_of_getElem? (i := 9) rfl)
theorem wd_106 : (Cond.instanceMethod yX5_node : Cond) ∈ wsL_law := wsr_5 _ (List.mem_of_getElem? (i := 10) rfl)
theorem wd_107 : (Cond.selects RX5 yX5_node yX5_node : Cond) ∈ wsL_law := wsr_5 _ (List.mem_of_getElem? (i := 11) rfl)
theorem wd_108 : (Cond.code yX5_node cX5_node 8 (some .int) : Cond) ∈ wsL_law := wsr_5 _ (List.mem_of_getElem? (i := 12) rfl)
theorem wd_109 : (Cond.fieldLink RX5 42 "SlotStart$Bus" "nodes" "[LSlotStart$Node;" : Cond) ∈ wsL_law := wsr_5 _ (List.mem_of_getElem? (i := 13) rfl)
theorem wd_110 : (Cond.fieldLink RX5 46 "SlotStart$Node" "is" "I" : Cond) ∈ wsL_law := wsr_5 _ (List.mem_of_getElem? (i := 14) rfl)
theorem wd_111 : (Cond.fieldLink RX5 55 "SlotStart$Node" "slot" "I" : Cond) ∈ wsL_law := wsr_5 _ (List.mem_of_getElem? (i := 15) rfl)
theorem wd_112 : (Cond.fieldLink RX5 58 "SlotStart$Node" "kind" "I" : Cond) ∈ wsL_law := wsr_5 _ (List.mem_of_getElem? (i := 16) rfl)
theorem wd_113 : (Cond.fieldLink RX5 61 "SlotStart$Node" "wait" "I" : Cond) ∈ wsL_law := wsr_5 _ (List.mem_of_getElem? (i := 17) rfl)
theorem wd_114 : (Cond.methodLink RX5 34 yX5_isNode : Cond) ∈ wsL_law := wsr_5 _ (List.mem_of_getElem? (i := 18) rfl)
theorem wd_115 : (Cond.static yX5_isNode : Cond) ∈ wsL_law := wsr_5 _ (List.mem_of_getElem? (i := 19) rfl)
theorem wd_116 : (Cond.code yX5_isNode cX5_isNode 1 (some .boolean) : Cond) ∈ wsL_law := wsr_5 _ (List.mem_of_getElem? (i := 20) rfl)
theorem wd_117 : (Cond.methodLink RX5 38 yX5_isWithin : Cond) ∈ wsL_law := wsr_5 _ (List.mem_of_getElem? (i := 21) rfl)
theorem wd_118 : (Cond.static yX5_isWithin : Cond) ∈ wsL_law := wsr_5 _ (List.mem_of_getElem? (i := 22) rfl)
theorem wd_119 : (Cond.code yX5_isWithin cX5_isWithin 3 (some .boolean) : Cond) ∈ wsL_law := wsr_5 _ (List.mem_of_getElem? (i := 23) rfl)
theorem wd_120 : (Cond.methodLink RX5 51 yX0_isSlotOfAnother : Cond) ∈ wsL_law := wsr_6 _ (List.mem_of_getElem? (i := 0) rfl)
theorem wd_121 : (Cond.instanceMethod yX0_isSlotOfAnother : Cond) ∈ wsL_law := wsr_6 _ (List.mem_of_getElem? (i := 1) rfl)
theorem wd_122 : (Cond.selects RX0 yX0_isSlotOfAnother yX0_isSlotOfAnother : Cond) ∈ wsL_law := wsr_6 _ (List.mem_of_getElem? (i := 2) rfl)
theorem wd_123 : (Cond.code yX0_isSlotOfAnother cX0_isSlotOfAnother 4 (some .boolean) : Cond) ∈ wsL_law := wsr_6 _ (List.mem_of_getElem? (i := 3) rfl)
theorem wd_124 : (Cond.fieldLink RX0 51 "SlotStart$Node" "slot" "I" : Cond) ∈ wsL_law := wsr_6 _ (List.mem_of_getElem? (i := 4) rfl)
theorem wd_125 : (Cond.methodLink RL 17 yX6_node : Cond) ∈ wsL_law := wsr_6 _ (List.mem_of_getElem? (i := 5) rfl)
theorem wd_126 : (Cond.instanceMethod yX6_node : Cond) ∈ wsL_law := wsr_6 _ (List.mem_of_getElem? (i := 6) rfl)
theorem wd_127 : (Cond.selects RX6 yX6_node yX6_node : Cond) ∈ wsL_law := wsr_6 _ (List.mem_of_getElem? (i := 7) rfl)
theorem wd_128 : (Cond.code yX6_node cX6_node 6 (some .int) : Cond) ∈ wsL_law := wsr_6 _ (List.mem_of_getElem? (i := 8) rfl)
theorem wd_129 : (Cond.methodLink RX6 58 yX6_isNode : Cond) ∈ wsL_law := wsr_6 _ (List.mem_of_getElem? (i := 9) rfl)
theorem wd_130 : (Cond.static yX6_isNode : Cond) ∈ wsL_law := wsr_6 _ (List.mem_of_getElem? (i := 10) rfl)
theorem wd_131 : (Cond.code yX6_isNode cX6_isNode 1 (some .boolean) : Cond) ∈ wsL_law := wsr_6 _ (List.mem_of_getElem? (i := 11) rfl)
theorem wd_132 : (Cond.methodLink RX6 50 yX6_in : Cond) ∈ wsL_law := wsr_6 _ (List.mem_of_getElem? (i := 12) rfl)
theorem wd_133 : (Cond.static yX6_in : Cond) ∈ wsL_law := wsr_6 _ (List.mem_of_getElem? (i := 13) rfl)
theorem wd_134 : (Cond.code yX6_in cX6_in 3 (some .boolean) : Cond) ∈ wsL_law := wsr_6 _ (List.mem_of_getElem? (i := 14) rfl)
theorem wd_135 : (Cond.methodLink RX6 54 yX6_is : Cond) ∈ wsL_law := wsr_6 _ (List.mem_of_getElem? (i := 15) rfl)
theorem wd_136 : (Cond.instanceMethod yX6_is : Cond) ∈ wsL_law := wsr_6 _ (List.mem_of_getElem? (i := 16) rfl)
theorem wd_137 : (Cond.selects RX6 yX6_is yX6_is : Cond) ∈ wsL_law := wsr_6 _ (List.mem_of_getElem? (i := 17) rfl)
theorem wd_138 : (Cond.code yX6_is cX6_is 3 (some .boolean) : Cond) ∈ wsL_law := wsr_6 _ (List.mem_of_getElem? (i := 18) rfl)
theorem wd_139 : (Cond.methodLink RX6 62 yX6_isTaken : Cond) ∈ wsL_law := wsr_6 _ (List.mem_of_getElem? (i := 19) rfl)
theorem wd_140 : (Cond.instanceMethod yX6_isTaken : Cond) ∈ wsL_law := wsr_6 _ (List.mem_of_getElem? (i := 20) rfl)
theorem wd_141 : (Cond.selects RX6 yX6_isTaken yX6_isTaken : Cond) ∈ wsL_law := wsr_6 _ (List.mem_of_getElem? (i := 21) rfl)
theorem wd_142 : (Cond.code yX6_isTaken cX6_isTaken 5 (some .boolean) : Cond) ∈ wsL_law := wsr_6 _ (List.mem_of_getElem? (i := 22) rfl)
theorem wd_143 : (Cond.methodLink RL 18 yX5_clock : Cond) ∈ wsL_law := wsr_6 _ (List.mem_of_getElem? (i := 23) rfl)
theorem wd_144 : (Cond.instanceMethod yX5_clock : Cond) ∈ wsL_law := wsr_7 _ (List.mem_of_getElem? (i := 0) rfl)
theorem wd_145 : (Cond.selects RX5 yX5_clock yX5_clock : Cond) ∈ wsL_law := wsr_7 _ (List.mem_of_getElem? (i := 1) rfl)
theorem wd_146 : (Cond.code yX5_clock cX5_clock 6 (some .int) : Cond) ∈ wsL_law := wsr_7 _ (List.mem_of_getElem? (i := 2) rfl)
theorem wd_147 : (Cond.fieldLink RX5 64 "SlotStart$Node" "drift" "I" : Cond) ∈ wsL_law := wsr_7 _ (List.mem_of_getElem? (i := 3) rfl)
theorem wd_148 : (Cond.fieldLink RX5 67 "SlotStart$Node" "lie" "I" : Cond) ∈ wsL_law := wsr_7 _ (List.mem_of_getElem? (i := 4) rfl)
theorem wd_149 : (Cond.methodLink RL 22 yX6_clock : Cond) ∈ wsL_law := wsr_7 _ (List.mem_of_getElem? (i := 5) rfl)
theorem wd_150 : (Cond.instanceMethod yX6_clock : Cond) ∈ wsL_law := wsr_7 _ (List.mem_of_getElem? (i := 6) rfl)
theorem wd_151 : (Cond.selects RX6 yX6_clock yX6_clock : Cond) ∈ wsL_law := wsr_7 _ (List.mem_of_getElem? (i := 7) rfl)
theorem wd_152 : (Cond.code yX6_clock cX6_clock 5 (some .int) : Cond) ∈ wsL_law := wsr_7 _ (List.mem_of_getElem? (i := 8) rfl)
theorem wd_153 : (Cond.methodLink RL 23 yX5_bound : Cond) ∈ wsL_law := wsr_7 _ (List.mem_of_getElem? (i := 9) rfl)
theorem wd_154 : (Cond.instanceMethod yX5_bound : Cond) ∈ wsL_law := wsr_7 _ (List.mem_of_getElem? (i := 10) rfl)
theorem wd_155 : (Cond.selects RX5 yX5_bound yX5_bound : Cond) ∈ wsL_law := wsr_7 _ (List.mem_of_getElem? (i := 11) rfl)
theorem wd_156 : (Cond.code yX5_bound cX5_bound 3 (some .int) : Cond) ∈ wsL_law := wsr_7 _ (List.mem_of_getElem? (i := 12) rfl)
theorem wd_157 : (Cond.fieldLink RX5 70 "SlotStart$Bus" "bound" "I" : Cond) ∈ wsL_law := wsr_7 _ (List.mem_of_getElem? (i := 13) rfl)
theorem wd_158 : (Cond.methodLink RL 27 yX6_bound : Cond) ∈ wsL_law := wsr_7 _ (List.mem_of_getElem? (i := 14) rfl)
theorem wd_159 : (Cond.instanceMethod yX6_bound : Cond) ∈ wsL_law := wsr_7 _ (List.mem_of_getElem? (i := 15) rfl)
theorem wd_160 : (Cond.selects RX6 yX6_bound yX6_bound : Cond) ∈ wsL_law := wsr_7 _ (List.mem_of_getElem? (i := 16) rfl)
theorem wd_161 : (Cond.code yX6_bound cX6_bound 3 (some .int) : Cond) ∈ wsL_law := wsr_7 _ (List.mem_of_getElem? (i := 17) rfl)
theorem wd_162 : (Cond.methodLink RL 28 yX5_wake : Cond) ∈ wsL_law := wsr_7 _ (List.mem_of_getElem? (i := 18) rfl)
theorem wd_163 : (Cond.instanceMethod yX5_wake : Cond) ∈ wsL_law := wsr_7 _ (List.mem_of_getElem? (i := 19) rfl)
theorem wd_164 : (Cond.selects RX5 yX5_wake yX5_wake : Cond) ∈ wsL_law := wsr_7 _ (List.mem_of_getElem? (i := 20) rfl)
theorem wd_165 : (Cond.code yX5_wake cX5_wake 4 (some .int) : Cond) ∈ wsL_law := wsr_7 _ (List.mem_of_getElem? (i := 21) rfl)
theorem wd_166 : (Cond.methodLink RX5 73 yX3_isAwake : Cond) ∈ wsL_law := wsr_7 _ (List.mem_of_getElem? (i := 22) rfl)
theorem wd_167 : (Cond.instanceMethod yX3_isAwake : Cond) ∈ wsL_law := wsr_7 _ (List.mem_of_getElem? (i := 23) rfl)
theorem wd_168 : (Cond.selects RX3 yX3_isAwake yX3_isAwake : Cond) ∈ wsL_law := wsr_8 _ (List.mem_of_getElem? (i := 0) rfl)
theorem wd_169 : (Cond.code yX3_isAwake cX3_isAwake 1 (some .boolean) : Cond) ∈ wsL_law := wsr_8 _ (List.mem_of_getElem? (i := 1) rfl)
theorem wd_170 : (Cond.methodLink RX5 77 yX3_beginAnew : Cond) ∈ wsL_law := wsr_8 _ (List.mem_of_getElem? (i := 2) rfl)
theorem wd_171 : (Cond.instanceMethod yX3_beginAnew : Cond) ∈ wsL_law := wsr_8 _ (List.mem_of_getElem? (i := 3) rfl)
theorem wd_172 : (Cond.selects RX3 yX3_beginAnew yX3_beginAnew : Cond) ∈ wsL_law := wsr_8 _ (List.mem_of_getElem? (i := 4) rfl)
theorem wd_173 : (Cond.code yX3_beginAnew cX3_beginAnew 3 none : Cond) ∈ wsL_law := wsr_8 _ (List.mem_of_getElem? (i := 5) rfl)
theorem wd_174 : (Cond.methodLink RX3 69 yX3_become : Cond) ∈ wsL_law := wsr_8 _ (List.mem_of_getElem? (i := 6) rfl)
theorem wd_175 : (Cond.instanceMethod yX3_become : Cond) ∈ wsL_law := wsr_8 _ (List.mem_of_getElem? (i := 7) rfl)
theorem wd_176 : (Cond.selects RX3 yX3_become yX3_become : Cond) ∈ wsL_law := wsr_8 _ (List.mem_of_getElem? (i := 8) rfl)
theorem wd_177 : (Cond.code yX3_become cX3_become 2 none : Cond) ∈ wsL_law := wsr_8 _ (List.mem_of_getElem? (i := 9) rfl)
theorem wd_178 : (Cond.methodLink RX5 81 yX0_awake : Cond) ∈ wsL_law := wsr_8 _ (List.mem_of_getElem? (i := 10) rfl)
theorem wd_179 : (Cond.instanceMethod yX0_awake : Cond) ∈ wsL_law := wsr_8 _ (List.mem_of_getElem? (i := 11) rfl)
theorem wd_180 : (Cond.selects RX0 yX0_awake yX0_awake : Cond) ∈ wsL_law := wsr_8 _ (List.mem_of_getElem? (i := 12) rfl)
theorem wd_181 : (Cond.code yX0_awake cX0_awake 3 (some .int) : Cond) ∈ wsL_law := wsr_8 _ (List.mem_of_getElem? (i := 13) rfl)
theorem wd_182 : (Cond.methodLink RX0 61 yX3_isAwake : Cond) ∈ wsL_law := wsr_8 _ (List.mem_of_getElem? (i := 14) rfl)
theorem wd_183 : (Cond.static yX5_bitOf : Cond) ∈ wsL_law := wsr_8 _ (List.mem_of_getElem? (i := 15) rfl)
theorem wd_184 : (Cond.code yX5_bitOf cX5_bitOf 1 (some .int) : Cond) ∈ wsL_law := wsr_8 _ (List.mem_of_getElem? (i := 16) rfl)
theorem wd_185 : (Cond.methodLink RX5 85 yJ6_bitCount_0f7a4 : Cond) ∈ wsL_law := wsr_8 _ (List.mem_of_getElem? (i := 17) rfl)
theorem wd_186 : (Cond.static yJ6_bitCount_0f7a4 : Cond) ∈ wsL_law := wsr_8 _ (List.mem_of_getElem? (i := 18) rfl)
theorem wd_187 : (Cond.initialized RJ6 : Cond) ∈ wsL_law := wsr_8 _ (List.mem_of_getElem? (i := 19) rfl)
theorem wd_188 : (Cond.code yJ6_bitCount_0f7a4 cJ6_bitCount_0f7a4 1 (some .int) : Cond) ∈ wsL_law := wsr_8 _ (List.mem_of_getElem? (i := 20) rfl)
theorem wd_189 : (Cond.constant RJ6 265 (1431655765) : Cond) ∈ wsL_law := wsr_8 _ (List.mem_of_getElem? (i := 21) rfl)
theorem wd_190 : (Cond.constant RJ6 266 (858993459) : Cond) ∈ wsL_law := wsr_8 _ (List.mem_of_getElem? (i := 22) rfl)
theorem wd_191 : (Cond.constant RJ6 267 (252645135) : Cond) ∈ wsL_law := wsr_8 _ (List.mem_of_getElem? (i := 23) rfl)
theorem wd_192 : (Cond.methodLink RL 32 yX6_wake : Cond) ∈ wsL_law := wsr_9 _ (List.mem_of_getElem? (i := 0) rfl)
theorem wd_193 : (Cond.instanceMethod yX6_wake : Cond) ∈ wsL_law := wsr_9 _ (List.mem_of_getElem? (i := 1) rfl)
theorem wd_194 : (Cond.selects RX6 yX6_wake yX6_wake : Cond) ∈ wsL_law := wsr_9 _ (List.mem_of_getElem? (i := 2) rfl)
theorem wd_195 : (Cond.code yX6_wake cX6_wake 5 (some .int) : Cond) ∈ wsL_law := wsr_9 _ (List.mem_of_getElem? (i := 3) rfl)
theorem wd_196 : (Cond.methodLink RX6 65 yX6_isOut : Cond) ∈ wsL_law := wsr_9 _ (List.mem_of_getElem? (i := 4) rfl)
theorem wd_197 : (Cond.instanceMethod yX6_isOut : Cond) ∈ wsL_law := wsr_9 _ (List.mem_of_getElem? (i := 5) rfl)
theorem wd_198 : (Cond.selects RX6 yX6_isOut yX6_isOut : Cond) ∈ wsL_law := wsr_9 _ (List.mem_of_getElem? (i := 6) rfl)
theorem wd_199 : (Cond.code yX6_isOut cX6_isOut 2 (some .boolean) : Cond) ∈ wsL_law := wsr_9 _ (List.mem_of_getElem? (i := 7) rfl)
theorem wd_200 : (Cond.methodLink RX6 68 yX6_begin : Cond) ∈ wsL_law := wsr_9 _ (List.mem_of_getElem? (i := 8) rfl)
theorem wd_201 : (Cond.instanceMethod yX6_begin : Cond) ∈ wsL_law := wsr_9 _ (List.mem_of_getElem? (i := 9) rfl)
theorem wd_202 : (Cond.selects RX6 yX6_begin yX6_begin : Cond) ∈ wsL_law := wsr_9 _ (List.mem_of_getElem? (i := 10) rfl)
theorem wd_203 : (Cond.code yX6_begin cX6_begin 3 none : Cond) ∈ wsL_law := wsr_9 _ (List.mem_of_getElem? (i := 11) rfl)
theorem wd_204 : (Cond.methodLink RL 33 yX5_off : Cond) ∈ wsL_law := wsr_9 _ (List.mem_of_getElem? (i := 12) rfl)
theorem wd_205 : (Cond.instanceMethod yX5_off : Cond) ∈ wsL_law := wsr_9 _ (List.mem_of_getElem? (i := 13) rfl)
theorem wd_206 : (Cond.selects RX5 yX5_off yX5_off : Cond) ∈ wsL_law := wsr_9 _ (List.mem_of_getElem? (i := 14) rfl)
theorem wd_207 : (Cond.code yX5_off cX5_off 4 (some .int) : Cond) ∈ wsL_law := wsr_9 _ (List.mem_of_getElem? (i := 15) rfl)
theorem wd_208 : (Cond.methodLink RL 36 yX6_off : Cond) ∈ wsL_law := wsr_9 _ (List.mem_of_getElem? (i := 16) rfl)
theorem wd_209 : (Cond.instanceMethod yX6_off : Cond) ∈ wsL_law := wsr_9 _ (List.mem_of_getElem? (i := 17) rfl)
theorem wd_210 : (Cond.selects RX6 yX6_off yX6_off : Cond) ∈ wsL_law := wsr_9 _ (List.mem_of_getElem? (i := 18) rfl)
theorem wd_211 : (Cond.code yX6_off cX6_off 3 (some .int) : Cond) ∈ wsL_law := wsr_9 _ (List.mem_of_getElem? (i := 19) rfl)
theorem wd_212 : (Cond.methodLink RL 37 yX5_run : Cond) ∈ wsL_law := wsr_9 _ (List.mem_of_getElem? (i := 20) rfl)
theorem wd_213 : (Cond.instanceMethod yX5_run : Cond) ∈ wsL_law := wsr_9 _ (List.mem_of_getElem? (i := 21) rfl)
theorem wd_214 : (Cond.selects RX5 yX5_run yX5_run : Cond) ∈ wsL_law := wsr_9 _ (List.mem_of_getElem? (i := 22) rfl)
theorem wd_215 : (Cond.code yX5_run cX5_run 3 (some .int) : Cond) ∈ wsL_law := wsr_9 _ (List.mem_of_getElem? (i := 23) rfl)
theorem wd_216 : (Cond.methodLink RX5 91 yX0_passCycle : Cond) ∈ wsL_law := wsr_10 _ (List.mem_of_getElem? (i := 0) rfl)
theorem wd_217 : (Cond.instanceMethod yX0_passCycle : Cond) ∈ wsL_law := wsr_10 _ (List.mem_of_getElem? (i := 1) rfl)
theorem wd_218 : (Cond.selects RX0 yX0_passCycle yX0_passCycle : Cond) ∈ wsL_law := wsr_10 _ (List.mem_of_getElem? (i := 2) rfl)
theorem wd_219 : (Cond.code yX0_passCycle cX0_passCycle 2 none : Cond) ∈ wsL_law := wsr_10 _ (List.mem_of_getElem? (i := 3) rfl)
theorem wd_220 : (Cond.methodLink RX0 81 yX0_isSignGiven : Cond) ∈ wsL_law := wsr_10 _ (List.mem_of_getElem? (i := 4) rfl)
theorem wd_221 : (Cond.instanceMethod yX0_isSignGiven : Cond) ∈ wsL_law := wsr_10 _ (List.mem_of_getElem? (i := 5) rfl)
theorem wd_222 : (Cond.selects RX0 yX0_isSignGiven yX0_isSignGiven : Cond) ∈ wsL_law := wsr_10 _ (List.mem_of_getElem? (i := 6) rfl)
theorem wd_223 : (Cond.code yX0_isSignGiven cX0_isSignGiven 2 (some .boolean) : Cond) ∈ wsL_law := wsr_10 _ (List.mem_of_getElem? (i := 7) rfl)
theorem wd_224 : (Cond.methodLink RX0 97 yX3_givesSign : Cond) ∈ wsL_law := wsr_10 _ (List.mem_of_getElem? (i := 8) rfl)
theorem wd_225 : (Cond.instanceMethod yX3_givesSign : Cond) ∈ wsL_law := wsr_10 _ (List.mem_of_getElem? (i := 9) rfl)
theorem wd_226 : (Cond.selects RX3 yX3_givesSign yX3_givesSign : Cond) ∈ wsL_law := wsr_10 _ (List.mem_of_getElem? (i := 10) rfl)
theorem wd_227 : (Cond.code yX3_givesSign cX3_givesSign 1 (some .boolean) : Cond) ∈ wsL_law := wsr_10 _ (List.mem_of_getElem? (i := 11) rfl)
theorem wd_228 : (Cond.methodLink RX0 84 yX0_chooseSenders : Cond) ∈ wsL_law := wsr_10 _ (List.mem_of_getElem? (i := 12) rfl)
theorem wd_229 : (Cond.instanceMethod yX0_chooseSenders : Cond) ∈ wsL_law := wsr_10 _ (List.mem_of_getElem? (i := 13) rfl)
theorem wd_230 : (Cond.selects RX0 yX0_chooseSenders yX0_chooseSenders : Cond) ∈ wsL_law := wsr_10 _ (List.mem_of_getElem? (i := 14) rfl)
theorem wd_231 : (Cond.code yX0_chooseSenders cX0_chooseSenders 3 none : Cond) ∈ wsL_law := wsr_10 _ (List.mem_of_getElem? (i := 15) rfl)
theorem wd_232 : (Cond.fieldLink RX0 100 "SlotStart$Node" "isNew" "Z" : Cond) ∈ wsL_law := wsr_10 _ (List.mem_of_getElem? (i := 16) rfl)
theorem wd_233 : (Cond.fieldLink RX0 110 "SlotStart$Node" "sent" "I" : Cond) ∈ wsL_law := wsr_10 _ (List.mem_of_getElem? (i := 17) rfl)
theorem wd_234 : (Cond.methodLink RX0 104 yX3_isReadyToSend : Cond) ∈ wsL_law := wsr_10 _ (List.mem_of_getElem? (i := 18) rfl)
theorem wd_235 : (Cond.instanceMethod yX3_isReadyToSend : Cond) ∈ wsL_law := wsr_10 _ (List.mem_of_getElem? (i := 19) rfl)
theorem wd_236 : (Cond.selects RX3 yX3_isReadyToSend yX3_isReadyToSend : Cond) ∈ wsL_law := wsr_10 _ (List.mem_of_getElem? (i := 20) rfl)
theorem wd_237 : (Cond.code yX3_isReadyToSend cX3_isReadyToSend 1 (some .boolean) : Cond) ∈ wsL_law := wsr_10 _ (List.mem_of_getElem? (i := 21) rfl)
theorem wd_238 : (Cond.methodLink RX0 107 yX0_thatGiveWay : Cond) ∈ wsL_law := wsr_10 _ (List.mem_of_getElem? (i := 22) rfl)
theorem wd_239 : (Cond.instanceMethod yX0_thatGiveWay : Cond) ∈ wsL_law := wsr_10 _ (List.mem_of_getElem? (i := 23) rfl)
theorem wd_240 : (Cond.selects RX0 yX0_thatGiveWay yX0_thatGiveWay : Cond) ∈ wsL_law := wsr_11 _ (List.mem_of_getElem? (i := 0) rfl)
theorem wd_241 : (Cond.code yX0_thatGiveWay cX0_thatGiveWay 4 (some .int) : Cond) ∈ wsL_law := wsr_11 _ (List.mem_of_getElem? (i := 1) rfl)
theorem wd_242 : (Cond.static yX5_isIn : Cond) ∈ wsL_law := wsr_11 _ (List.mem_of_getElem? (i := 2) rfl)
theorem wd_243 : (Cond.code yX5_isIn cX5_isIn 2 (some .boolean) : Cond) ∈ wsL_law := wsr_11 _ (List.mem_of_getElem? (i := 3) rfl)
theorem wd_244 : (Cond.methodLink RX5 181 yX5_bitOf : Cond) ∈ wsL_law := wsr_11 _ (List.mem_of_getElem? (i := 4) rfl)
theorem wd_245 : (Cond.methodLink RX0 116 yX3_isFirstTurnOfLeader : Cond) ∈ wsL_law := wsr_11 _ (List.mem_of_getElem? (i := 5) rfl)
theorem wd_246 : (Cond.instanceMethod yX3_isFirstTurnOfLeader : Cond) ∈ wsL_law := wsr_11 _ (List.mem_of_getElem? (i := 6) rfl)
theorem wd_247 : (Cond.selects RX3 yX3_isFirstTurnOfLeader yX3_isFirstTurnOfLeader : Cond) ∈ wsL_law := wsr_11 _ (List.mem_of_getElem? (i := 7) rfl)
theorem wd_248 : (Cond.code yX3_isFirstTurnOfLeader cX3_isFirstTurnOfLeader 1 (some .boolean) : Cond) ∈ wsL_law := wsr_11 _ (List.mem_of_getElem? (i := 8) rfl)
theorem wd_249 : (Cond.methodLink RX0 119 yX0_givesWay : Cond) ∈ wsL_law := wsr_11 _ (List.mem_of_getElem? (i := 9) rfl)
theorem wd_250 : (Cond.instanceMethod yX0_givesWay : Cond) ∈ wsL_law := wsr_11 _ (List.mem_of_getElem? (i := 10) rfl)
theorem wd_251 : (Cond.selects RX0 yX0_givesWay yX0_givesWay : Cond) ∈ wsL_law := wsr_11 _ (List.mem_of_getElem? (i := 11) rfl)
theorem wd_252 : (Cond.code yX0_givesWay cX0_givesWay 5 (some .boolean) : Cond) ∈ wsL_law := wsr_11 _ (List.mem_of_getElem? (i := 12) rfl)
theorem wd_253 : (Cond.methodLink RX0 113 yX3_become : Cond) ∈ wsL_law := wsr_11 _ (List.mem_of_getElem? (i := 13) rfl)
theorem wd_254 : (Cond.methodLink RX0 87 yX0_listen : Cond) ∈ wsL_law := wsr_11 _ (List.mem_of_getElem? (i := 14) rfl)
theorem wd_255 : (Cond.instanceMethod yX0_listen : Cond) ∈ wsL_law := wsr_11 _ (List.mem_of_getElem? (i := 15) rfl)
theorem wd_256 : (Cond.selects RX0 yX0_listen yX0_listen : Cond) ∈ wsL_law := wsr_11 _ (List.mem_of_getElem? (i := 16) rfl)
theorem wd_257 : (Cond.code yX0_listen cX0_listen 2 none : Cond) ∈ wsL_law := wsr_11 _ (List.mem_of_getElem? (i := 17) rfl)
theorem wd_258 : (Cond.methodLink RX0 123 yX3_turnHearing : Cond) ∈ wsL_law := wsr_11 _ (List.mem_of_getElem? (i := 18) rfl)
theorem wd_259 : (Cond.instanceMethod yX3_turnHearing : Cond) ∈ wsL_law := wsr_11 _ (List.mem_of_getElem? (i := 19) rfl)
theorem wd_260 : (Cond.selects RX3 yX3_turnHearing yX3_turnHearing : Cond) ∈ wsL_law := wsr_11 _ (List.mem_of_getElem? (i := 20) rfl)
theorem wd_261 : (Cond.code yX3_turnHearing cX3_turnHearing 2 none : Cond) ∈ wsL_law := wsr_11 _ (List.mem_of_getElem? (i := 21) rfl)
theorem wd_262 : (Cond.methodLink RX3 73 yX1_clear : Cond) ∈ wsL_law := wsr_11 _ (List.mem_of_getElem? (i := 22) rfl)
theorem wd_263 : (Cond.instanceMethod yX1_clear : Cond) ∈ wsL_law := wsr_11 _ (List.mem_of_getElem? (i := 23) rfl)
theorem wd_264 : (Cond.selects RX1 yX1_clear yX1_clear : Cond) ∈ wsL_law := wsr_12 _ (List.mem_of_getElem? (i := 0) rfl)
theorem wd_265 : (Cond.code yX1_clear cX1_clear 1 none : Cond) ∈ wsL_law := wsr_12 _ (List.mem_of_getElem? (i := 1) rfl)
theorem wd_266 : (Cond.methodLink RX0 126 yX0_hearOthers : Cond) ∈ wsL_law := wsr_12 _ (List.mem_of_getElem? (i := 2) rfl)
theorem wd_267 : (Cond.instanceMethod yX0_hearOthers : Cond) ∈ wsL_law := wsr_12 _ (List.mem_of_getElem? (i := 3) rfl)
theorem wd_268 : (Cond.selects RX0 yX0_hearOthers yX0_hearOthers : Cond) ∈ wsL_law := wsr_12 _ (List.mem_of_getElem? (i := 4) rfl)
theorem wd_269 : (Cond.code yX0_hearOthers cX0_hearOthers 4 none : Cond) ∈ wsL_law := wsr_12 _ (List.mem_of_getElem? (i := 5) rfl)
theorem wd_270 : (Cond.fieldLink RX0 130 "SlotStart$Node" "last" "LSlotStart$Hearing;" : Cond) ∈ wsL_law := wsr_12 _ (List.mem_of_getElem? (i := 6) rfl)
theorem wd_271 : (Cond.fieldLink RX0 69 "SlotStart$Node" "at" "I" : Cond) ∈ wsL_law := wsr_12 _ (List.mem_of_getElem? (i := 7) rfl)
theorem wd_272 : (Cond.methodLink RX0 134 yX1_note : Cond) ∈ wsL_law := wsr_12 _ (List.mem_of_getElem? (i := 8) rfl)
theorem wd_273 : (Cond.instanceMethod yX1_note : Cond) ∈ wsL_law := wsr_12 _ (List.mem_of_getElem? (i := 9) rfl)
theorem wd_274 : (Cond.selects RX1 yX1_note yX1_note : Cond) ∈ wsL_law := wsr_12 _ (List.mem_of_getElem? (i := 10) rfl)
theorem wd_275 : (Cond.code yX1_note cX1_note 5 none : Cond) ∈ wsL_law := wsr_12 _ (List.mem_of_getElem? (i := 11) rfl)
theorem wd_276 : (Cond.fieldLink RX1 34 "SlotStart$Node" "at" "I" : Cond) ∈ wsL_law := wsr_12 _ (List.mem_of_getElem? (i := 12) rfl)
theorem wd_277 : (Cond.fieldLink RX1 39 "SlotStart$Node" "lie" "I" : Cond) ∈ wsL_law := wsr_12 _ (List.mem_of_getElem? (i := 13) rfl)
theorem wd_278 : (Cond.fieldLink RX1 46 "SlotStart$Node" "kind" "I" : Cond) ∈ wsL_law := wsr_12 _ (List.mem_of_getElem? (i := 14) rfl)
theorem wd_279 : (Cond.fieldLink RX1 49 "SlotStart$Node" "slot" "I" : Cond) ∈ wsL_law := wsr_12 _ (List.mem_of_getElem? (i := 15) rfl)
theorem wd_280 : (Cond.fieldLink RX1 52 "SlotStart$Node" "drift" "I" : Cond) ∈ wsL_law := wsr_12 _ (List.mem_of_getElem? (i := 16) rfl)
theorem wd_281 : (Cond.fieldLink RX1 55 "SlotStart$Node" "rate" "I" : Cond) ∈ wsL_law := wsr_12 _ (List.mem_of_getElem? (i := 17) rfl)
theorem wd_282 : (Cond.methodLink RX0 90 yX0_settle : Cond) ∈ wsL_law := wsr_12 _ (List.mem_of_getElem? (i := 18) rfl)
theorem wd_283 : (Cond.instanceMethod yX0_settle : Cond) ∈ wsL_law := wsr_12 _ (List.mem_of_getElem? (i := 19) rfl)
theorem wd_284 : (Cond.selects RX0 yX0_settle yX0_settle : Cond) ∈ wsL_law := wsr_12 _ (List.mem_of_getElem? (i := 20) rfl)
theorem wd_285 : (Cond.code yX0_settle cX0_settle 6 none : Cond) ∈ wsL_law := wsr_12 _ (List.mem_of_getElem? (i := 21) rfl)
theorem wd_286 : (Cond.fieldLink RX0 54 "SlotStart$Node" "is" "I" : Cond) ∈ wsL_law := wsr_12 _ (List.mem_of_getElem? (i := 22) rfl)
theorem wd_287 : (Cond.methodLink RX0 140 yX2_add : Cond) ∈ wsL_law := wsr_12 _ (List.mem_of_getElem? (i := 23) rfl)
theorem wd_288 : (Cond.instanceMethod yX2_add : Cond) ∈ wsL_law := wsr_13 _ (List.mem_of_getElem? (i := 0) rfl)
theorem wd_289 : (Cond.selects RX2 yX2_add yX2_add : Cond) ∈ wsL_law := wsr_13 _ (List.mem_of_getElem? (i := 1) rfl)
theorem wd_290 : (Cond.code yX2_add cX2_add 5 none : Cond) ∈ wsL_law := wsr_13 _ (List.mem_of_getElem? (i := 2) rfl)
theorem wd_291 : (Cond.methodLink RX0 144 yX3_settle : Cond) ∈ wsL_law := wsr_13 _ (List.mem_of_getElem? (i := 3) rfl)
theorem wd_292 : (Cond.instanceMethod yX3_settle : Cond) ∈ wsL_law := wsr_13 _ (List.mem_of_getElem? (i := 4) rfl)
theorem wd_293 : (Cond.selects RX3 yX3_settle yX3_settle : Cond) ∈ wsL_law := wsr_13 _ (List.mem_of_getElem? (i := 5) rfl)
theorem wd_294 : (Cond.code yX3_settle cX3_settle 2 none : Cond) ∈ wsL_law := wsr_13 _ (List.mem_of_getElem? (i := 6) rfl)
theorem wd_295 : (Cond.methodLink RX3 76 yX3_settleListening : Cond) ∈ wsL_law := wsr_13 _ (List.mem_of_getElem? (i := 7) rfl)
theorem wd_296 : (Cond.instanceMethod yX3_settleListening : Cond) ∈ wsL_law := wsr_13 _ (List.mem_of_getElem? (i := 8) rfl)
theorem wd_297 : (Cond.selects RX3 yX3_settleListening yX3_settleListening : Cond) ∈ wsL_law := wsr_13 _ (List.mem_of_getElem? (i := 9) rfl)
theorem wd_298 : (Cond.code yX3_settleListening cX3_settleListening 2 none : Cond) ∈ wsL_law := wsr_13 _ (List.mem_of_getElem? (i := 10) rfl)
theorem wd_299 : (Cond.fieldLink RX3 86 "SlotStart$Hearing" "heard" "I" : Cond) ∈ wsL_law := wsr_13 _ (List.mem_of_getElem? (i := 11) rfl)
theorem wd_300 : (Cond.fieldLink RX3 89 "SlotStart$Hearing" "guide" "I" : Cond) ∈ wsL_law := wsr_13 _ (List.mem_of_getElem? (i := 12) rfl)
theorem wd_301 : (Cond.fieldLink RX3 95 "SlotStart$Hearing" "starters" "I" : Cond) ∈ wsL_law := wsr_13 _ (List.mem_of_getElem? (i := 13) rfl)
theorem wd_302 : (Cond.methodLink RX3 92 yX3_followGuide : Cond) ∈ wsL_law := wsr_13 _ (List.mem_of_getElem? (i := 14) rfl)
theorem wd_303 : (Cond.instanceMethod yX3_followGuide : Cond) ∈ wsL_law := wsr_13 _ (List.mem_of_getElem? (i := 15) rfl)
theorem wd_304 : (Cond.selects RX3 yX3_followGuide yX3_followGuide : Cond) ∈ wsL_law := wsr_13 _ (List.mem_of_getElem? (i := 16) rfl)
theorem wd_305 : (Cond.code yX3_followGuide cX3_followGuide 1 none : Cond) ∈ wsL_law := wsr_13 _ (List.mem_of_getElem? (i := 17) rfl)
theorem wd_306 : (Cond.fieldLink RX3 98 "SlotStart$Hearing" "guideSeen" "I" : Cond) ∈ wsL_law := wsr_13 _ (List.mem_of_getElem? (i := 18) rfl)
theorem wd_307 : (Cond.fieldLink RX3 101 "SlotStart$Hearing" "guidePace" "I" : Cond) ∈ wsL_law := wsr_13 _ (List.mem_of_getElem? (i := 19) rfl)
theorem wd_308 : (Cond.methodLink RX3 80 yX3_settleLeading : Cond) ∈ wsL_law := wsr_13 _ (List.mem_of_getElem? (i := 20) rfl)
theorem wd_309 : (Cond.instanceMethod yX3_settleLeading : Cond) ∈ wsL_law := wsr_13 _ (List.mem_of_getElem? (i := 21) rfl)
theorem wd_310 : (Cond.selects RX3 yX3_settleLeading yX3_settleLeading : Cond) ∈ wsL_law := wsr_13 _ (List.mem_of_getElem? (i := 22) rfl)
theorem wd_311 : (Cond.code yX3_settleLeading cX3_settleLeading 1 none : Cond) ∈ wsL_law := wsr_13 _ (List.mem_of_getElem? (i := 23) rfl)
theorem wd_312 : (Cond.methodLink RX3 83 yX3_settleJoining : Cond) ∈ wsL_law := wsr_14 _ (List.mem_of_getElem? (i := 0) rfl)
theorem wd_313 : (Cond.instanceMethod yX3_settleJoining : Cond) ∈ wsL_law := wsr_14 _ (List.mem_of_getElem? (i := 1) rfl)
theorem wd_314 : (Cond.selects RX3 yX3_settleJoining yX3_settleJoining : Cond) ∈ wsL_law := wsr_14 _ (List.mem_of_getElem? (i := 2) rfl)
theorem wd_315 : (Cond.code yX3_settleJoining cX3_settleJoining 1 none : Cond) ∈ wsL_law := wsr_14 _ (List.mem_of_getElem? (i := 3) rfl)
theorem wd_316 : (Cond.methodLink RX0 145 yX3_correct : Cond) ∈ wsL_law := wsr_14 _ (List.mem_of_getElem? (i := 4) rfl)
theorem wd_317 : (Cond.instanceMethod yX3_correct : Cond) ∈ wsL_law := wsr_14 _ (List.mem_of_getElem? (i := 5) rfl)
theorem wd_318 : (Cond.selects RX3 yX3_correct yX3_correct : Cond) ∈ wsL_law := wsr_14 _ (List.mem_of_getElem? (i := 6) rfl)
theorem wd_319 : (Cond.code yX3_correct cX3_correct 5 none : Cond) ∈ wsL_law := wsr_14 _ (List.mem_of_getElem? (i := 7) rfl)
theorem wd_320 : (Cond.methodLink RX3 108 Lib.Math.abs.name : Cond) ∈ wsL_law := wsr_14 _ (List.mem_of_getElem? (i := 8) rfl)
theorem wd_321 : (Cond.static Lib.Math.abs.name : Cond) ∈ wsL_law := wsr_14 _ (List.mem_of_getElem? (i := 9) rfl)
theorem wd_322 : (Cond.initialized "java/lang/Math" : Cond) ∈ wsL_law := wsr_14 _ (List.mem_of_getElem? (i := 10) rfl)
theorem wd_323 : (Cond.code Lib.Math.abs.name Lib.Math.abs.code 1 (some .int) : Cond) ∈ wsL_law := wsr_14 _ (List.mem_of_getElem? (i := 11) rfl)
theorem wd_324 : (Cond.methodLink RX3 118 Lib.Math.min.name : Cond) ∈ wsL_law := wsr_14 _ (List.mem_of_getElem? (i := 12) rfl)
theorem wd_325 : (Cond.static Lib.Math.min.name : Cond) ∈ wsL_law := wsr_14 _ (List.mem_of_getElem? (i := 13) rfl)
theorem wd_326 : (Cond.code Lib.Math.min.name Lib.Math.min.code 2 (some .int) : Cond) ∈ wsL_law := wsr_14 _ (List.mem_of_getElem? (i := 14) rfl)
theorem wd_327 : (Cond.methodLink RX3 122 Lib.Math.max.name : Cond) ∈ wsL_law := wsr_14 _ (List.mem_of_getElem? (i := 15) rfl)
theorem wd_328 : (Cond.static Lib.Math.max.name : Cond) ∈ wsL_law := wsr_14 _ (List.mem_of_getElem? (i := 16) rfl)
theorem wd_329 : (Cond.code Lib.Math.max.name Lib.Math.max.code 2 (some .int) : Cond) ∈ wsL_law := wsr_14 _ (List.mem_of_getElem? (i := 17) rfl)
theorem wd_330 : (Cond.methodLink RX3 104 yX1_trimOfSeen : Cond) ∈ wsL_law := wsr_14 _ (List.mem_of_getElem? (i := 18) rfl)
theorem wd_331 : (Cond.instanceMethod yX1_trimOfSeen : Cond) ∈ wsL_law := wsr_14 _ (List.mem_of_getElem? (i := 19) rfl)
theorem wd_332 : (Cond.selects RX1 yX1_trimOfSeen yX1_trimOfSeen : Cond) ∈ wsL_law := wsr_14 _ (List.mem_of_getElem? (i := 20) rfl)
theorem wd_333 : (Cond.code yX1_trimOfSeen cX1_trimOfSeen 3 (some .int) : Cond) ∈ wsL_law := wsr_14 _ (List.mem_of_getElem? (i := 21) rfl)
theorem wd_334 : (Cond.methodLink RX1 58 yX4_clear : Cond) ∈ wsL_law := wsr_14 _ (List.mem_of_getElem? (i := 22) rfl)
theorem wd_335 : (Cond.instanceMethod yX4_clear : Cond) ∈ wsL_law := wsr_14 _ (List.mem_of_getElem? (i := 23) rfl)
theorem wd_336 : (Cond.selects RX4 yX4_clear yX4_clear : Cond) ∈ wsL_law := wsr_15 _ (List.mem_of_getElem? (i := 0) rfl)
theorem wd_337 : (Cond.code yX4_clear cX4_clear 1 none : Cond) ∈ wsL_law := wsr_15 _ (List.mem_of_getElem? (i := 1) rfl)
theorem wd_338 : (Cond.methodLink RX1 63 yX4_put : Cond) ∈ wsL_law := wsr_15 _ (List.mem_of_getElem? (i := 2) rfl)
theorem wd_339 : (Cond.instanceMethod yX4_put : Cond) ∈ wsL_law := wsr_15 _ (List.mem_of_getElem? (i := 3) rfl)
theorem wd_340 : (Cond.selects RX4 yX4_put yX4_put : Cond) ∈ wsL_law := wsr_15 _ (List.mem_of_getElem? (i := 4) rfl)
theorem wd_341 : (Cond.code yX4_put cX4_put 3 none : Cond) ∈ wsL_law := wsr_15 _ (List.mem_of_getElem? (i := 5) rfl)
theorem wd_342 : (Cond.methodLink RX1 71 yX4_trimmed : Cond) ∈ wsL_law := wsr_15 _ (List.mem_of_getElem? (i := 6) rfl)
theorem wd_343 : (Cond.instanceMethod yX4_trimmed : Cond) ∈ wsL_law := wsr_15 _ (List.mem_of_getElem? (i := 7) rfl)
theorem wd_344 : (Cond.selects RX4 yX4_trimmed yX4_trimmed : Cond) ∈ wsL_law := wsr_15 _ (List.mem_of_getElem? (i := 8) rfl)
theorem wd_345 : (Cond.code yX4_trimmed cX4_trimmed 3 (some .int) : Cond) ∈ wsL_law := wsr_15 _ (List.mem_of_getElem? (i := 9) rfl)
theorem wd_346 : (Cond.methodLink RX3 114 yX1_trimOfMoves : Cond) ∈ wsL_law := wsr_15 _ (List.mem_of_getElem? (i := 10) rfl)
theorem wd_347 : (Cond.instanceMethod yX1_trimOfMoves : Cond) ∈ wsL_law := wsr_15 _ (List.mem_of_getElem? (i := 11) rfl)
theorem wd_348 : (Cond.selects RX1 yX1_trimOfMoves yX1_trimOfMoves : Cond) ∈ wsL_law := wsr_15 _ (List.mem_of_getElem? (i := 12) rfl)
theorem wd_349 : (Cond.code yX1_trimOfMoves cX1_trimOfMoves 4 (some .int) : Cond) ∈ wsL_law := wsr_15 _ (List.mem_of_getElem? (i := 13) rfl)
theorem wd_350 : (Cond.methodLink RX0 94 yX0_moveClocks : Cond) ∈ wsL_law := wsr_15 _ (List.mem_of_getElem? (i := 14) rfl)
theorem wd_351 : (Cond.instanceMethod yX0_moveClocks : Cond) ∈ wsL_law := wsr_15 _ (List.mem_of_getElem? (i := 15) rfl)
theorem wd_352 : (Cond.selects RX0 yX0_moveClocks yX0_moveClocks : Cond) ∈ wsL_law := wsr_15 _ (List.mem_of_getElem? (i := 16) rfl)
theorem wd_353 : (Cond.code yX0_moveClocks cX0_moveClocks 3 none : Cond) ∈ wsL_law := wsr_15 _ (List.mem_of_getElem? (i := 17) rfl)
theorem wd_354 : (Cond.fieldLink RX0 149 "SlotStart$Node" "drift" "I" : Cond) ∈ wsL_law := wsr_15 _ (List.mem_of_getElem? (i := 18) rfl)
theorem wd_355 : (Cond.fieldLink RX0 152 "SlotStart$Node" "rate" "I" : Cond) ∈ wsL_law := wsr_15 _ (List.mem_of_getElem? (i := 19) rfl)
theorem wd_356 : (Cond.fieldLink RX0 155 "SlotStart$Node" "age" "I" : Cond) ∈ wsL_law := wsr_15 _ (List.mem_of_getElem? (i := 20) rfl)
theorem wd_357 : (Cond.methodLink RX5 94 yX0_thatAre : Cond) ∈ wsL_law := wsr_15 _ (List.mem_of_getElem? (i := 21) rfl)
theorem wd_358 : (Cond.instanceMethod yX0_thatAre : Cond) ∈ wsL_law := wsr_15 _ (List.mem_of_getElem? (i := 22) rfl)
theorem wd_359 : (Cond.selects RX0 yX0_thatAre yX0_thatAre : Cond) ∈ wsL_law := wsr_15 _ (List.mem_of_getElem? (i := 23) rfl)
theorem wd_360 : (Cond.code yX0_thatAre cX0_thatAre 4 (some .int) : Cond) ∈ wsL_law := wsr_16 _ (List.mem_of_getElem? (i := 0) rfl)
theorem wd_361 : (Cond.methodLink RL 40 yX6_run : Cond) ∈ wsL_law := wsr_16 _ (List.mem_of_getElem? (i := 1) rfl)
theorem wd_362 : (Cond.instanceMethod yX6_run : Cond) ∈ wsL_law := wsr_16 _ (List.mem_of_getElem? (i := 2) rfl)
theorem wd_363 : (Cond.selects RX6 yX6_run yX6_run : Cond) ∈ wsL_law := wsr_16 _ (List.mem_of_getElem? (i := 3) rfl)
theorem wd_364 : (Cond.code yX6_run cX6_run 3 (some .int) : Cond) ∈ wsL_law := wsr_16 _ (List.mem_of_getElem? (i := 4) rfl)
theorem wd_365 : (Cond.methodLink RX6 139 yX6_cycle : Cond) ∈ wsL_law := wsr_16 _ (List.mem_of_getElem? (i := 5) rfl)
theorem wd_366 : (Cond.instanceMethod yX6_cycle : Cond) ∈ wsL_law := wsr_16 _ (List.mem_of_getElem? (i := 6) rfl)
theorem wd_367 : (Cond.selects RX6 yX6_cycle yX6_cycle : Cond) ∈ wsL_law := wsr_16 _ (List.mem_of_getElem? (i := 7) rfl)
theorem wd_368 : (Cond.code yX6_cycle cX6_cycle 2 none : Cond) ∈ wsL_law := wsr_16 _ (List.mem_of_getElem? (i := 8) rfl)
theorem wd_369 : (Cond.methodLink RX6 127 yX6_laySenders : Cond) ∈ wsL_law := wsr_16 _ (List.mem_of_getElem? (i := 9) rfl)
theorem wd_370 : (Cond.instanceMethod yX6_laySenders : Cond) ∈ wsL_law := wsr_16 _ (List.mem_of_getElem? (i := 10) rfl)
theorem wd_371 : (Cond.selects RX6 yX6_laySenders yX6_laySenders : Cond) ∈ wsL_law := wsr_16 _ (List.mem_of_getElem? (i := 11) rfl)
theorem wd_372 : (Cond.code yX6_laySenders cX6_laySenders 2 none : Cond) ∈ wsL_law := wsr_16 _ (List.mem_of_getElem? (i := 12) rfl)
theorem wd_373 : (Cond.methodLink RX6 76 yX6_isFirst : Cond) ∈ wsL_law := wsr_16 _ (List.mem_of_getElem? (i := 13) rfl)
theorem wd_374 : (Cond.instanceMethod yX6_isFirst : Cond) ∈ wsL_law := wsr_16 _ (List.mem_of_getElem? (i := 14) rfl)
theorem wd_375 : (Cond.selects RX6 yX6_isFirst yX6_isFirst : Cond) ∈ wsL_law := wsr_16 _ (List.mem_of_getElem? (i := 15) rfl)
theorem wd_376 : (Cond.code yX6_isFirst cX6_isFirst 2 (some .boolean) : Cond) ∈ wsL_law := wsr_16 _ (List.mem_of_getElem? (i := 16) rfl)
theorem wd_377 : (Cond.methodLink RX6 79 yX6_givesWay : Cond) ∈ wsL_law := wsr_16 _ (List.mem_of_getElem? (i := 17) rfl)
theorem wd_378 : (Cond.instanceMethod yX6_givesWay : Cond) ∈ wsL_law := wsr_16 _ (List.mem_of_getElem? (i := 18) rfl)
theorem wd_379 : (Cond.selects RX6 yX6_givesWay yX6_givesWay : Cond) ∈ wsL_law := wsr_16 _ (List.mem_of_getElem? (i := 19) rfl)
theorem wd_380 : (Cond.code yX6_givesWay cX6_givesWay 4 (some .boolean) : Cond) ∈ wsL_law := wsr_16 _ (List.mem_of_getElem? (i := 20) rfl)
theorem wd_381 : (Cond.methodLink RX6 130 yX6_hear : Cond) ∈ wsL_law := wsr_16 _ (List.mem_of_getElem? (i := 21) rfl)
theorem wd_382 : (Cond.instanceMethod yX6_hear : Cond) ∈ wsL_law := wsr_16 _ (List.mem_of_getElem? (i := 22) rfl)
theorem wd_383 : (Cond.selects RX6 yX6_hear yX6_hear : Cond) ∈ wsL_law := wsr_16 _ (List.mem_of_getElem? (i := 23) rfl)
theorem wd_384 : (Cond.code yX6_hear cX6_hear 3 none : Cond) ∈ wsL_law := wsr_17 _ (List.mem_of_getElem? (i := 0) rfl)
theorem wd_385 : (Cond.methodLink RX6 133 yX6_end : Cond) ∈ wsL_law := wsr_17 _ (List.mem_of_getElem? (i := 1) rfl)
theorem wd_386 : (Cond.instanceMethod yX6_end : Cond) ∈ wsL_law := wsr_17 _ (List.mem_of_getElem? (i := 2) rfl)
theorem wd_387 : (Cond.selects RX6 yX6_end yX6_end : Cond) ∈ wsL_law := wsr_17 _ (List.mem_of_getElem? (i := 3) rfl)
theorem wd_388 : (Cond.code yX6_end cX6_end 2 none : Cond) ∈ wsL_law := wsr_17 _ (List.mem_of_getElem? (i := 4) rfl)
theorem wd_389 : (Cond.methodLink RX6 82 yX6_keepEvent : Cond) ∈ wsL_law := wsr_17 _ (List.mem_of_getElem? (i := 5) rfl)
theorem wd_390 : (Cond.instanceMethod yX6_keepEvent : Cond) ∈ wsL_law := wsr_17 _ (List.mem_of_getElem? (i := 6) rfl)
theorem wd_391 : (Cond.selects RX6 yX6_keepEvent yX6_keepEvent : Cond) ∈ wsL_law := wsr_17 _ (List.mem_of_getElem? (i := 7) rfl)
theorem wd_392 : (Cond.code yX6_keepEvent cX6_keepEvent 3 none : Cond) ∈ wsL_law := wsr_17 _ (List.mem_of_getElem? (i := 8) rfl)
theorem wd_393 : (Cond.methodLink RX6 115 yX6_listen : Cond) ∈ wsL_law := wsr_17 _ (List.mem_of_getElem? (i := 9) rfl)
theorem wd_394 : (Cond.instanceMethod yX6_listen : Cond) ∈ wsL_law := wsr_17 _ (List.mem_of_getElem? (i := 10) rfl)
theorem wd_395 : (Cond.selects RX6 yX6_listen yX6_listen : Cond) ∈ wsL_law := wsr_17 _ (List.mem_of_getElem? (i := 11) rfl)
theorem wd_396 : (Cond.code yX6_listen cX6_listen 3 none : Cond) ∈ wsL_law := wsr_17 _ (List.mem_of_getElem? (i := 12) rfl)
theorem wd_397 : (Cond.methodLink RX6 89 yX6_otherSign : Cond) ∈ wsL_law := wsr_17 _ (List.mem_of_getElem? (i := 13) rfl)
theorem wd_398 : (Cond.instanceMethod yX6_otherSign : Cond) ∈ wsL_law := wsr_17 _ (List.mem_of_getElem? (i := 14) rfl)
theorem wd_399 : (Cond.selects RX6 yX6_otherSign yX6_otherSign : Cond) ∈ wsL_law := wsr_17 _ (List.mem_of_getElem? (i := 15) rfl)
theorem wd_400 : (Cond.code yX6_otherSign cX6_otherSign 4 (some .boolean) : Cond) ∈ wsL_law := wsr_17 _ (List.mem_of_getElem? (i := 16) rfl)
theorem wd_401 : (Cond.methodLink RX6 92 yX6_follow : Cond) ∈ wsL_law := wsr_17 _ (List.mem_of_getElem? (i := 17) rfl)
theorem wd_402 : (Cond.instanceMethod yX6_follow : Cond) ∈ wsL_law := wsr_17 _ (List.mem_of_getElem? (i := 18) rfl)
theorem wd_403 : (Cond.selects RX6 yX6_follow yX6_follow : Cond) ∈ wsL_law := wsr_17 _ (List.mem_of_getElem? (i := 19) rfl)
theorem wd_404 : (Cond.code yX6_follow cX6_follow 4 none : Cond) ∈ wsL_law := wsr_17 _ (List.mem_of_getElem? (i := 20) rfl)
theorem wd_405 : (Cond.methodLink RX6 86 yX6_become : Cond) ∈ wsL_law := wsr_17 _ (List.mem_of_getElem? (i := 21) rfl)
theorem wd_406 : (Cond.instanceMethod yX6_become : Cond) ∈ wsL_law := wsr_17 _ (List.mem_of_getElem? (i := 22) rfl)
theorem wd_407 : (Cond.selects RX6 yX6_become yX6_become : Cond) ∈ wsL_law := wsr_17 _ (List.mem_of_getElem? (i := 23) rfl)
theorem wd_408 : (Cond.code yX6_become cX6_become 3 none : Cond) ∈ wsL_law := wsr_18 _ (List.mem_of_getElem? (i := 0) rfl)
theorem wd_409 : (Cond.methodLink RX6 118 yX6_lead : Cond) ∈ wsL_law := wsr_18 _ (List.mem_of_getElem? (i := 1) rfl)
theorem wd_410 : (Cond.instanceMethod yX6_lead : Cond) ∈ wsL_law := wsr_18 _ (List.mem_of_getElem? (i := 2) rfl)
theorem wd_411 : (Cond.selects RX6 yX6_lead yX6_lead : Cond) ∈ wsL_law := wsr_18 _ (List.mem_of_getElem? (i := 3) rfl)
theorem wd_412 : (Cond.code yX6_lead cX6_lead 2 none : Cond) ∈ wsL_law := wsr_18 _ (List.mem_of_getElem? (i := 4) rfl)
theorem wd_413 : (Cond.methodLink RX6 121 yX6_join : Cond) ∈ wsL_law := wsr_18 _ (List.mem_of_getElem? (i := 5) rfl)
theorem wd_414 : (Cond.instanceMethod yX6_join : Cond) ∈ wsL_law := wsr_18 _ (List.mem_of_getElem? (i := 6) rfl)
theorem wd_415 : (Cond.selects RX6 yX6_join yX6_join : Cond) ∈ wsL_law := wsr_18 _ (List.mem_of_getElem? (i := 7) rfl)
theorem wd_416 : (Cond.code yX6_join cX6_join 2 none : Cond) ∈ wsL_law := wsr_18 _ (List.mem_of_getElem? (i := 8) rfl)
theorem wd_417 : (Cond.methodLink RX6 124 yX6_keepOn : Cond) ∈ wsL_law := wsr_18 _ (List.mem_of_getElem? (i := 9) rfl)
theorem wd_418 : (Cond.instanceMethod yX6_keepOn : Cond) ∈ wsL_law := wsr_18 _ (List.mem_of_getElem? (i := 10) rfl)
theorem wd_419 : (Cond.selects RX6 yX6_keepOn yX6_keepOn : Cond) ∈ wsL_law := wsr_18 _ (List.mem_of_getElem? (i := 11) rfl)
theorem wd_420 : (Cond.code yX6_keepOn cX6_keepOn 2 none : Cond) ∈ wsL_law := wsr_18 _ (List.mem_of_getElem? (i := 12) rfl)
theorem wd_421 : (Cond.methodLink RX6 112 yX6_correct : Cond) ∈ wsL_law := wsr_18 _ (List.mem_of_getElem? (i := 13) rfl)
theorem wd_422 : (Cond.instanceMethod yX6_correct : Cond) ∈ wsL_law := wsr_18 _ (List.mem_of_getElem? (i := 14) rfl)
theorem wd_423 : (Cond.selects RX6 yX6_correct yX6_correct : Cond) ∈ wsL_law := wsr_18 _ (List.mem_of_getElem? (i := 15) rfl)
theorem wd_424 : (Cond.code yX6_correct cX6_correct 4 none : Cond) ∈ wsL_law := wsr_18 _ (List.mem_of_getElem? (i := 16) rfl)
theorem wd_425 : (Cond.methodLink RX6 102 yX6_trimSeen : Cond) ∈ wsL_law := wsr_18 _ (List.mem_of_getElem? (i := 17) rfl)
theorem wd_426 : (Cond.instanceMethod yX6_trimSeen : Cond) ∈ wsL_law := wsr_18 _ (List.mem_of_getElem? (i := 18) rfl)
theorem wd_427 : (Cond.selects RX6 yX6_trimSeen yX6_trimSeen : Cond) ∈ wsL_law := wsr_18 _ (List.mem_of_getElem? (i := 19) rfl)
theorem wd_428 : (Cond.code yX6_trimSeen cX6_trimSeen 3 (some .int) : Cond) ∈ wsL_law := wsr_18 _ (List.mem_of_getElem? (i := 20) rfl)
theorem wd_429 : (Cond.fieldLink RX6 72 "SlotStartModel" "many" "I" : Cond) ∈ wsL_law := wsr_18 _ (List.mem_of_getElem? (i := 21) rfl)
theorem wd_430 : (Cond.methodLink RX6 95 yX6_lay : Cond) ∈ wsL_law := wsr_18 _ (List.mem_of_getElem? (i := 22) rfl)
theorem wd_431 : (Cond.instanceMethod yX6_lay : Cond) ∈ wsL_law := wsr_18 _ (List.mem_of_getElem? (i := 23) rfl)
theorem wd_432 : (Cond.selects RX6 yX6_lay yX6_lay : Cond) ∈ wsL_law := wsr_19 _ (List.mem_of_getElem? (i := 0) rfl)
theorem wd_433 : (Cond.code yX6_lay cX6_lay 3 none : Cond) ∈ wsL_law := wsr_19 _ (List.mem_of_getElem? (i := 1) rfl)
theorem wd_434 : (Cond.methodLink RX6 98 yX6_trimmed : Cond) ∈ wsL_law := wsr_19 _ (List.mem_of_getElem? (i := 2) rfl)
theorem wd_435 : (Cond.instanceMethod yX6_trimmed : Cond) ∈ wsL_law := wsr_19 _ (List.mem_of_getElem? (i := 3) rfl)
theorem wd_436 : (Cond.selects RX6 yX6_trimmed yX6_trimmed : Cond) ∈ wsL_law := wsr_19 _ (List.mem_of_getElem? (i := 4) rfl)
theorem wd_437 : (Cond.code yX6_trimmed cX6_trimmed 2 (some .int) : Cond) ∈ wsL_law := wsr_19 _ (List.mem_of_getElem? (i := 5) rfl)
theorem wd_438 : (Cond.methodLink RX6 106 yX6_plain : Cond) ∈ wsL_law := wsr_19 _ (List.mem_of_getElem? (i := 6) rfl)
theorem wd_439 : (Cond.static yX6_plain : Cond) ∈ wsL_law := wsr_19 _ (List.mem_of_getElem? (i := 7) rfl)
theorem wd_440 : (Cond.code yX6_plain cX6_plain 1 (some .int) : Cond) ∈ wsL_law := wsr_19 _ (List.mem_of_getElem? (i := 8) rfl)
theorem wd_441 : (Cond.methodLink RX6 109 yX6_trimChanged : Cond) ∈ wsL_law := wsr_19 _ (List.mem_of_getElem? (i := 9) rfl)
theorem wd_442 : (Cond.instanceMethod yX6_trimChanged : Cond) ∈ wsL_law := wsr_19 _ (List.mem_of_getElem? (i := 10) rfl)
theorem wd_443 : (Cond.selects RX6 yX6_trimChanged yX6_trimChanged : Cond) ∈ wsL_law := wsr_19 _ (List.mem_of_getElem? (i := 11) rfl)
theorem wd_444 : (Cond.code yX6_trimChanged cX6_trimChanged 3 (some .int) : Cond) ∈ wsL_law := wsr_19 _ (List.mem_of_getElem? (i := 12) rfl)
theorem wd_445 : (Cond.methodLink RX6 136 yX6_keepCycle : Cond) ∈ wsL_law := wsr_19 _ (List.mem_of_getElem? (i := 13) rfl)
theorem wd_446 : (Cond.instanceMethod yX6_keepCycle : Cond) ∈ wsL_law := wsr_19 _ (List.mem_of_getElem? (i := 14) rfl)
theorem wd_447 : (Cond.selects RX6 yX6_keepCycle yX6_keepCycle : Cond) ∈ wsL_law := wsr_19 _ (List.mem_of_getElem? (i := 15) rfl)
theorem wd_448 : (Cond.code yX6_keepCycle cX6_keepCycle 3 none : Cond) ∈ wsL_law := wsr_19 _ (List.mem_of_getElem? (i := 16) rfl)
theorem wd_449 : (Cond.methodLink RX6 142 yX6_setOf : Cond) ∈ wsL_law := wsr_19 _ (List.mem_of_getElem? (i := 17) rfl)
theorem wd_450 : (Cond.instanceMethod yX6_setOf : Cond) ∈ wsL_law := wsr_19 _ (List.mem_of_getElem? (i := 18) rfl)
theorem wd_451 : (Cond.selects RX6 yX6_setOf yX6_setOf : Cond) ∈ wsL_law := wsr_19 _ (List.mem_of_getElem? (i := 19) rfl)
theorem wd_452 : (Cond.code yX6_setOf cX6_setOf 4 (some .int) : Cond) ∈ wsL_law := wsr_19 _ (List.mem_of_getElem? (i := 20) rfl)
theorem wd_453 : (Cond.methodLink RL 41 yX5_told : Cond) ∈ wsL_law := wsr_19 _ (List.mem_of_getElem? (i := 21) rfl)
theorem wd_454 : (Cond.instanceMethod yX5_told : Cond) ∈ wsL_law := wsr_19 _ (List.mem_of_getElem? (i := 22) rfl)
theorem wd_455 : (Cond.selects RX5 yX5_told yX5_told : Cond) ∈ wsL_law := wsr_19 _ (List.mem_of_getElem? (i := 23) rfl)
theorem wd_456 : (Cond.code yX5_told cX5_told 4 (some .int) : Cond) ∈ wsL_law := wsr_20 _ (List.mem_of_getElem? (i := 0) rfl)
theorem wd_457 : (Cond.fieldLink RX5 97 "SlotStart$Node" "age" "I" : Cond) ∈ wsL_law := wsr_20 _ (List.mem_of_getElem? (i := 1) rfl)
theorem wd_458 : (Cond.fieldLink RX5 100 "SlotStart$Node" "quiet" "I" : Cond) ∈ wsL_law := wsr_20 _ (List.mem_of_getElem? (i := 2) rfl)
theorem wd_459 : (Cond.fieldLink RX5 103 "SlotStart$Node" "good" "I" : Cond) ∈ wsL_law := wsr_20 _ (List.mem_of_getElem? (i := 3) rfl)
theorem wd_460 : (Cond.fieldLink RX5 106 "SlotStart$Node" "bad" "I" : Cond) ∈ wsL_law := wsr_20 _ (List.mem_of_getElem? (i := 4) rfl)
theorem wd_461 : (Cond.fieldLink RX5 109 "SlotStart$Node" "at" "I" : Cond) ∈ wsL_law := wsr_20 _ (List.mem_of_getElem? (i := 5) rfl)
theorem wd_462 : (Cond.constant RX5 112 (100000) : Cond) ∈ wsL_law := wsr_20 _ (List.mem_of_getElem? (i := 6) rfl)
theorem wd_463 : (Cond.fieldLink RX5 113 "SlotStart$Node" "rate" "I" : Cond) ∈ wsL_law := wsr_20 _ (List.mem_of_getElem? (i := 7) rfl)
theorem wd_464 : (Cond.fieldLink RX5 116 "SlotStart$Node" "sent" "I" : Cond) ∈ wsL_law := wsr_20 _ (List.mem_of_getElem? (i := 8) rfl)
theorem wd_465 : (Cond.fieldLink RX5 119 "SlotStart$Node" "last" "LSlotStart$Hearing;" : Cond) ∈ wsL_law := wsr_20 _ (List.mem_of_getElem? (i := 9) rfl)
theorem wd_466 : (Cond.fieldLink RX5 123 "SlotStart$Hearing" "guide" "I" : Cond) ∈ wsL_law := wsr_20 _ (List.mem_of_getElem? (i := 10) rfl)
theorem wd_467 : (Cond.fieldLink RX5 128 "SlotStart$Hearing" "heard" "I" : Cond) ∈ wsL_law := wsr_20 _ (List.mem_of_getElem? (i := 11) rfl)
theorem wd_468 : (Cond.methodLink RL 44 yX6_told : Cond) ∈ wsL_law := wsr_20 _ (List.mem_of_getElem? (i := 12) rfl)
theorem wd_469 : (Cond.instanceMethod yX6_told : Cond) ∈ wsL_law := wsr_20 _ (List.mem_of_getElem? (i := 13) rfl)
theorem wd_470 : (Cond.selects RX6 yX6_told yX6_told : Cond) ∈ wsL_law := wsr_20 _ (List.mem_of_getElem? (i := 14) rfl)
theorem wd_471 : (Cond.code yX6_told cX6_told 3 (some .int) : Cond) ∈ wsL_law := wsr_20 _ (List.mem_of_getElem? (i := 15) rfl)
theorem wd_472 : (Cond.constant RX6 145 (100000) : Cond) ∈ wsL_law := wsr_20 _ (List.mem_of_getElem? (i := 16) rfl)
theorem wd_473 : (Cond.methodLink RX6 146 yX6_size : Cond) ∈ wsL_law := wsr_20 _ (List.mem_of_getElem? (i := 17) rfl)
theorem wd_474 : (Cond.static yX6_size : Cond) ∈ wsL_law := wsr_20 _ (List.mem_of_getElem? (i := 18) rfl)
theorem wd_475 : (Cond.code yX6_size cX6_size 3 (some .int) : Cond) ∈ wsL_law := wsr_20 _ (List.mem_of_getElem? (i := 19) rfl)
theorem wd_476 : (Cond.methodLink RL 45 yX5_seen : Cond) ∈ wsL_law := wsr_20 _ (List.mem_of_getElem? (i := 20) rfl)
theorem wd_477 : (Cond.instanceMethod yX5_seen : Cond) ∈ wsL_law := wsr_20 _ (List.mem_of_getElem? (i := 21) rfl)
theorem wd_478 : (Cond.selects RX5 yX5_seen yX5_seen : Cond) ∈ wsL_law := wsr_20 _ (List.mem_of_getElem? (i := 22) rfl)
theorem wd_479 : (Cond.code yX5_seen cX5_seen 4 (some .int) : Cond) ∈ wsL_law := wsr_20 _ (List.mem_of_getElem? (i := 23) rfl)
theorem wd_480 : (Cond.fieldLink RX5 134 "SlotStart$Hearing" "seen" "[I" : Cond) ∈ wsL_law := wsr_21 _ (List.mem_of_getElem? (i := 0) rfl)
theorem wd_481 : (Cond.methodLink RX5 131 yX5_isIn : Cond) ∈ wsL_law := wsr_21 _ (List.mem_of_getElem? (i := 1) rfl)
theorem wd_482 : (Cond.methodLink RL 48 yX6_seen : Cond) ∈ wsL_law := wsr_21 _ (List.mem_of_getElem? (i := 2) rfl)
theorem wd_483 : (Cond.instanceMethod yX6_seen : Cond) ∈ wsL_law := wsr_21 _ (List.mem_of_getElem? (i := 3) rfl)
theorem wd_484 : (Cond.selects RX6 yX6_seen yX6_seen : Cond) ∈ wsL_law := wsr_21 _ (List.mem_of_getElem? (i := 4) rfl)
theorem wd_485 : (Cond.code yX6_seen cX6_seen 3 (some .int) : Cond) ∈ wsL_law := wsr_21 _ (List.mem_of_getElem? (i := 5) rfl)
theorem wd_486 : (Cond.methodLink RL 49 yX5_trim : Cond) ∈ wsL_law := wsr_21 _ (List.mem_of_getElem? (i := 6) rfl)
theorem wd_487 : (Cond.instanceMethod yX5_trim : Cond) ∈ wsL_law := wsr_21 _ (List.mem_of_getElem? (i := 7) rfl)
theorem wd_488 : (Cond.selects RX5 yX5_trim yX5_trim : Cond) ∈ wsL_law := wsr_21 _ (List.mem_of_getElem? (i := 8) rfl)
theorem wd_489 : (Cond.code yX5_trim cX5_trim 6 (some .int) : Cond) ∈ wsL_law := wsr_21 _ (List.mem_of_getElem? (i := 9) rfl)
theorem wd_490 : (Cond.methodLink RX5 138 yX4_clear : Cond) ∈ wsL_law := wsr_21 _ (List.mem_of_getElem? (i := 10) rfl)
theorem wd_491 : (Cond.methodLink RX5 141 yX4_put : Cond) ∈ wsL_law := wsr_21 _ (List.mem_of_getElem? (i := 11) rfl)
theorem wd_492 : (Cond.methodLink RX5 145 yX4_areWithin : Cond) ∈ wsL_law := wsr_21 _ (List.mem_of_getElem? (i := 12) rfl)
theorem wd_493 : (Cond.instanceMethod yX4_areWithin : Cond) ∈ wsL_law := wsr_21 _ (List.mem_of_getElem? (i := 13) rfl)
theorem wd_494 : (Cond.selects RX4 yX4_areWithin yX4_areWithin : Cond) ∈ wsL_law := wsr_21 _ (List.mem_of_getElem? (i := 14) rfl)
theorem wd_495 : (Cond.code yX4_areWithin cX4_areWithin 4 (some .boolean) : Cond) ∈ wsL_law := wsr_21 _ (List.mem_of_getElem? (i := 15) rfl)
theorem wd_496 : (Cond.methodLink RX5 148 yX4_trimmed : Cond) ∈ wsL_law := wsr_21 _ (List.mem_of_getElem? (i := 16) rfl)
theorem wd_497 : (Cond.methodLink RL 53 yX6_trim : Cond) ∈ wsL_law := wsr_21 _ (List.mem_of_getElem? (i := 17) rfl)
theorem wd_498 : (Cond.instanceMethod yX6_trim : Cond) ∈ wsL_law := wsr_21 _ (List.mem_of_getElem? (i := 18) rfl)
theorem wd_499 : (Cond.selects RX6 yX6_trim yX6_trim : Cond) ∈ wsL_law := wsr_21 _ (List.mem_of_getElem? (i := 19) rfl)
theorem wd_500 : (Cond.code yX6_trim cX6_trim 6 (some .int) : Cond) ∈ wsL_law := wsr_21 _ (List.mem_of_getElem? (i := 20) rfl)
theorem wd_501 : (Cond.methodLink RX6 149 yX6_isWithin : Cond) ∈ wsL_law := wsr_21 _ (List.mem_of_getElem? (i := 21) rfl)
theorem wd_502 : (Cond.static yX6_isWithin : Cond) ∈ wsL_law := wsr_21 _ (List.mem_of_getElem? (i := 22) rfl)
theorem wd_503 : (Cond.code yX6_isWithin cX6_isWithin 1 (some .boolean) : Cond) ∈ wsL_law := wsr_21 _ (List.mem_of_getElem? (i := 23) rfl)
theorem wd_504 : (Cond.methodLink RL 54 yX5_event : Cond) ∈ wsL_law := wsr_22 _ (List.mem_of_getElem? (i := 0) rfl)
theorem wd_505 : (Cond.instanceMethod yX5_event : Cond) ∈ wsL_law := wsr_22 _ (List.mem_of_getElem? (i := 1) rfl)
theorem wd_506 : (Cond.selects RX5 yX5_event yX5_event : Cond) ∈ wsL_law := wsr_22 _ (List.mem_of_getElem? (i := 2) rfl)
theorem wd_507 : (Cond.code yX5_event cX5_event 4 (some .int) : Cond) ∈ wsL_law := wsr_22 _ (List.mem_of_getElem? (i := 3) rfl)
theorem wd_508 : (Cond.fieldLink RX5 151 "SlotStart$Bus" "log" "LSlotStart$Log;" : Cond) ∈ wsL_law := wsr_22 _ (List.mem_of_getElem? (i := 4) rfl)
theorem wd_509 : (Cond.fieldLink RX5 155 "SlotStart$Log" "size" "I" : Cond) ∈ wsL_law := wsr_22 _ (List.mem_of_getElem? (i := 5) rfl)
theorem wd_510 : (Cond.fieldLink RX5 163 "SlotStart$Log" "cycles" "[I" : Cond) ∈ wsL_law := wsr_22 _ (List.mem_of_getElem? (i := 6) rfl)
theorem wd_511 : (Cond.fieldLink RX5 166 "SlotStart$Log" "nodes" "[I" : Cond) ∈ wsL_law := wsr_22 _ (List.mem_of_getElem? (i := 7) rfl)
theorem wd_512 : (Cond.fieldLink RX5 168 "SlotStart$Log" "things" "[I" : Cond) ∈ wsL_law := wsr_22 _ (List.mem_of_getElem? (i := 8) rfl)
theorem wd_513 : (Cond.methodLink RX5 160 yX2_placeOf : Cond) ∈ wsL_law := wsr_22 _ (List.mem_of_getElem? (i := 9) rfl)
theorem wd_514 : (Cond.instanceMethod yX2_placeOf : Cond) ∈ wsL_law := wsr_22 _ (List.mem_of_getElem? (i := 10) rfl)
theorem wd_515 : (Cond.selects RX2 yX2_placeOf yX2_placeOf : Cond) ∈ wsL_law := wsr_22 _ (List.mem_of_getElem? (i := 11) rfl)
theorem wd_516 : (Cond.code yX2_placeOf cX2_placeOf 2 (some .int) : Cond) ∈ wsL_law := wsr_22 _ (List.mem_of_getElem? (i := 12) rfl)
theorem wd_517 : (Cond.methodLink RL 57 yX6_event : Cond) ∈ wsL_law := wsr_22 _ (List.mem_of_getElem? (i := 13) rfl)
theorem wd_518 : (Cond.instanceMethod yX6_event : Cond) ∈ wsL_law := wsr_22 _ (List.mem_of_getElem? (i := 14) rfl)
theorem wd_519 : (Cond.selects RX6 yX6_event yX6_event : Cond) ∈ wsL_law := wsr_22 _ (List.mem_of_getElem? (i := 15) rfl)
theorem wd_520 : (Cond.code yX6_event cX6_event 3 (some .int) : Cond) ∈ wsL_law := wsr_22 _ (List.mem_of_getElem? (i := 16) rfl)
theorem wd_521 : (Cond.methodLink RL 58 yX5_spread : Cond) ∈ wsL_law := wsr_22 _ (List.mem_of_getElem? (i := 17) rfl)
theorem wd_522 : (Cond.instanceMethod yX5_spread : Cond) ∈ wsL_law := wsr_22 _ (List.mem_of_getElem? (i := 18) rfl)
theorem wd_523 : (Cond.selects RX5 yX5_spread yX5_spread : Cond) ∈ wsL_law := wsr_22 _ (List.mem_of_getElem? (i := 19) rfl)
theorem wd_524 : (Cond.code yX5_spread cX5_spread 1 (some .int) : Cond) ∈ wsL_law := wsr_22 _ (List.mem_of_getElem? (i := 20) rfl)
theorem wd_525 : (Cond.methodLink RX5 171 yX0_apart : Cond) ∈ wsL_law := wsr_22 _ (List.mem_of_getElem? (i := 21) rfl)
theorem wd_526 : (Cond.instanceMethod yX0_apart : Cond) ∈ wsL_law := wsr_22 _ (List.mem_of_getElem? (i := 22) rfl)
theorem wd_527 : (Cond.selects RX0 yX0_apart yX0_apart : Cond) ∈ wsL_law := wsr_22 _ (List.mem_of_getElem? (i := 23) rfl)
theorem wd_528 : (Cond.code yX0_apart cX0_apart 7 (some .int) : Cond) ∈ wsL_law := wsr_23 _ (List.mem_of_getElem? (i := 0) rfl)
theorem wd_529 : (Cond.methodLink RX0 72 Lib.Math.min.name : Cond) ∈ wsL_law := wsr_23 _ (List.mem_of_getElem? (i := 1) rfl)
theorem wd_530 : (Cond.methodLink RX0 78 Lib.Math.max.name : Cond) ∈ wsL_law := wsr_23 _ (List.mem_of_getElem? (i := 2) rfl)
theorem wd_531 : (Cond.methodLink RL 62 yX6_spread : Cond) ∈ wsL_law := wsr_23 _ (List.mem_of_getElem? (i := 3) rfl)
theorem wd_532 : (Cond.instanceMethod yX6_spread : Cond) ∈ wsL_law := wsr_23 _ (List.mem_of_getElem? (i := 4) rfl)
theorem wd_533 : (Cond.selects RX6 yX6_spread yX6_spread : Cond) ∈ wsL_law := wsr_23 _ (List.mem_of_getElem? (i := 5) rfl)
theorem wd_534 : (Cond.code yX6_spread cX6_spread 1 (some .int) : Cond) ∈ wsL_law := wsr_23 _ (List.mem_of_getElem? (i := 6) rfl)
theorem wd_535 : (Cond.methodLink RX6 152 yX6_spreadBut : Cond) ∈ wsL_law := wsr_23 _ (List.mem_of_getElem? (i := 7) rfl)
theorem wd_536 : (Cond.instanceMethod yX6_spreadBut : Cond) ∈ wsL_law := wsr_23 _ (List.mem_of_getElem? (i := 8) rfl)
theorem wd_537 : (Cond.selects RX6 yX6_spreadBut yX6_spreadBut : Cond) ∈ wsL_law := wsr_23 _ (List.mem_of_getElem? (i := 9) rfl)
theorem wd_538 : (Cond.code yX6_spreadBut cX6_spreadBut 6 (some .int) : Cond) ∈ wsL_law := wsr_23 _ (List.mem_of_getElem? (i := 10) rfl)
theorem wd_539 : (Cond.methodLink RL 63 yX5_soon : Cond) ∈ wsL_law := wsr_23 _ (List.mem_of_getElem? (i := 11) rfl)
theorem wd_540 : (Cond.instanceMethod yX5_soon : Cond) ∈ wsL_law := wsr_23 _ (List.mem_of_getElem? (i := 12) rfl)
theorem wd_541 : (Cond.selects RX5 yX5_soon yX5_soon : Cond) ∈ wsL_law := wsr_23 _ (List.mem_of_getElem? (i := 13) rfl)
theorem wd_542 : (Cond.code yX5_soon cX5_soon 3 (some .int) : Cond) ∈ wsL_law := wsr_23 _ (List.mem_of_getElem? (i := 14) rfl)
theorem wd_543 : (Cond.methodLink RX5 174 yX0_copy : Cond) ∈ wsL_law := wsr_23 _ (List.mem_of_getElem? (i := 15) rfl)
theorem wd_544 : (Cond.instanceMethod yX0_copy : Cond) ∈ wsL_law := wsr_23 _ (List.mem_of_getElem? (i := 16) rfl)
theorem wd_545 : (Cond.selects RX0 yX0_copy yX0_copy : Cond) ∈ wsL_law := wsr_23 _ (List.mem_of_getElem? (i := 17) rfl)
theorem wd_546 : (Cond.code yX0_copy cX0_copy 3 none : Cond) ∈ wsL_law := wsr_23 _ (List.mem_of_getElem? (i := 18) rfl)
theorem wd_547 : (Cond.methodLink RX0 44 yX3_copy : Cond) ∈ wsL_law := wsr_23 _ (List.mem_of_getElem? (i := 19) rfl)
theorem wd_548 : (Cond.instanceMethod yX3_copy : Cond) ∈ wsL_law := wsr_23 _ (List.mem_of_getElem? (i := 20) rfl)
theorem wd_549 : (Cond.selects RX3 yX3_copy yX3_copy : Cond) ∈ wsL_law := wsr_23 _ (List.mem_of_getElem? (i := 21) rfl)
theorem wd_550 : (Cond.code yX3_copy cX3_copy 2 none : Cond) ∈ wsL_law := wsr_23 _ (List.mem_of_getElem? (i := 22) rfl)
theorem wd_551 : (Cond.methodLink RX3 65 yX1_copy : Cond) ∈ wsL_law := wsr_23 _ (List.mem_of_getElem? (i := 23) rfl)
theorem wd_552 : (Cond.instanceMethod yX1_copy : Cond) ∈ wsL_law := wsr_24 _ (List.mem_of_getElem? (i := 0) rfl)
theorem wd_553 : (Cond.selects RX1 yX1_copy yX1_copy : Cond) ∈ wsL_law := wsr_24 _ (List.mem_of_getElem? (i := 1) rfl)
theorem wd_554 : (Cond.code yX1_copy cX1_copy 3 none : Cond) ∈ wsL_law := wsr_24 _ (List.mem_of_getElem? (i := 2) rfl)
theorem wd_555 : (Cond.methodLink RX0 48 yX2_copy : Cond) ∈ wsL_law := wsr_24 _ (List.mem_of_getElem? (i := 3) rfl)
theorem wd_556 : (Cond.instanceMethod yX2_copy : Cond) ∈ wsL_law := wsr_24 _ (List.mem_of_getElem? (i := 4) rfl)
theorem wd_557 : (Cond.selects RX2 yX2_copy yX2_copy : Cond) ∈ wsL_law := wsr_24 _ (List.mem_of_getElem? (i := 5) rfl)
theorem wd_558 : (Cond.code yX2_copy cX2_copy 3 none : Cond) ∈ wsL_law := wsr_24 _ (List.mem_of_getElem? (i := 6) rfl)
theorem wd_559 : (Cond.methodLink RX5 178 yX5_areAllIn : Cond) ∈ wsL_law := wsr_24 _ (List.mem_of_getElem? (i := 7) rfl)
theorem wd_560 : (Cond.static yX5_areAllIn : Cond) ∈ wsL_law := wsr_24 _ (List.mem_of_getElem? (i := 8) rfl)
theorem wd_561 : (Cond.code yX5_areAllIn cX5_areAllIn 2 (some .boolean) : Cond) ∈ wsL_law := wsr_24 _ (List.mem_of_getElem? (i := 9) rfl)
theorem wd_562 : (Cond.methodLink RL 66 yX6_soon : Cond) ∈ wsL_law := wsr_24 _ (List.mem_of_getElem? (i := 10) rfl)
theorem wd_563 : (Cond.instanceMethod yX6_soon : Cond) ∈ wsL_law := wsr_24 _ (List.mem_of_getElem? (i := 11) rfl)
theorem wd_564 : (Cond.selects RX6 yX6_soon yX6_soon : Cond) ∈ wsL_law := wsr_24 _ (List.mem_of_getElem? (i := 12) rfl)
theorem wd_565 : (Cond.code yX6_soon cX6_soon 4 (some .int) : Cond) ∈ wsL_law := wsr_24 _ (List.mem_of_getElem? (i := 13) rfl)
theorem wd_566 : (Cond.methodLink RX6 155 yX6_inSet : Cond) ∈ wsL_law := wsr_24 _ (List.mem_of_getElem? (i := 14) rfl)
theorem wd_567 : (Cond.instanceMethod yX6_inSet : Cond) ∈ wsL_law := wsr_24 _ (List.mem_of_getElem? (i := 15) rfl)
theorem wd_568 : (Cond.selects RX6 yX6_inSet yX6_inSet : Cond) ∈ wsL_law := wsr_24 _ (List.mem_of_getElem? (i := 16) rfl)
theorem wd_569 : (Cond.code yX6_inSet cX6_inSet 3 (some .int) : Cond) ∈ wsL_law := wsr_24 _ (List.mem_of_getElem? (i := 17) rfl)
theorem wd_570 : (Cond.methodLink RX6 158 yX6_save : Cond) ∈ wsL_law := wsr_24 _ (List.mem_of_getElem? (i := 18) rfl)
theorem wd_571 : (Cond.instanceMethod yX6_save : Cond) ∈ wsL_law := wsr_24 _ (List.mem_of_getElem? (i := 19) rfl)
theorem wd_572 : (Cond.selects RX6 yX6_save yX6_save : Cond) ∈ wsL_law := wsr_24 _ (List.mem_of_getElem? (i := 20) rfl)
theorem wd_573 : (Cond.code yX6_save cX6_save 3 none : Cond) ∈ wsL_law := wsr_24 _ (List.mem_of_getElem? (i := 21) rfl)
theorem wd_574 : (Cond.methodLink RX6 161 yX6_load : Cond) ∈ wsL_law := wsr_24 _ (List.mem_of_getElem? (i := 22) rfl)
theorem wd_575 : (Cond.instanceMethod yX6_load : Cond) ∈ wsL_law := wsr_24 _ (List.mem_of_getElem? (i := 23) rfl)
theorem wd_576 : (Cond.selects RX6 yX6_load yX6_load : Cond) ∈ wsL_law := wsr_25 _ (List.mem_of_getElem? (i := 0) rfl)
theorem wd_577 : (Cond.code yX6_load cX6_load 3 none : Cond) ∈ wsL_law := wsr_25 _ (List.mem_of_getElem? (i := 1) rfl)
theorem wd_578 : (Cond.methodLink RL 67 yX5_bears : Cond) ∈ wsL_law := wsr_25 _ (List.mem_of_getElem? (i := 2) rfl)
theorem wd_579 : (Cond.instanceMethod yX5_bears : Cond) ∈ wsL_law := wsr_25 _ (List.mem_of_getElem? (i := 3) rfl)
theorem wd_580 : (Cond.selects RX5 yX5_bears yX5_bears : Cond) ∈ wsL_law := wsr_25 _ (List.mem_of_getElem? (i := 4) rfl)
theorem wd_581 : (Cond.code yX5_bears cX5_bears 5 (some .int) : Cond) ∈ wsL_law := wsr_25 _ (List.mem_of_getElem? (i := 5) rfl)
theorem wd_582 : (Cond.methodLink RX5 184 yX5_staysTogether : Cond) ∈ wsL_law := wsr_25 _ (List.mem_of_getElem? (i := 6) rfl)
theorem wd_583 : (Cond.instanceMethod yX5_staysTogether : Cond) ∈ wsL_law := wsr_25 _ (List.mem_of_getElem? (i := 7) rfl)
theorem wd_584 : (Cond.selects RX5 yX5_staysTogether yX5_staysTogether : Cond) ∈ wsL_law := wsr_25 _ (List.mem_of_getElem? (i := 8) rfl)
theorem wd_585 : (Cond.code yX5_staysTogether cX5_staysTogether 7 (some .boolean) : Cond) ∈ wsL_law := wsr_25 _ (List.mem_of_getElem? (i := 9) rfl)
theorem wd_586 : (Cond.methodLink RL 70 yX6_bears : Cond) ∈ wsL_law := wsr_25 _ (List.mem_of_getElem? (i := 10) rfl)
theorem wd_587 : (Cond.instanceMethod yX6_bears : Cond) ∈ wsL_law := wsr_25 _ (List.mem_of_getElem? (i := 11) rfl)
theorem wd_588 : (Cond.selects RX6 yX6_bears yX6_bears : Cond) ∈ wsL_law := wsr_25 _ (List.mem_of_getElem? (i := 12) rfl)
theorem wd_589 : (Cond.code yX6_bears cX6_bears 5 (some .int) : Cond) ∈ wsL_law := wsr_25 _ (List.mem_of_getElem? (i := 13) rfl)
theorem wd_590 : (Cond.methodLink RX6 164 yX6_bearsOne : Cond) ∈ wsL_law := wsr_25 _ (List.mem_of_getElem? (i := 14) rfl)
theorem wd_591 : (Cond.instanceMethod yX6_bearsOne : Cond) ∈ wsL_law := wsr_25 _ (List.mem_of_getElem? (i := 15) rfl)
theorem wd_592 : (Cond.selects RX6 yX6_bearsOne yX6_bearsOne : Cond) ∈ wsL_law := wsr_25 _ (List.mem_of_getElem? (i := 16) rfl)
theorem wd_593 : (Cond.code yX6_bearsOne cX6_bearsOne 8 (some .boolean) : Cond) ∈ wsL_law := wsr_25 _ (List.mem_of_getElem? (i := 17) rfl)
theorem wd_594 : (Cond.methodLink RL 71 yX5_image : Cond) ∈ wsL_law := wsr_25 _ (List.mem_of_getElem? (i := 18) rfl)
theorem wd_595 : (Cond.instanceMethod yX5_image : Cond) ∈ wsL_law := wsr_25 _ (List.mem_of_getElem? (i := 19) rfl)
theorem wd_596 : (Cond.selects RX5 yX5_image yX5_image : Cond) ∈ wsL_law := wsr_25 _ (List.mem_of_getElem? (i := 20) rfl)
theorem wd_597 : (Cond.code yX5_image cX5_image 2 (some .int) : Cond) ∈ wsL_law := wsr_25 _ (List.mem_of_getElem? (i := 21) rfl)
theorem wd_598 : (Cond.methodLink RL 74 yX6_image : Cond) ∈ wsL_law := wsr_25 _ (List.mem_of_getElem? (i := 22) rfl)
theorem wd_599 : (Cond.instanceMethod yX6_image : Cond) ∈ wsL_law := wsr_25 _ (List.mem_of_getElem? (i := 23) rfl)
theorem wd_600 : (Cond.selects RX6 yX6_image yX6_image : Cond) ∈ wsL_law := wsr_26 _ (List.mem_of_getElem? (i := 0) rfl)
theorem wd_601 : (Cond.code yX6_image cX6_image 2 (some .int) : Cond) ∈ wsL_law := wsr_26 _ (List.mem_of_getElem? (i := 1) rfl)
theorem wd_602 : (Cond.methodLink RL 75 yX5_restore : Cond) ∈ wsL_law := wsr_26 _ (List.mem_of_getElem? (i := 2) rfl)
theorem wd_603 : (Cond.instanceMethod yX5_restore : Cond) ∈ wsL_law := wsr_26 _ (List.mem_of_getElem? (i := 3) rfl)
theorem wd_604 : (Cond.selects RX5 yX5_restore yX5_restore : Cond) ∈ wsL_law := wsr_26 _ (List.mem_of_getElem? (i := 4) rfl)
theorem wd_605 : (Cond.code yX5_restore cX5_restore 2 (some .int) : Cond) ∈ wsL_law := wsr_26 _ (List.mem_of_getElem? (i := 5) rfl)
theorem wd_606 : (Cond.methodLink RL 78 yX6_restore : Cond) ∈ wsL_law := wsr_26 _ (List.mem_of_getElem? (i := 6) rfl)
theorem wd_607 : (Cond.instanceMethod yX6_restore : Cond) ∈ wsL_law := wsr_26 _ (List.mem_of_getElem? (i := 7) rfl)
theorem wd_608 : (Cond.selects RX6 yX6_restore yX6_restore : Cond) ∈ wsL_law := wsr_26 _ (List.mem_of_getElem? (i := 8) rfl)
theorem wd_609 : (Cond.code yX6_restore cX6_restore 2 (some .int) : Cond) ∈ wsL_law := wsr_26 _ (List.mem_of_getElem? (i := 9) rfl)
theorem wd_610 : (Cond.methodLink RL 79 yX5_count : Cond) ∈ wsL_law := wsr_26 _ (List.mem_of_getElem? (i := 10) rfl)
theorem wd_611 : (Cond.instanceMethod yX5_count : Cond) ∈ wsL_law := wsr_26 _ (List.mem_of_getElem? (i := 11) rfl)
theorem wd_612 : (Cond.selects RX5 yX5_count yX5_count : Cond) ∈ wsL_law := wsr_26 _ (List.mem_of_getElem? (i := 12) rfl)
theorem wd_613 : (Cond.code yX5_count cX5_count 2 (some .int) : Cond) ∈ wsL_law := wsr_26 _ (List.mem_of_getElem? (i := 13) rfl)
theorem wd_614 : (Cond.fieldLink RX5 187 "SlotStart$Bus" "cycles" "I" : Cond) ∈ wsL_law := wsr_26 _ (List.mem_of_getElem? (i := 14) rfl)
theorem wd_615 : (Cond.fieldLink RX5 189 "SlotStart$Bus" "senders" "I" : Cond) ∈ wsL_law := wsr_26 _ (List.mem_of_getElem? (i := 15) rfl)
theorem wd_616 : (Cond.methodLink RL 82 yX6_count : Cond) ∈ wsL_law := wsr_26 _ (List.mem_of_getElem? (i := 16) rfl)
theorem wd_617 : (Cond.instanceMethod yX6_count : Cond) ∈ wsL_law := wsr_26 _ (List.mem_of_getElem? (i := 17) rfl)
theorem wd_618 : (Cond.selects RX6 yX6_count yX6_count : Cond) ∈ wsL_law := wsr_26 _ (List.mem_of_getElem? (i := 18) rfl)
theorem wd_619 : (Cond.code yX6_count cX6_count 2 (some .int) : Cond) ∈ wsL_law := wsr_26 _ (List.mem_of_getElem? (i := 19) rfl)
theorem mem_fm {big ws : List Cond} (ps : List Nat) (hp : ws = ps.filterMap (fun i => big[i]?)) : ∀ w ∈ ws, w ∈ big := by
  intro w hw
  rw [hp] at hw
  obtain ⟨i, -, hi⟩ := List.mem_filterMap.mp hw
  exact List.mem_of_getElem? hi
set_option maxRecDepth 20000 in
theorem wst_1 : ∀ w ∈ wsL_law_r1, w ∈ lw_tbl := mem_fm [53, 54, 44, 542, 543, 50, 55, 56, 57, 58, 59, 60, 61, 62, 45, 255, 256, 257, 258, 253, 97, 47, 259, 63] (by decide +kernel)
set_option maxRecDepth 20000 in
theorem wst_2 : ∀ w ∈ wsL_law_r2, w ∈ lw_tbl := mem_fm [64, 65, 66, 67, 228, 69, 70, 46, 230, 96, 232, 233, 235, 237, 109, 48, 72, 73, 74, 95, 75, 77, 79, 81] (by decide +kernel)
set_option maxRecDepth 20000 in
theorem wst_3 : ∀ w ∈ wsL_law_r3, w ∈ lw_tbl := mem_fm [83, 99, 100, 101, 102, 103, 110, 111, 112, 113, 157, 159, 163, 166, 169, 171, 174, 176, 178, 180, 184, 188, 114, 115] (by decide +kernel)
set_option maxRecDepth 20000 in
theorem wst_4 : ∀ w ∈ wsL_law_r4, w ∈ lw_tbl := mem_fm [49, 191, 194, 150, 153, 117, 118, 119, 120, 123, 125, 128, 129, 131, 133, 544, 545, 546, 547, 548, 549, 591, 550, 551] (by decide +kernel)
set_option maxRecDepth 20000 in
theorem wst_5 : ∀ w ∈ wsL_law_r5, w ∈ lw_tbl := mem_fm [553, 554, 555, 556, 557, 558, 559, 560, 561, 271, 272, 273, 274, 229, 167, 154, 151, 158, 275, 276, 277, 278, 279, 280] (by decide +kernel)
set_option maxRecDepth 20000 in
theorem wst_6 : ∀ w ∈ wsL_law_r6, w ∈ lw_tbl := mem_fm [281, 282, 283, 284, 155, 592, 593, 594, 595, 596, 597, 598, 599, 600, 601, 602, 604, 13, 605, 606, 608, 14, 609, 285] (by decide +kernel)
set_option maxRecDepth 20000 in
theorem wst_7 : ∀ w ∈ wsL_law_r7, w ∈ lw_tbl := mem_fm [286, 287, 288, 160, 164, 610, 611, 612, 613, 289, 290, 291, 292, 234, 614, 615, 616, 617, 293, 294, 295, 296, 297, 298] (by decide +kernel)
set_option maxRecDepth 20000 in
theorem wst_8 : ∀ w ∈ wsL_law_r8, w ∈ lw_tbl := mem_fm [299, 300, 301, 302, 303, 304, 305, 306, 307, 308, 309, 310, 311, 312, 313, 315, 316, 317, 318, 51, 319, 320, 321, 322] (by decide +kernel)
set_option maxRecDepth 20000 in
theorem wst_9 : ∀ w ∈ wsL_law_r9, w ∈ lw_tbl := mem_fm [618, 619, 620, 621, 622, 624, 15, 625, 626, 628, 16, 629, 323, 324, 325, 326, 630, 631, 632, 633, 327, 328, 329, 330] (by decide +kernel)
set_option maxRecDepth 20000 in
theorem wst_10 : ∀ w ∈ wsL_law_r10, w ∈ lw_tbl := mem_fm [331, 332, 333, 334, 335, 337, 0, 338, 339, 340, 341, 342, 343, 345, 1, 346, 170, 190, 347, 348, 349, 350, 351, 353] (by decide +kernel)
set_option maxRecDepth 20000 in
theorem wst_11 : ∀ w ∈ wsL_law_r11, w ∈ lw_tbl := mem_fm [2, 354, 356, 357, 358, 359, 360, 361, 362, 363, 365, 3, 366, 367, 368, 370, 4, 371, 372, 373, 374, 375, 376, 377] (by decide +kernel)
set_option maxRecDepth 20000 in
theorem wst_12 : ∀ w ∈ wsL_law_r12, w ∈ lw_tbl := mem_fm [378, 379, 380, 382, 5, 383, 193, 182, 384, 385, 386, 387, 181, 165, 152, 156, 161, 185, 389, 391, 6, 392, 168, 393] (by decide +kernel)
set_option maxRecDepth 20000 in
theorem wst_13 : ∀ w ∈ wsL_law_r13, w ∈ lw_tbl := mem_fm [394, 395, 396, 397, 398, 399, 400, 401, 403, 7, 404, 122, 127, 124, 405, 407, 8, 408, 130, 132, 409, 411, 9, 412] (by decide +kernel)
set_option maxRecDepth 20000 in
theorem wst_14 : ∀ w ∈ wsL_law_r14, w ∈ lw_tbl := mem_fm [413, 415, 10, 416, 417, 418, 419, 420, 438, 439, 52, 440, 445, 446, 447, 448, 449, 450, 421, 422, 423, 424, 425, 426] (by decide +kernel)
set_option maxRecDepth 20000 in
theorem wst_15 : ∀ w ∈ wsL_law_r15, w ∈ lw_tbl := mem_fm [427, 428, 429, 430, 431, 432, 434, 435, 436, 437, 441, 442, 443, 444, 451, 453, 11, 454, 162, 187, 173, 455, 456, 457] (by decide +kernel)
set_option maxRecDepth 20000 in
theorem wst_16 : ∀ w ∈ wsL_law_r16, w ∈ lw_tbl := mem_fm [458, 634, 635, 636, 637, 638, 640, 17, 641, 642, 644, 18, 645, 646, 648, 19, 649, 650, 652, 20, 653, 654, 656, 21] (by decide +kernel)
set_option maxRecDepth 20000 in
theorem wst_17 : ∀ w ∈ wsL_law_r17, w ∈ lw_tbl := mem_fm [657, 658, 660, 22, 661, 662, 664, 23, 665, 666, 668, 24, 669, 670, 672, 25, 673, 674, 676, 26, 677, 678, 680, 27] (by decide +kernel)
set_option maxRecDepth 20000 in
theorem wst_18 : ∀ w ∈ wsL_law_r18, w ∈ lw_tbl := mem_fm [681, 682, 684, 28, 685, 686, 688, 29, 689, 690, 692, 30, 693, 694, 696, 31, 697, 698, 700, 32, 701, 552, 702, 704] (by decide +kernel)
set_option maxRecDepth 20000 in
theorem wst_19 : ∀ w ∈ wsL_law_r19, w ∈ lw_tbl := mem_fm [33, 705, 706, 708, 34, 709, 710, 711, 712, 713, 715, 35, 716, 717, 719, 36, 720, 721, 723, 37, 724, 459, 460, 461] (by decide +kernel)
set_option maxRecDepth 20000 in
theorem wst_20 : ∀ w ∈ wsL_law_r20, w ∈ lw_tbl := mem_fm [462, 172, 175, 177, 179, 183, 463, 186, 189, 192, 126, 121, 725, 726, 727, 728, 729, 730, 731, 732, 464, 465, 466, 467] (by decide +kernel)
set_option maxRecDepth 20000 in
theorem wst_21 : ∀ w ∈ wsL_law_r21, w ∈ lw_tbl := mem_fm [134, 468, 733, 734, 735, 736, 469, 470, 471, 472, 473, 474, 475, 476, 477, 478, 480, 737, 738, 739, 740, 741, 742, 743] (by decide +kernel)
set_option maxRecDepth 20000 in
theorem wst_22 : ∀ w ∈ wsL_law_r22, w ∈ lw_tbl := mem_fm [481, 482, 483, 484, 231, 82, 76, 78, 80, 485, 486, 487, 488, 744, 745, 746, 747, 489, 490, 491, 492, 493, 494, 495] (by decide +kernel)
set_option maxRecDepth 20000 in
theorem wst_23 : ∀ w ∈ wsL_law_r23, w ∈ lw_tbl := mem_fm [496, 497, 498, 748, 749, 750, 751, 752, 754, 38, 755, 499, 500, 501, 502, 503, 504, 505, 506, 507, 508, 509, 510, 511] (by decide +kernel)
set_option maxRecDepth 20000 in
theorem wst_24 : ∀ w ∈ wsL_law_r24, w ∈ lw_tbl := mem_fm [512, 513, 514, 515, 516, 517, 518, 519, 520, 521, 756, 757, 758, 759, 760, 762, 39, 763, 764, 766, 40, 767, 768, 770] (by decide +kernel)
set_option maxRecDepth 20000 in
theorem wst_25 : ∀ w ∈ wsL_law_r25, w ∈ lw_tbl := mem_fm [41, 771, 522, 523, 524, 525, 526, 528, 12, 529, 772, 773, 774, 775, 776, 778, 42, 779, 530, 531, 532, 533, 780, 781] (by decide +kernel)
set_option maxRecDepth 20000 in
theorem wst_26 : ∀ w ∈ wsL_law_r26, w ∈ lw_tbl := mem_fm [782, 783, 534, 535, 536, 537, 784, 785, 786, 787, 538, 539, 540, 541, 236, 238, 788, 789, 790, 791] (by decide +kernel)
set_option maxRecDepth 20000 in
theorem wst_wsX50 : ∀ w ∈ wsX50, w ∈ lw_tbl := mem_fm [260, 262, 264, 266, 268] (by decide +kernel)
set_option maxRecDepth 20000 in
theorem wst_wsX60 : ∀ w ∈ wsX60, w ∈ lw_tbl := mem_fm [562, 564, 566, 568, 570, 572, 574, 576, 578, 580, 582, 584, 586, 588] (by decide +kernel)
set_option maxRecDepth 20000 in
theorem wst_wsX00 : ∀ w ∈ wsX00, w ∈ lw_tbl := mem_fm [239, 241, 243, 245, 247, 249] (by decide +kernel)
set_option maxRecDepth 20000 in
theorem wst_wsX40 : ∀ w ∈ wsX40, w ∈ lw_tbl := mem_fm [104, 106] (by decide +kernel)
set_option maxRecDepth 20000 in
theorem wst_wsX20 : ∀ w ∈ wsX20, w ∈ lw_tbl := mem_fm [84, 86, 88, 90, 92] (by decide +kernel)
set_option maxRecDepth 20000 in
theorem wst_wsX30 : ∀ w ∈ wsX30, w ∈ lw_tbl := mem_fm [195, 197, 199, 201, 203, 205, 207, 209, 211, 213, 215, 217, 219, 221, 223, 225] (by decide +kernel)
set_option maxRecDepth 20000 in
theorem wst_wsX10 : ∀ w ∈ wsX10, w ∈ lw_tbl := mem_fm [135, 137, 139, 141, 143, 145, 147] (by decide +kernel)
theorem wsL_law_in : ∀ w ∈ wsL_law, w ∈ lw_tbl := List.forall_mem_append.mpr ⟨List.forall_mem_append.mpr ⟨List.forall_mem_append.mpr ⟨List.forall_mem_append.mpr ⟨List.forall_mem_append.mpr ⟨List.forall_mem_append.mpr ⟨List.forall_mem_append.mpr ⟨List.forall_mem_append.mpr ⟨List.forall_mem_append.mpr ⟨wst_1, List.forall_mem_append.mpr ⟨wst_2, List.forall_mem_append.mpr ⟨wst_3, List.forall_mem_append.mpr ⟨wst_4, List.forall_mem_append.mpr ⟨wst_5, List.forall_mem_append.mpr ⟨wst_6, List.forall_mem_append.mpr ⟨wst_7, List.forall_mem_append.mpr ⟨wst_8, List.forall_mem_append.mpr ⟨wst_9, List.forall_mem_append.mpr ⟨wst_10, List.forall_mem_append.mpr ⟨wst_11, List.forall_mem_append.mpr ⟨wst_12, List.forall_mem_append.mpr ⟨wst_13, List.forall_mem_append.mpr ⟨wst_14, List.forall_mem_append.mpr ⟨wst_15, List.forall_mem_append.mpr ⟨wst_16, List.forall_mem_append.mpr ⟨wst_17, List.forall_mem_append.mpr ⟨wst_18, List.forall_mem_append.mpr ⟨wst_19, List.forall_mem_append.mpr ⟨wst_20, List.forall_mem_append.mpr ⟨wst_21, List.forall_mem_append.mpr ⟨wst_22, List.forall_mem_append.mpr ⟨wst_23, List.forall_mem_append.mpr ⟨wst_24, List.forall_mem_append.mpr ⟨wst_25, wst_26⟩⟩⟩⟩⟩⟩⟩⟩⟩⟩⟩⟩⟩⟩⟩⟩⟩⟩⟩⟩⟩⟩⟩⟩⟩, wst_wsX50⟩, wst_wsX60⟩, wst_wsX00⟩, wst_wsX40⟩, wst_wsX20⟩, wst_wsX30⟩, wst_wsX10⟩, fun _ h => absurd h List.not_mem_nil⟩
end
section
theorem dX0_init_0 : decode cX0_init 0 = .ok (.aload_n 0, 1) := by decide +kernel
theorem dX0_init_1 : decode cX0_init 1 = .ok (.invokespecial 3, 3) := by decide +kernel
theorem dX0_init_4 : decode cX0_init 4 = .ok (.aload_n 0, 1) := by decide +kernel
theorem dX0_init_5 : decode cX0_init 5 = .ok (.bipush 6, 2) := by decide +kernel
theorem dX0_init_7 : decode cX0_init 7 = .ok (.anewarray 9, 3) := by decide +kernel
theorem dX0_init_10 : decode cX0_init 10 = .ok (.putfield 11, 3) := by decide +kernel
theorem dX0_init_13 : decode cX0_init 13 = .ok (.aload_n 0, 1) := by decide +kernel
theorem dX0_init_14 : decode cX0_init 14 = .ok (.new 17, 3) := by decide +kernel
theorem dX0_init_17 : decode cX0_init 17 = .ok (.dup, 1) := by decide +kernel
theorem dX0_init_18 : decode cX0_init 18 = .ok (.invokespecial 19, 3) := by decide +kernel
theorem dX0_init_21 : decode cX0_init 21 = .ok (.putfield 20, 3) := by decide +kernel
theorem dX0_init_24 : decode cX0_init 24 = .ok (.aload_n 0, 1) := by decide +kernel
theorem dX0_init_25 : decode cX0_init 25 = .ok (.new 24, 3) := by decide +kernel
theorem dX0_init_28 : decode cX0_init 28 = .ok (.dup, 1) := by decide +kernel
theorem dX0_init_29 : decode cX0_init 29 = .ok (.invokespecial 26, 3) := by decide +kernel
theorem dX0_init_32 : decode cX0_init 32 = .ok (.putfield 27, 3) := by decide +kernel
theorem dX0_init_35 : decode cX0_init 35 = .ok (.aload_n 0, 1) := by decide +kernel
theorem dX0_init_36 : decode cX0_init 36 = .ok (.bipush 100, 2) := by decide +kernel
theorem dX0_init_38 : decode cX0_init 38 = .ok (.putfield 31, 3) := by decide +kernel
theorem dX0_init_41 : decode cX0_init 41 = .ok (.aload_n 0, 1) := by decide +kernel
theorem dX0_init_42 : decode cX0_init 42 = .ok (.iconst 0, 1) := by decide +kernel
theorem dX0_init_43 : decode cX0_init 43 = .ok (.putfield 35, 3) := by decide +kernel
theorem dX0_init_46 : decode cX0_init 46 = .ok (.aload_n 0, 1) := by decide +kernel
theorem dX0_init_47 : decode cX0_init 47 = .ok (.iconst 0, 1) := by decide +kernel
theorem dX0_init_48 : decode cX0_init 48 = .ok (.putfield 38, 3) := by decide +kernel
theorem dX0_init_51 : decode cX0_init 51 = .ok (.iconst 0, 1) := by decide +kernel
theorem dX0_init_52 : decode cX0_init 52 = .ok (.istore_n 1, 1) := by decide +kernel
theorem dX0_init_53 : decode cX0_init 53 = .ok (.iload_n 1, 1) := by decide +kernel
theorem dX0_init_54 : decode cX0_init 54 = .ok (.aload_n 0, 1) := by decide +kernel
theorem dX0_init_55 : decode cX0_init 55 = .ok (.getfield 11, 3) := by decide +kernel
theorem dX0_init_58 : decode cX0_init 58 = .ok (.arraylength, 1) := by decide +kernel
theorem dX0_init_59 : decode cX0_init 59 = .ok (.if_icmp .ge 23, 3) := by decide +kernel
theorem dX0_init_62 : decode cX0_init 62 = .ok (.aload_n 0, 1) := by decide +kernel
theorem dX0_init_63 : decode cX0_init 63 = .ok (.getfield 11, 3) := by decide +kernel
theorem dX0_init_66 : decode cX0_init 66 = .ok (.iload_n 1, 1) := by decide +kernel
theorem dX0_init_67 : decode cX0_init 67 = .ok (.new 9, 3) := by decide +kernel
theorem dX0_init_70 : decode cX0_init 70 = .ok (.dup, 1) := by decide +kernel
theorem dX0_init_71 : decode cX0_init 71 = .ok (.iload_n 1, 1) := by decide +kernel
theorem dX0_init_72 : decode cX0_init 72 = .ok (.invokespecial 41, 3) := by decide +kernel
theorem dX0_init_75 : decode cX0_init 75 = .ok (.aastore, 1) := by decide +kernel
theorem dX0_init_76 : decode cX0_init 76 = .ok (.iinc 1 1, 3) := by decide +kernel
theorem dX0_init_79 : decode cX0_init 79 = .ok (.goto (-26), 3) := by decide +kernel
theorem dX0_init_82 : decode cX0_init 82 = .ok (.return_, 1) := by decide +kernel
theorem dX0_copy_0 : decode cX0_copy 0 = .ok (.iconst 0, 1) := by decide +kernel
theorem dX0_copy_1 : decode cX0_copy 1 = .ok (.istore_n 2, 1) := by decide +kernel
theorem dX0_copy_2 : decode cX0_copy 2 = .ok (.iload_n 2, 1) := by decide +kernel
theorem dX0_copy_3 : decode cX0_copy 3 = .ok (.aload_n 0, 1) := by decide +kernel
theorem dX0_copy_4 : decode cX0_copy 4 = .ok (.getfield 11, 3) := by decide +kernel
theorem dX0_copy_7 : decode cX0_copy 7 = .ok (.arraylength, 1) := by decide +kernel
theorem dX0_copy_8 : decode cX0_copy 8 = .ok (.if_icmp .ge 33, 3) := by decide +kernel
theorem dX0_copy_11 : decode cX0_copy 11 = .ok (.iload_n 2, 1) := by decide +kernel
theorem dX0_copy_12 : decode cX0_copy 12 = .ok (.aload_n 1, 1) := by decide +kernel
theorem dX0_copy_13 : decode cX0_copy 13 = .ok (.getfield 11, 3) := by decide +kernel
theorem dX0_copy_16 : decode cX0_copy 16 = .ok (.arraylength, 1) := by decide +kernel
theorem dX0_copy_17 : decode cX0_copy 17 = .ok (.if_icmp .ge 24, 3) := by decide +kernel
theorem dX0_copy_20 : decode cX0_copy 20 = .ok (.aload_n 0, 1) := by decide +kernel
theorem dX0_copy_21 : decode cX0_copy 21 = .ok (.getfield 11, 3) := by decide +kernel
theorem dX0_copy_24 : decode cX0_copy 24 = .ok (.iload_n 2, 1) := by decide +kernel
theorem dX0_copy_25 : decode cX0_copy 25 = .ok (.aaload, 1) := by decide +kernel
theorem dX0_copy_26 : decode cX0_copy 26 = .ok (.aload_n 1, 1) := by decide +kernel
theorem dX0_copy_27 : decode cX0_copy 27 = .ok (.getfield 11, 3) := by decide +kernel
theorem dX0_copy_30 : decode cX0_copy 30 = .ok (.iload_n 2, 1) := by decide +kernel
theorem dX0_copy_31 : decode cX0_copy 31 = .ok (.aaload, 1) := by decide +kernel
theorem dX0_copy_32 : decode cX0_copy 32 = .ok (.invokevirtual 44, 3) := by decide +kernel
theorem dX0_copy_35 : decode cX0_copy 35 = .ok (.iinc 2 1, 3) := by decide +kernel
theorem dX0_copy_38 : decode cX0_copy 38 = .ok (.goto (-36), 3) := by decide +kernel
theorem dX0_copy_41 : decode cX0_copy 41 = .ok (.aload_n 0, 1) := by decide +kernel
theorem dX0_copy_42 : decode cX0_copy 42 = .ok (.getfield 20, 3) := by decide +kernel
theorem dX0_copy_45 : decode cX0_copy 45 = .ok (.aload_n 1, 1) := by decide +kernel
theorem dX0_copy_46 : decode cX0_copy 46 = .ok (.getfield 20, 3) := by decide +kernel
theorem dX0_copy_49 : decode cX0_copy 49 = .ok (.invokevirtual 48, 3) := by decide +kernel
theorem dX0_copy_52 : decode cX0_copy 52 = .ok (.aload_n 0, 1) := by decide +kernel
theorem dX0_copy_53 : decode cX0_copy 53 = .ok (.aload_n 1, 1) := by decide +kernel
theorem dX0_copy_54 : decode cX0_copy 54 = .ok (.getfield 31, 3) := by decide +kernel
theorem dX0_copy_57 : decode cX0_copy 57 = .ok (.putfield 31, 3) := by decide +kernel
theorem dX0_copy_60 : decode cX0_copy 60 = .ok (.aload_n 0, 1) := by decide +kernel
theorem dX0_copy_61 : decode cX0_copy 61 = .ok (.aload_n 1, 1) := by decide +kernel
theorem dX0_copy_62 : decode cX0_copy 62 = .ok (.getfield 35, 3) := by decide +kernel
theorem dX0_copy_65 : decode cX0_copy 65 = .ok (.putfield 35, 3) := by decide +kernel
theorem dX0_copy_68 : decode cX0_copy 68 = .ok (.aload_n 0, 1) := by decide +kernel
theorem dX0_copy_69 : decode cX0_copy 69 = .ok (.aload_n 1, 1) := by decide +kernel
theorem dX0_copy_70 : decode cX0_copy 70 = .ok (.getfield 38, 3) := by decide +kernel
theorem dX0_copy_73 : decode cX0_copy 73 = .ok (.putfield 38, 3) := by decide +kernel
theorem dX0_copy_76 : decode cX0_copy 76 = .ok (.return_, 1) := by decide +kernel
theorem dX0_isSlotOfAnother_0 : decode cX0_isSlotOfAnother 0 = .ok (.iconst 0, 1) := by decide +kernel
theorem dX0_isSlotOfAnother_1 : decode cX0_isSlotOfAnother 1 = .ok (.istore_n 3, 1) := by decide +kernel
theorem dX0_isSlotOfAnother_2 : decode cX0_isSlotOfAnother 2 = .ok (.iload_n 3, 1) := by decide +kernel
theorem dX0_isSlotOfAnother_3 : decode cX0_isSlotOfAnother 3 = .ok (.aload_n 0, 1) := by decide +kernel
theorem dX0_isSlotOfAnother_4 : decode cX0_isSlotOfAnother 4 = .ok (.getfield 11, 3) := by decide +kernel
theorem dX0_isSlotOfAnother_7 : decode cX0_isSlotOfAnother 7 = .ok (.arraylength, 1) := by decide +kernel
theorem dX0_isSlotOfAnother_8 : decode cX0_isSlotOfAnother 8 = .ok (.if_icmp .ge 29, 3) := by decide +kernel
theorem dX0_isSlotOfAnother_11 : decode cX0_isSlotOfAnother 11 = .ok (.iload_n 3, 1) := by decide +kernel
theorem dX0_isSlotOfAnother_12 : decode cX0_isSlotOfAnother 12 = .ok (.iload_n 2, 1) := by decide +kernel
theorem dX0_isSlotOfAnother_13 : decode cX0_isSlotOfAnother 13 = .ok (.if_icmp .eq 18, 3) := by decide +kernel
theorem dX0_isSlotOfAnother_16 : decode cX0_isSlotOfAnother 16 = .ok (.aload_n 0, 1) := by decide +kernel
theorem dX0_isSlotOfAnother_17 : decode cX0_isSlotOfAnother 17 = .ok (.getfield 11, 3) := by decide +kernel
theorem dX0_isSlotOfAnother_20 : decode cX0_isSlotOfAnother 20 = .ok (.iload_n 3, 1) := by decide +kernel
theorem dX0_isSlotOfAnother_21 : decode cX0_isSlotOfAnother 21 = .ok (.aaload, 1) := by decide +kernel
theorem dX0_isSlotOfAnother_22 : decode cX0_isSlotOfAnother 22 = .ok (.getfield 51, 3) := by decide +kernel
theorem dX0_isSlotOfAnother_25 : decode cX0_isSlotOfAnother 25 = .ok (.iload_n 1, 1) := by decide +kernel
theorem dX0_isSlotOfAnother_26 : decode cX0_isSlotOfAnother 26 = .ok (.if_icmp .ne 5, 3) := by decide +kernel
theorem dX0_isSlotOfAnother_29 : decode cX0_isSlotOfAnother 29 = .ok (.iconst 1, 1) := by decide +kernel
theorem dX0_isSlotOfAnother_30 : decode cX0_isSlotOfAnother 30 = .ok (.ireturn, 1) := by decide +kernel
theorem dX0_isSlotOfAnother_31 : decode cX0_isSlotOfAnother 31 = .ok (.iinc 3 1, 3) := by decide +kernel
theorem dX0_isSlotOfAnother_34 : decode cX0_isSlotOfAnother 34 = .ok (.goto (-32), 3) := by decide +kernel
theorem dX0_isSlotOfAnother_37 : decode cX0_isSlotOfAnother 37 = .ok (.iconst 0, 1) := by decide +kernel
theorem dX0_isSlotOfAnother_38 : decode cX0_isSlotOfAnother 38 = .ok (.ireturn, 1) := by decide +kernel
theorem dX0_thatAre_0 : decode cX0_thatAre 0 = .ok (.iconst 0, 1) := by decide +kernel
theorem dX0_thatAre_1 : decode cX0_thatAre 1 = .ok (.istore_n 2, 1) := by decide +kernel
theorem dX0_thatAre_2 : decode cX0_thatAre 2 = .ok (.iconst 0, 1) := by decide +kernel
theorem dX0_thatAre_3 : decode cX0_thatAre 3 = .ok (.istore_n 3, 1) := by decide +kernel
theorem dX0_thatAre_4 : decode cX0_thatAre 4 = .ok (.iload_n 3, 1) := by decide +kernel
theorem dX0_thatAre_5 : decode cX0_thatAre 5 = .ok (.aload_n 0, 1) := by decide +kernel
theorem dX0_thatAre_6 : decode cX0_thatAre 6 = .ok (.getfield 11, 3) := by decide +kernel
theorem dX0_thatAre_9 : decode cX0_thatAre 9 = .ok (.arraylength, 1) := by decide +kernel
theorem dX0_thatAre_10 : decode cX0_thatAre 10 = .ok (.if_icmp .ge 29, 3) := by decide +kernel
theorem dX0_thatAre_13 : decode cX0_thatAre 13 = .ok (.aload_n 0, 1) := by decide +kernel
theorem dX0_thatAre_14 : decode cX0_thatAre 14 = .ok (.getfield 11, 3) := by decide +kernel
theorem dX0_thatAre_17 : decode cX0_thatAre 17 = .ok (.iload_n 3, 1) := by decide +kernel
theorem dX0_thatAre_18 : decode cX0_thatAre 18 = .ok (.aaload, 1) := by decide +kernel
theorem dX0_thatAre_19 : decode cX0_thatAre 19 = .ok (.getfield 54, 3) := by decide +kernel
theorem dX0_thatAre_22 : decode cX0_thatAre 22 = .ok (.iload_n 1, 1) := by decide +kernel
theorem dX0_thatAre_23 : decode cX0_thatAre 23 = .ok (.if_icmp .ne 10, 3) := by decide +kernel
theorem dX0_thatAre_26 : decode cX0_thatAre 26 = .ok (.iload_n 2, 1) := by decide +kernel
theorem dX0_thatAre_27 : decode cX0_thatAre 27 = .ok (.iload_n 3, 1) := by decide +kernel
theorem dX0_thatAre_28 : decode cX0_thatAre 28 = .ok (.invokestatic 57, 3) := by decide +kernel
theorem dX0_thatAre_31 : decode cX0_thatAre 31 = .ok (.ior, 1) := by decide +kernel
theorem dX0_thatAre_32 : decode cX0_thatAre 32 = .ok (.istore_n 2, 1) := by decide +kernel
theorem dX0_thatAre_33 : decode cX0_thatAre 33 = .ok (.iinc 3 1, 3) := by decide +kernel
theorem dX0_thatAre_36 : decode cX0_thatAre 36 = .ok (.goto (-32), 3) := by decide +kernel
theorem dX0_thatAre_39 : decode cX0_thatAre 39 = .ok (.iload_n 2, 1) := by decide +kernel
theorem dX0_thatAre_40 : decode cX0_thatAre 40 = .ok (.ireturn, 1) := by decide +kernel
theorem dX0_awake_0 : decode cX0_awake 0 = .ok (.iconst 0, 1) := by decide +kernel
theorem dX0_awake_1 : decode cX0_awake 1 = .ok (.istore_n 1, 1) := by decide +kernel
theorem dX0_awake_2 : decode cX0_awake 2 = .ok (.iconst 0, 1) := by decide +kernel
theorem dX0_awake_3 : decode cX0_awake 3 = .ok (.istore_n 2, 1) := by decide +kernel
theorem dX0_awake_4 : decode cX0_awake 4 = .ok (.iload_n 2, 1) := by decide +kernel
theorem dX0_awake_5 : decode cX0_awake 5 = .ok (.aload_n 0, 1) := by decide +kernel
theorem dX0_awake_6 : decode cX0_awake 6 = .ok (.getfield 11, 3) := by decide +kernel
theorem dX0_awake_9 : decode cX0_awake 9 = .ok (.arraylength, 1) := by decide +kernel
theorem dX0_awake_10 : decode cX0_awake 10 = .ok (.if_icmp .ge 28, 3) := by decide +kernel
theorem dX0_awake_13 : decode cX0_awake 13 = .ok (.aload_n 0, 1) := by decide +kernel
theorem dX0_awake_14 : decode cX0_awake 14 = .ok (.getfield 11, 3) := by decide +kernel
theorem dX0_awake_17 : decode cX0_awake 17 = .ok (.iload_n 2, 1) := by decide +kernel
theorem dX0_awake_18 : decode cX0_awake 18 = .ok (.aaload, 1) := by decide +kernel
theorem dX0_awake_19 : decode cX0_awake 19 = .ok (.invokevirtual 61, 3) := by decide +kernel
theorem dX0_awake_22 : decode cX0_awake 22 = .ok (.ifCond .eq 10, 3) := by decide +kernel
theorem dX0_awake_25 : decode cX0_awake 25 = .ok (.iload_n 1, 1) := by decide +kernel
theorem dX0_awake_26 : decode cX0_awake 26 = .ok (.iload_n 2, 1) := by decide +kernel
theorem dX0_awake_27 : decode cX0_awake 27 = .ok (.invokestatic 57, 3) := by decide +kernel
theorem dX0_awake_30 : decode cX0_awake 30 = .ok (.ior, 1) := by decide +kernel
theorem dX0_awake_31 : decode cX0_awake 31 = .ok (.istore_n 1, 1) := by decide +kernel
theorem dX0_awake_32 : decode cX0_awake 32 = .ok (.iinc 2 1, 3) := by decide +kernel
theorem dX0_awake_35 : decode cX0_awake 35 = .ok (.goto (-31), 3) := by decide +kernel
theorem dX0_awake_38 : decode cX0_awake 38 = .ok (.iload_n 1, 1) := by decide +kernel
theorem dX0_awake_39 : decode cX0_awake 39 = .ok (.ireturn, 1) := by decide +kernel
theorem dX0_apart_0 : decode cX0_apart 0 = .ok (.iconst 0, 1) := by decide +kernel
theorem dX0_apart_1 : decode cX0_apart 1 = .ok (.istore_n 2, 1) := by decide +kernel
theorem dX0_apart_2 : decode cX0_apart 2 = .ok (.iconst 0, 1) := by decide +kernel
theorem dX0_apart_3 : decode cX0_apart 3 = .ok (.istore_n 3, 1) := by decide +kernel
theorem dX0_apart_4 : decode cX0_apart 4 = .ok (.iconst 0, 1) := by decide +kernel
theorem dX0_apart_5 : decode cX0_apart 5 = .ok (.istore 4, 2) := by decide +kernel
theorem dX0_apart_7 : decode cX0_apart 7 = .ok (.iconst 0, 1) := by decide +kernel
theorem dX0_apart_8 : decode cX0_apart 8 = .ok (.istore 5, 2) := by decide +kernel
theorem dX0_apart_10 : decode cX0_apart 10 = .ok (.iload 5, 2) := by decide +kernel
theorem dX0_apart_12 : decode cX0_apart 12 = .ok (.aload_n 0, 1) := by decide +kernel
theorem dX0_apart_13 : decode cX0_apart 13 = .ok (.getfield 11, 3) := by decide +kernel
theorem dX0_apart_16 : decode cX0_apart 16 = .ok (.arraylength, 1) := by decide +kernel
theorem dX0_apart_17 : decode cX0_apart 17 = .ok (.if_icmp .ge 66, 3) := by decide +kernel
theorem dX0_apart_20 : decode cX0_apart 20 = .ok (.iload_n 1, 1) := by decide +kernel
theorem dX0_apart_21 : decode cX0_apart 21 = .ok (.iload 5, 2) := by decide +kernel
theorem dX0_apart_23 : decode cX0_apart 23 = .ok (.invokestatic 65, 3) := by decide +kernel
theorem dX0_apart_26 : decode cX0_apart 26 = .ok (.ifCond .eq 51, 3) := by decide +kernel
theorem dX0_apart_29 : decode cX0_apart 29 = .ok (.aload_n 0, 1) := by decide +kernel
theorem dX0_apart_30 : decode cX0_apart 30 = .ok (.getfield 11, 3) := by decide +kernel
theorem dX0_apart_33 : decode cX0_apart 33 = .ok (.iload 5, 2) := by decide +kernel
theorem dX0_apart_35 : decode cX0_apart 35 = .ok (.aaload, 1) := by decide +kernel
theorem dX0_apart_36 : decode cX0_apart 36 = .ok (.getfield 69, 3) := by decide +kernel
theorem dX0_apart_39 : decode cX0_apart 39 = .ok (.istore 6, 2) := by decide +kernel
theorem dX0_apart_41 : decode cX0_apart 41 = .ok (.iload_n 2, 1) := by decide +kernel
theorem dX0_apart_42 : decode cX0_apart 42 = .ok (.ifCond .eq 12, 3) := by decide +kernel
theorem dX0_apart_45 : decode cX0_apart 45 = .ok (.iload_n 3, 1) := by decide +kernel
theorem dX0_apart_46 : decode cX0_apart 46 = .ok (.iload 6, 2) := by decide +kernel
theorem dX0_apart_48 : decode cX0_apart 48 = .ok (.invokestatic 72, 3) := by decide +kernel
theorem dX0_apart_51 : decode cX0_apart 51 = .ok (.goto 5, 3) := by decide +kernel
theorem dX0_apart_54 : decode cX0_apart 54 = .ok (.iload 6, 2) := by decide +kernel
theorem dX0_apart_56 : decode cX0_apart 56 = .ok (.istore_n 3, 1) := by decide +kernel
theorem dX0_apart_57 : decode cX0_apart 57 = .ok (.iload_n 2, 1) := by decide +kernel
theorem dX0_apart_58 : decode cX0_apart 58 = .ok (.ifCond .eq 13, 3) := by decide +kernel
theorem dX0_apart_61 : decode cX0_apart 61 = .ok (.iload 4, 2) := by decide +kernel
theorem dX0_apart_63 : decode cX0_apart 63 = .ok (.iload 6, 2) := by decide +kernel
theorem dX0_apart_65 : decode cX0_apart 65 = .ok (.invokestatic 78, 3) := by decide +kernel
theorem dX0_apart_68 : decode cX0_apart 68 = .ok (.goto 5, 3) := by decide +kernel
theorem dX0_apart_71 : decode cX0_apart 71 = .ok (.iload 6, 2) := by decide +kernel
theorem dX0_apart_73 : decode cX0_apart 73 = .ok (.istore 4, 2) := by decide +kernel
theorem dX0_apart_75 : decode cX0_apart 75 = .ok (.iconst 1, 1) := by decide +kernel
theorem dX0_apart_76 : decode cX0_apart 76 = .ok (.istore_n 2, 1) := by decide +kernel
theorem dX0_apart_77 : decode cX0_apart 77 = .ok (.iinc 5 1, 3) := by decide +kernel
theorem dX0_apart_80 : decode cX0_apart 80 = .ok (.goto (-70), 3) := by decide +kernel
theorem dX0_apart_83 : decode cX0_apart 83 = .ok (.iload 4, 2) := by decide +kernel
theorem dX0_apart_85 : decode cX0_apart 85 = .ok (.iload_n 3, 1) := by decide +kernel
theorem dX0_apart_86 : decode cX0_apart 86 = .ok (.isub, 1) := by decide +kernel
theorem dX0_apart_87 : decode cX0_apart 87 = .ok (.ireturn, 1) := by decide +kernel
theorem dX0_passCycle_0 : decode cX0_passCycle 0 = .ok (.aload_n 0, 1) := by decide +kernel
theorem dX0_passCycle_1 : decode cX0_passCycle 1 = .ok (.invokevirtual 81, 3) := by decide +kernel
theorem dX0_passCycle_4 : decode cX0_passCycle 4 = .ok (.istore_n 1, 1) := by decide +kernel
theorem dX0_passCycle_5 : decode cX0_passCycle 5 = .ok (.aload_n 0, 1) := by decide +kernel
theorem dX0_passCycle_6 : decode cX0_passCycle 6 = .ok (.invokevirtual 84, 3) := by decide +kernel
theorem dX0_passCycle_9 : decode cX0_passCycle 9 = .ok (.aload_n 0, 1) := by decide +kernel
theorem dX0_passCycle_10 : decode cX0_passCycle 10 = .ok (.invokevirtual 87, 3) := by decide +kernel
theorem dX0_passCycle_13 : decode cX0_passCycle 13 = .ok (.aload_n 0, 1) := by decide +kernel
theorem dX0_passCycle_14 : decode cX0_passCycle 14 = .ok (.iload_n 1, 1) := by decide +kernel
theorem dX0_passCycle_15 : decode cX0_passCycle 15 = .ok (.invokevirtual 90, 3) := by decide +kernel
theorem dX0_passCycle_18 : decode cX0_passCycle 18 = .ok (.aload_n 0, 1) := by decide +kernel
theorem dX0_passCycle_19 : decode cX0_passCycle 19 = .ok (.invokevirtual 94, 3) := by decide +kernel
theorem dX0_passCycle_22 : decode cX0_passCycle 22 = .ok (.aload_n 0, 1) := by decide +kernel
theorem dX0_passCycle_23 : decode cX0_passCycle 23 = .ok (.dup, 1) := by decide +kernel
theorem dX0_passCycle_24 : decode cX0_passCycle 24 = .ok (.getfield 35, 3) := by decide +kernel
theorem dX0_passCycle_27 : decode cX0_passCycle 27 = .ok (.iconst 1, 1) := by decide +kernel
theorem dX0_passCycle_28 : decode cX0_passCycle 28 = .ok (.iadd, 1) := by decide +kernel
theorem dX0_passCycle_29 : decode cX0_passCycle 29 = .ok (.putfield 35, 3) := by decide +kernel
theorem dX0_passCycle_32 : decode cX0_passCycle 32 = .ok (.return_, 1) := by decide +kernel
theorem dX0_isSignGiven_0 : decode cX0_isSignGiven 0 = .ok (.iconst 0, 1) := by decide +kernel
theorem dX0_isSignGiven_1 : decode cX0_isSignGiven 1 = .ok (.istore_n 1, 1) := by decide +kernel
theorem dX0_isSignGiven_2 : decode cX0_isSignGiven 2 = .ok (.iload_n 1, 1) := by decide +kernel
theorem dX0_isSignGiven_3 : decode cX0_isSignGiven 3 = .ok (.aload_n 0, 1) := by decide +kernel
theorem dX0_isSignGiven_4 : decode cX0_isSignGiven 4 = .ok (.getfield 11, 3) := by decide +kernel
theorem dX0_isSignGiven_7 : decode cX0_isSignGiven 7 = .ok (.arraylength, 1) := by decide +kernel
theorem dX0_isSignGiven_8 : decode cX0_isSignGiven 8 = .ok (.if_icmp .ge 23, 3) := by decide +kernel
theorem dX0_isSignGiven_11 : decode cX0_isSignGiven 11 = .ok (.aload_n 0, 1) := by decide +kernel
theorem dX0_isSignGiven_12 : decode cX0_isSignGiven 12 = .ok (.getfield 11, 3) := by decide +kernel
theorem dX0_isSignGiven_15 : decode cX0_isSignGiven 15 = .ok (.iload_n 1, 1) := by decide +kernel
theorem dX0_isSignGiven_16 : decode cX0_isSignGiven 16 = .ok (.aaload, 1) := by decide +kernel
theorem dX0_isSignGiven_17 : decode cX0_isSignGiven 17 = .ok (.invokevirtual 97, 3) := by decide +kernel
theorem dX0_isSignGiven_20 : decode cX0_isSignGiven 20 = .ok (.ifCond .eq 5, 3) := by decide +kernel
theorem dX0_isSignGiven_23 : decode cX0_isSignGiven 23 = .ok (.iconst 1, 1) := by decide +kernel
theorem dX0_isSignGiven_24 : decode cX0_isSignGiven 24 = .ok (.ireturn, 1) := by decide +kernel
theorem dX0_isSignGiven_25 : decode cX0_isSignGiven 25 = .ok (.iinc 1 1, 3) := by decide +kernel
theorem dX0_isSignGiven_28 : decode cX0_isSignGiven 28 = .ok (.goto (-26), 3) := by decide +kernel
theorem dX0_isSignGiven_31 : decode cX0_isSignGiven 31 = .ok (.iconst 0, 1) := by decide +kernel
theorem dX0_isSignGiven_32 : decode cX0_isSignGiven 32 = .ok (.ireturn, 1) := by decide +kernel
theorem dX0_chooseSenders_0 : decode cX0_chooseSenders 0 = .ok (.iconst 0, 1) := by decide +kernel
theorem dX0_chooseSenders_1 : decode cX0_chooseSenders 1 = .ok (.istore_n 1, 1) := by decide +kernel
theorem dX0_chooseSenders_2 : decode cX0_chooseSenders 2 = .ok (.iconst 0, 1) := by decide +kernel
theorem dX0_chooseSenders_3 : decode cX0_chooseSenders 3 = .ok (.istore_n 2, 1) := by decide +kernel
theorem dX0_chooseSenders_4 : decode cX0_chooseSenders 4 = .ok (.iload_n 2, 1) := by decide +kernel
theorem dX0_chooseSenders_5 : decode cX0_chooseSenders 5 = .ok (.aload_n 0, 1) := by decide +kernel
theorem dX0_chooseSenders_6 : decode cX0_chooseSenders 6 = .ok (.getfield 11, 3) := by decide +kernel
theorem dX0_chooseSenders_9 : decode cX0_chooseSenders 9 = .ok (.arraylength, 1) := by decide +kernel
theorem dX0_chooseSenders_10 : decode cX0_chooseSenders 10 = .ok (.if_icmp .ge 38, 3) := by decide +kernel
theorem dX0_chooseSenders_13 : decode cX0_chooseSenders 13 = .ok (.aload_n 0, 1) := by decide +kernel
theorem dX0_chooseSenders_14 : decode cX0_chooseSenders 14 = .ok (.getfield 11, 3) := by decide +kernel
theorem dX0_chooseSenders_17 : decode cX0_chooseSenders 17 = .ok (.iload_n 2, 1) := by decide +kernel
theorem dX0_chooseSenders_18 : decode cX0_chooseSenders 18 = .ok (.aaload, 1) := by decide +kernel
theorem dX0_chooseSenders_19 : decode cX0_chooseSenders 19 = .ok (.iconst 0, 1) := by decide +kernel
theorem dX0_chooseSenders_20 : decode cX0_chooseSenders 20 = .ok (.putfield 100, 3) := by decide +kernel
theorem dX0_chooseSenders_23 : decode cX0_chooseSenders 23 = .ok (.aload_n 0, 1) := by decide +kernel
theorem dX0_chooseSenders_24 : decode cX0_chooseSenders 24 = .ok (.getfield 11, 3) := by decide +kernel
theorem dX0_chooseSenders_27 : decode cX0_chooseSenders 27 = .ok (.iload_n 2, 1) := by decide +kernel
theorem dX0_chooseSenders_28 : decode cX0_chooseSenders 28 = .ok (.aaload, 1) := by decide +kernel
theorem dX0_chooseSenders_29 : decode cX0_chooseSenders 29 = .ok (.invokevirtual 104, 3) := by decide +kernel
theorem dX0_chooseSenders_32 : decode cX0_chooseSenders 32 = .ok (.ifCond .eq 10, 3) := by decide +kernel
theorem dX0_chooseSenders_35 : decode cX0_chooseSenders 35 = .ok (.iload_n 1, 1) := by decide +kernel
theorem dX0_chooseSenders_36 : decode cX0_chooseSenders 36 = .ok (.iload_n 2, 1) := by decide +kernel
theorem dX0_chooseSenders_37 : decode cX0_chooseSenders 37 = .ok (.invokestatic 57, 3) := by decide +kernel
theorem dX0_chooseSenders_40 : decode cX0_chooseSenders 40 = .ok (.ior, 1) := by decide +kernel
theorem dX0_chooseSenders_41 : decode cX0_chooseSenders 41 = .ok (.istore_n 1, 1) := by decide +kernel
theorem dX0_chooseSenders_42 : decode cX0_chooseSenders 42 = .ok (.iinc 2 1, 3) := by decide +kernel
theorem dX0_chooseSenders_45 : decode cX0_chooseSenders 45 = .ok (.goto (-41), 3) := by decide +kernel
theorem dX0_chooseSenders_48 : decode cX0_chooseSenders 48 = .ok (.aload_n 0, 1) := by decide +kernel
theorem dX0_chooseSenders_49 : decode cX0_chooseSenders 49 = .ok (.iload_n 1, 1) := by decide +kernel
theorem dX0_chooseSenders_50 : decode cX0_chooseSenders 50 = .ok (.aload_n 0, 1) := by decide +kernel
theorem dX0_chooseSenders_51 : decode cX0_chooseSenders 51 = .ok (.iload_n 1, 1) := by decide +kernel
theorem dX0_chooseSenders_52 : decode cX0_chooseSenders 52 = .ok (.invokevirtual 107, 3) := by decide +kernel
theorem dX0_chooseSenders_55 : decode cX0_chooseSenders 55 = .ok (.iconst (-1), 1) := by decide +kernel
theorem dX0_chooseSenders_56 : decode cX0_chooseSenders 56 = .ok (.ixor, 1) := by decide +kernel
theorem dX0_chooseSenders_57 : decode cX0_chooseSenders 57 = .ok (.iand, 1) := by decide +kernel
theorem dX0_chooseSenders_58 : decode cX0_chooseSenders 58 = .ok (.putfield 38, 3) := by decide +kernel
theorem dX0_chooseSenders_61 : decode cX0_chooseSenders 61 = .ok (.iconst 0, 1) := by decide +kernel
theorem dX0_chooseSenders_62 : decode cX0_chooseSenders 62 = .ok (.istore_n 2, 1) := by decide +kernel
theorem dX0_chooseSenders_63 : decode cX0_chooseSenders 63 = .ok (.iload_n 2, 1) := by decide +kernel
theorem dX0_chooseSenders_64 : decode cX0_chooseSenders 64 = .ok (.aload_n 0, 1) := by decide +kernel
theorem dX0_chooseSenders_65 : decode cX0_chooseSenders 65 = .ok (.getfield 11, 3) := by decide +kernel
theorem dX0_chooseSenders_68 : decode cX0_chooseSenders 68 = .ok (.arraylength, 1) := by decide +kernel
theorem dX0_chooseSenders_69 : decode cX0_chooseSenders 69 = .ok (.if_icmp .ge 56, 3) := by decide +kernel
theorem dX0_chooseSenders_72 : decode cX0_chooseSenders 72 = .ok (.aload_n 0, 1) := by decide +kernel
theorem dX0_chooseSenders_73 : decode cX0_chooseSenders 73 = .ok (.getfield 38, 3) := by decide +kernel
theorem dX0_chooseSenders_76 : decode cX0_chooseSenders 76 = .ok (.iload_n 2, 1) := by decide +kernel
theorem dX0_chooseSenders_77 : decode cX0_chooseSenders 77 = .ok (.invokestatic 65, 3) := by decide +kernel
theorem dX0_chooseSenders_80 : decode cX0_chooseSenders 80 = .ok (.ifCond .eq 21, 3) := by decide +kernel
theorem dX0_chooseSenders_83 : decode cX0_chooseSenders 83 = .ok (.aload_n 0, 1) := by decide +kernel
theorem dX0_chooseSenders_84 : decode cX0_chooseSenders 84 = .ok (.getfield 11, 3) := by decide +kernel
theorem dX0_chooseSenders_87 : decode cX0_chooseSenders 87 = .ok (.iload_n 2, 1) := by decide +kernel
theorem dX0_chooseSenders_88 : decode cX0_chooseSenders 88 = .ok (.aaload, 1) := by decide +kernel
theorem dX0_chooseSenders_89 : decode cX0_chooseSenders 89 = .ok (.dup, 1) := by decide +kernel
theorem dX0_chooseSenders_90 : decode cX0_chooseSenders 90 = .ok (.getfield 110, 3) := by decide +kernel
theorem dX0_chooseSenders_93 : decode cX0_chooseSenders 93 = .ok (.iconst 1, 1) := by decide +kernel
theorem dX0_chooseSenders_94 : decode cX0_chooseSenders 94 = .ok (.iadd, 1) := by decide +kernel
theorem dX0_chooseSenders_95 : decode cX0_chooseSenders 95 = .ok (.putfield 110, 3) := by decide +kernel
theorem dX0_chooseSenders_98 : decode cX0_chooseSenders 98 = .ok (.goto 21, 3) := by decide +kernel
theorem dX0_chooseSenders_101 : decode cX0_chooseSenders 101 = .ok (.iload_n 1, 1) := by decide +kernel
theorem dX0_chooseSenders_102 : decode cX0_chooseSenders 102 = .ok (.iload_n 2, 1) := by decide +kernel
theorem dX0_chooseSenders_103 : decode cX0_chooseSenders 103 = .ok (.invokestatic 65, 3) := by decide +kernel
theorem dX0_chooseSenders_106 : decode cX0_chooseSenders 106 = .ok (.ifCond .eq 13, 3) := by decide +kernel
theorem dX0_chooseSenders_109 : decode cX0_chooseSenders 109 = .ok (.aload_n 0, 1) := by decide +kernel
theorem dX0_chooseSenders_110 : decode cX0_chooseSenders 110 = .ok (.getfield 11, 3) := by decide +kernel
theorem dX0_chooseSenders_113 : decode cX0_chooseSenders 113 = .ok (.iload_n 2, 1) := by decide +kernel
theorem dX0_chooseSenders_114 : decode cX0_chooseSenders 114 = .ok (.aaload, 1) := by decide +kernel
theorem dX0_chooseSenders_115 : decode cX0_chooseSenders 115 = .ok (.iconst 1, 1) := by decide +kernel
theorem dX0_chooseSenders_116 : decode cX0_chooseSenders 116 = .ok (.invokevirtual 113, 3) := by decide +kernel
theorem dX0_chooseSenders_119 : decode cX0_chooseSenders 119 = .ok (.iinc 2 1, 3) := by decide +kernel
theorem dX0_chooseSenders_122 : decode cX0_chooseSenders 122 = .ok (.goto (-59), 3) := by decide +kernel
theorem dX0_chooseSenders_125 : decode cX0_chooseSenders 125 = .ok (.return_, 1) := by decide +kernel
theorem dX0_thatGiveWay_0 : decode cX0_thatGiveWay 0 = .ok (.iconst 0, 1) := by decide +kernel
theorem dX0_thatGiveWay_1 : decode cX0_thatGiveWay 1 = .ok (.istore_n 2, 1) := by decide +kernel
theorem dX0_thatGiveWay_2 : decode cX0_thatGiveWay 2 = .ok (.iconst 0, 1) := by decide +kernel
theorem dX0_thatGiveWay_3 : decode cX0_thatGiveWay 3 = .ok (.istore_n 3, 1) := by decide +kernel
theorem dX0_thatGiveWay_4 : decode cX0_thatGiveWay 4 = .ok (.iload_n 3, 1) := by decide +kernel
theorem dX0_thatGiveWay_5 : decode cX0_thatGiveWay 5 = .ok (.aload_n 0, 1) := by decide +kernel
theorem dX0_thatGiveWay_6 : decode cX0_thatGiveWay 6 = .ok (.getfield 11, 3) := by decide +kernel
theorem dX0_thatGiveWay_9 : decode cX0_thatGiveWay 9 = .ok (.arraylength, 1) := by decide +kernel
theorem dX0_thatGiveWay_10 : decode cX0_thatGiveWay 10 = .ok (.if_icmp .ge 51, 3) := by decide +kernel
theorem dX0_thatGiveWay_13 : decode cX0_thatGiveWay 13 = .ok (.iload_n 1, 1) := by decide +kernel
theorem dX0_thatGiveWay_14 : decode cX0_thatGiveWay 14 = .ok (.iload_n 3, 1) := by decide +kernel
theorem dX0_thatGiveWay_15 : decode cX0_thatGiveWay 15 = .ok (.invokestatic 65, 3) := by decide +kernel
theorem dX0_thatGiveWay_18 : decode cX0_thatGiveWay 18 = .ok (.ifCond .eq 37, 3) := by decide +kernel
theorem dX0_thatGiveWay_21 : decode cX0_thatGiveWay 21 = .ok (.aload_n 0, 1) := by decide +kernel
theorem dX0_thatGiveWay_22 : decode cX0_thatGiveWay 22 = .ok (.getfield 11, 3) := by decide +kernel
theorem dX0_thatGiveWay_25 : decode cX0_thatGiveWay 25 = .ok (.iload_n 3, 1) := by decide +kernel
theorem dX0_thatGiveWay_26 : decode cX0_thatGiveWay 26 = .ok (.aaload, 1) := by decide +kernel
theorem dX0_thatGiveWay_27 : decode cX0_thatGiveWay 27 = .ok (.invokevirtual 116, 3) := by decide +kernel
theorem dX0_thatGiveWay_30 : decode cX0_thatGiveWay 30 = .ok (.ifCond .eq 25, 3) := by decide +kernel
theorem dX0_thatGiveWay_33 : decode cX0_thatGiveWay 33 = .ok (.aload_n 0, 1) := by decide +kernel
theorem dX0_thatGiveWay_34 : decode cX0_thatGiveWay 34 = .ok (.aload_n 0, 1) := by decide +kernel
theorem dX0_thatGiveWay_35 : decode cX0_thatGiveWay 35 = .ok (.getfield 11, 3) := by decide +kernel
theorem dX0_thatGiveWay_38 : decode cX0_thatGiveWay 38 = .ok (.iload_n 3, 1) := by decide +kernel
theorem dX0_thatGiveWay_39 : decode cX0_thatGiveWay 39 = .ok (.aaload, 1) := by decide +kernel
theorem dX0_thatGiveWay_40 : decode cX0_thatGiveWay 40 = .ok (.iload_n 3, 1) := by decide +kernel
theorem dX0_thatGiveWay_41 : decode cX0_thatGiveWay 41 = .ok (.iload_n 1, 1) := by decide +kernel
theorem dX0_thatGiveWay_42 : decode cX0_thatGiveWay 42 = .ok (.invokevirtual 119, 3) := by decide +kernel
theorem dX0_thatGiveWay_45 : decode cX0_thatGiveWay 45 = .ok (.ifCond .eq 10, 3) := by decide +kernel
theorem dX0_thatGiveWay_48 : decode cX0_thatGiveWay 48 = .ok (.iload_n 2, 1) := by decide +kernel
theorem dX0_thatGiveWay_49 : decode cX0_thatGiveWay 49 = .ok (.iload_n 3, 1) := by decide +kernel
theorem dX0_thatGiveWay_50 : decode cX0_thatGiveWay 50 = .ok (.invokestatic 57, 3) := by decide +kernel
theorem dX0_thatGiveWay_53 : decode cX0_thatGiveWay 53 = .ok (.ior, 1) := by decide +kernel
theorem dX0_thatGiveWay_54 : decode cX0_thatGiveWay 54 = .ok (.istore_n 2, 1) := by decide +kernel
theorem dX0_thatGiveWay_55 : decode cX0_thatGiveWay 55 = .ok (.iinc 3 1, 3) := by decide +kernel
theorem dX0_thatGiveWay_58 : decode cX0_thatGiveWay 58 = .ok (.goto (-54), 3) := by decide +kernel
theorem dX0_thatGiveWay_61 : decode cX0_thatGiveWay 61 = .ok (.iload_n 2, 1) := by decide +kernel
theorem dX0_thatGiveWay_62 : decode cX0_thatGiveWay 62 = .ok (.ireturn, 1) := by decide +kernel
theorem dX0_givesWay_0 : decode cX0_givesWay 0 = .ok (.iconst 0, 1) := by decide +kernel
theorem dX0_givesWay_1 : decode cX0_givesWay 1 = .ok (.istore 4, 2) := by decide +kernel
theorem dX0_givesWay_3 : decode cX0_givesWay 3 = .ok (.iload 4, 2) := by decide +kernel
theorem dX0_givesWay_5 : decode cX0_givesWay 5 = .ok (.aload_n 0, 1) := by decide +kernel
theorem dX0_givesWay_6 : decode cX0_givesWay 6 = .ok (.getfield 11, 3) := by decide +kernel
theorem dX0_givesWay_9 : decode cX0_givesWay 9 = .ok (.arraylength, 1) := by decide +kernel
theorem dX0_givesWay_10 : decode cX0_givesWay 10 = .ok (.if_icmp .ge 56, 3) := by decide +kernel
theorem dX0_givesWay_13 : decode cX0_givesWay 13 = .ok (.iload 4, 2) := by decide +kernel
theorem dX0_givesWay_15 : decode cX0_givesWay 15 = .ok (.iload_n 2, 1) := by decide +kernel
theorem dX0_givesWay_16 : decode cX0_givesWay 16 = .ok (.if_icmp .eq 44, 3) := by decide +kernel
theorem dX0_givesWay_19 : decode cX0_givesWay 19 = .ok (.iload_n 3, 1) := by decide +kernel
theorem dX0_givesWay_20 : decode cX0_givesWay 20 = .ok (.iload 4, 2) := by decide +kernel
theorem dX0_givesWay_22 : decode cX0_givesWay 22 = .ok (.invokestatic 65, 3) := by decide +kernel
theorem dX0_givesWay_25 : decode cX0_givesWay 25 = .ok (.ifCond .eq 35, 3) := by decide +kernel
theorem dX0_givesWay_28 : decode cX0_givesWay 28 = .ok (.aload_n 0, 1) := by decide +kernel
theorem dX0_givesWay_29 : decode cX0_givesWay 29 = .ok (.getfield 11, 3) := by decide +kernel
theorem dX0_givesWay_32 : decode cX0_givesWay 32 = .ok (.iload 4, 2) := by decide +kernel
theorem dX0_givesWay_34 : decode cX0_givesWay 34 = .ok (.aaload, 1) := by decide +kernel
theorem dX0_givesWay_35 : decode cX0_givesWay 35 = .ok (.invokevirtual 116, 3) := by decide +kernel
theorem dX0_givesWay_38 : decode cX0_givesWay 38 = .ok (.ifCond .eq 20, 3) := by decide +kernel
theorem dX0_givesWay_41 : decode cX0_givesWay 41 = .ok (.aload_n 0, 1) := by decide +kernel
theorem dX0_givesWay_42 : decode cX0_givesWay 42 = .ok (.getfield 11, 3) := by decide +kernel
theorem dX0_givesWay_45 : decode cX0_givesWay 45 = .ok (.iload 4, 2) := by decide +kernel
theorem dX0_givesWay_47 : decode cX0_givesWay 47 = .ok (.aaload, 1) := by decide +kernel
theorem dX0_givesWay_48 : decode cX0_givesWay 48 = .ok (.getfield 51, 3) := by decide +kernel
theorem dX0_givesWay_51 : decode cX0_givesWay 51 = .ok (.aload_n 1, 1) := by decide +kernel
theorem dX0_givesWay_52 : decode cX0_givesWay 52 = .ok (.getfield 51, 3) := by decide +kernel
theorem dX0_givesWay_55 : decode cX0_givesWay 55 = .ok (.if_icmp .ge 5, 3) := by decide +kernel
theorem dX0_givesWay_58 : decode cX0_givesWay 58 = .ok (.iconst 1, 1) := by decide +kernel
theorem dX0_givesWay_59 : decode cX0_givesWay 59 = .ok (.ireturn, 1) := by decide +kernel
theorem dX0_givesWay_60 : decode cX0_givesWay 60 = .ok (.iinc 4 1, 3) := by decide +kernel
theorem dX0_givesWay_63 : decode cX0_givesWay 63 = .ok (.goto (-60), 3) := by decide +kernel
theorem dX0_givesWay_66 : decode cX0_givesWay 66 = .ok (.iconst 0, 1) := by decide +kernel
theorem dX0_givesWay_67 : decode cX0_givesWay 67 = .ok (.ireturn, 1) := by decide +kernel
theorem dX0_listen_0 : decode cX0_listen 0 = .ok (.iconst 0, 1) := by decide +kernel
theorem dX0_listen_1 : decode cX0_listen 1 = .ok (.istore_n 1, 1) := by decide +kernel
theorem dX0_listen_2 : decode cX0_listen 2 = .ok (.iload_n 1, 1) := by decide +kernel
theorem dX0_listen_3 : decode cX0_listen 3 = .ok (.aload_n 0, 1) := by decide +kernel
theorem dX0_listen_4 : decode cX0_listen 4 = .ok (.getfield 11, 3) := by decide +kernel
theorem dX0_listen_7 : decode cX0_listen 7 = .ok (.arraylength, 1) := by decide +kernel
theorem dX0_listen_8 : decode cX0_listen 8 = .ok (.if_icmp .ge 41, 3) := by decide +kernel
theorem dX0_listen_11 : decode cX0_listen 11 = .ok (.aload_n 0, 1) := by decide +kernel
theorem dX0_listen_12 : decode cX0_listen 12 = .ok (.getfield 11, 3) := by decide +kernel
theorem dX0_listen_15 : decode cX0_listen 15 = .ok (.iload_n 1, 1) := by decide +kernel
theorem dX0_listen_16 : decode cX0_listen 16 = .ok (.aaload, 1) := by decide +kernel
theorem dX0_listen_17 : decode cX0_listen 17 = .ok (.invokevirtual 123, 3) := by decide +kernel
theorem dX0_listen_20 : decode cX0_listen 20 = .ok (.aload_n 0, 1) := by decide +kernel
theorem dX0_listen_21 : decode cX0_listen 21 = .ok (.getfield 11, 3) := by decide +kernel
theorem dX0_listen_24 : decode cX0_listen 24 = .ok (.iload_n 1, 1) := by decide +kernel
theorem dX0_listen_25 : decode cX0_listen 25 = .ok (.aaload, 1) := by decide +kernel
theorem dX0_listen_26 : decode cX0_listen 26 = .ok (.invokevirtual 61, 3) := by decide +kernel
theorem dX0_listen_29 : decode cX0_listen 29 = .ok (.ifCond .eq 14, 3) := by decide +kernel
theorem dX0_listen_32 : decode cX0_listen 32 = .ok (.aload_n 0, 1) := by decide +kernel
theorem dX0_listen_33 : decode cX0_listen 33 = .ok (.aload_n 0, 1) := by decide +kernel
theorem dX0_listen_34 : decode cX0_listen 34 = .ok (.getfield 11, 3) := by decide +kernel
theorem dX0_listen_37 : decode cX0_listen 37 = .ok (.iload_n 1, 1) := by decide +kernel
theorem dX0_listen_38 : decode cX0_listen 38 = .ok (.aaload, 1) := by decide +kernel
theorem dX0_listen_39 : decode cX0_listen 39 = .ok (.iload_n 1, 1) := by decide +kernel
theorem dX0_listen_40 : decode cX0_listen 40 = .ok (.invokevirtual 126, 3) := by decide +kernel
theorem dX0_listen_43 : decode cX0_listen 43 = .ok (.iinc 1 1, 3) := by decide +kernel
theorem dX0_listen_46 : decode cX0_listen 46 = .ok (.goto (-44), 3) := by decide +kernel
theorem dX0_listen_49 : decode cX0_listen 49 = .ok (.return_, 1) := by decide +kernel
theorem dX0_hearOthers_0 : decode cX0_hearOthers 0 = .ok (.iconst 0, 1) := by decide +kernel
theorem dX0_hearOthers_1 : decode cX0_hearOthers 1 = .ok (.istore_n 3, 1) := by decide +kernel
theorem dX0_hearOthers_2 : decode cX0_hearOthers 2 = .ok (.iload_n 3, 1) := by decide +kernel
theorem dX0_hearOthers_3 : decode cX0_hearOthers 3 = .ok (.aload_n 0, 1) := by decide +kernel
theorem dX0_hearOthers_4 : decode cX0_hearOthers 4 = .ok (.getfield 11, 3) := by decide +kernel
theorem dX0_hearOthers_7 : decode cX0_hearOthers 7 = .ok (.arraylength, 1) := by decide +kernel
theorem dX0_hearOthers_8 : decode cX0_hearOthers 8 = .ok (.if_icmp .ge 43, 3) := by decide +kernel
theorem dX0_hearOthers_11 : decode cX0_hearOthers 11 = .ok (.iload_n 3, 1) := by decide +kernel
theorem dX0_hearOthers_12 : decode cX0_hearOthers 12 = .ok (.iload_n 2, 1) := by decide +kernel
theorem dX0_hearOthers_13 : decode cX0_hearOthers 13 = .ok (.if_icmp .eq 32, 3) := by decide +kernel
theorem dX0_hearOthers_16 : decode cX0_hearOthers 16 = .ok (.aload_n 0, 1) := by decide +kernel
theorem dX0_hearOthers_17 : decode cX0_hearOthers 17 = .ok (.getfield 38, 3) := by decide +kernel
theorem dX0_hearOthers_20 : decode cX0_hearOthers 20 = .ok (.iload_n 3, 1) := by decide +kernel
theorem dX0_hearOthers_21 : decode cX0_hearOthers 21 = .ok (.invokestatic 65, 3) := by decide +kernel
theorem dX0_hearOthers_24 : decode cX0_hearOthers 24 = .ok (.ifCond .eq 21, 3) := by decide +kernel
theorem dX0_hearOthers_27 : decode cX0_hearOthers 27 = .ok (.aload_n 1, 1) := by decide +kernel
theorem dX0_hearOthers_28 : decode cX0_hearOthers 28 = .ok (.getfield 130, 3) := by decide +kernel
theorem dX0_hearOthers_31 : decode cX0_hearOthers 31 = .ok (.iload_n 3, 1) := by decide +kernel
theorem dX0_hearOthers_32 : decode cX0_hearOthers 32 = .ok (.aload_n 0, 1) := by decide +kernel
theorem dX0_hearOthers_33 : decode cX0_hearOthers 33 = .ok (.getfield 11, 3) := by decide +kernel
theorem dX0_hearOthers_36 : decode cX0_hearOthers 36 = .ok (.iload_n 3, 1) := by decide +kernel
theorem dX0_hearOthers_37 : decode cX0_hearOthers 37 = .ok (.aaload, 1) := by decide +kernel
theorem dX0_hearOthers_38 : decode cX0_hearOthers 38 = .ok (.aload_n 1, 1) := by decide +kernel
theorem dX0_hearOthers_39 : decode cX0_hearOthers 39 = .ok (.getfield 69, 3) := by decide +kernel
theorem dX0_hearOthers_42 : decode cX0_hearOthers 42 = .ok (.invokevirtual 134, 3) := by decide +kernel
theorem dX0_hearOthers_45 : decode cX0_hearOthers 45 = .ok (.iinc 3 1, 3) := by decide +kernel
theorem dX0_hearOthers_48 : decode cX0_hearOthers 48 = .ok (.goto (-46), 3) := by decide +kernel
theorem dX0_hearOthers_51 : decode cX0_hearOthers 51 = .ok (.return_, 1) := by decide +kernel
theorem dX0_settle_0 : decode cX0_settle 0 = .ok (.aload_n 0, 1) := by decide +kernel
theorem dX0_settle_1 : decode cX0_settle 1 = .ok (.getfield 35, 3) := by decide +kernel
theorem dX0_settle_4 : decode cX0_settle 4 = .ok (.iconst 1, 1) := by decide +kernel
theorem dX0_settle_5 : decode cX0_settle 5 = .ok (.iand, 1) := by decide +kernel
theorem dX0_settle_6 : decode cX0_settle 6 = .ok (.iconst 1, 1) := by decide +kernel
theorem dX0_settle_7 : decode cX0_settle 7 = .ok (.if_icmp .ne 7, 3) := by decide +kernel
theorem dX0_settle_10 : decode cX0_settle 10 = .ok (.iconst 1, 1) := by decide +kernel
theorem dX0_settle_11 : decode cX0_settle 11 = .ok (.goto 4, 3) := by decide +kernel
theorem dX0_settle_14 : decode cX0_settle 14 = .ok (.iconst 0, 1) := by decide +kernel
theorem dX0_settle_15 : decode cX0_settle 15 = .ok (.istore_n 2, 1) := by decide +kernel
theorem dX0_settle_16 : decode cX0_settle 16 = .ok (.iconst 0, 1) := by decide +kernel
theorem dX0_settle_17 : decode cX0_settle 17 = .ok (.istore_n 3, 1) := by decide +kernel
theorem dX0_settle_18 : decode cX0_settle 18 = .ok (.iload_n 3, 1) := by decide +kernel
theorem dX0_settle_19 : decode cX0_settle 19 = .ok (.aload_n 0, 1) := by decide +kernel
theorem dX0_settle_20 : decode cX0_settle 20 = .ok (.getfield 11, 3) := by decide +kernel
theorem dX0_settle_23 : decode cX0_settle 23 = .ok (.arraylength, 1) := by decide +kernel
theorem dX0_settle_24 : decode cX0_settle 24 = .ok (.if_icmp .ge 111, 3) := by decide +kernel
theorem dX0_settle_27 : decode cX0_settle 27 = .ok (.aload_n 0, 1) := by decide +kernel
theorem dX0_settle_28 : decode cX0_settle 28 = .ok (.getfield 11, 3) := by decide +kernel
theorem dX0_settle_31 : decode cX0_settle 31 = .ok (.iload_n 3, 1) := by decide +kernel
theorem dX0_settle_32 : decode cX0_settle 32 = .ok (.aaload, 1) := by decide +kernel
theorem dX0_settle_33 : decode cX0_settle 33 = .ok (.astore 4, 2) := by decide +kernel
theorem dX0_settle_35 : decode cX0_settle 35 = .ok (.aload 4, 2) := by decide +kernel
theorem dX0_settle_37 : decode cX0_settle 37 = .ok (.getfield 100, 3) := by decide +kernel
theorem dX0_settle_40 : decode cX0_settle 40 = .ok (.ifCond .eq 20, 3) := by decide +kernel
theorem dX0_settle_43 : decode cX0_settle 43 = .ok (.aload_n 0, 1) := by decide +kernel
theorem dX0_settle_44 : decode cX0_settle 44 = .ok (.getfield 20, 3) := by decide +kernel
theorem dX0_settle_47 : decode cX0_settle 47 = .ok (.aload_n 0, 1) := by decide +kernel
theorem dX0_settle_48 : decode cX0_settle 48 = .ok (.getfield 35, 3) := by decide +kernel
theorem dX0_settle_51 : decode cX0_settle 51 = .ok (.iload_n 3, 1) := by decide +kernel
theorem dX0_settle_52 : decode cX0_settle 52 = .ok (.aload 4, 2) := by decide +kernel
theorem dX0_settle_54 : decode cX0_settle 54 = .ok (.getfield 54, 3) := by decide +kernel
theorem dX0_settle_57 : decode cX0_settle 57 = .ok (.invokevirtual 140, 3) := by decide +kernel
theorem dX0_settle_60 : decode cX0_settle 60 = .ok (.aload 4, 2) := by decide +kernel
theorem dX0_settle_62 : decode cX0_settle 62 = .ok (.getfield 54, 3) := by decide +kernel
theorem dX0_settle_65 : decode cX0_settle 65 = .ok (.istore 5, 2) := by decide +kernel
theorem dX0_settle_67 : decode cX0_settle 67 = .ok (.aload 4, 2) := by decide +kernel
theorem dX0_settle_69 : decode cX0_settle 69 = .ok (.iload_n 1, 1) := by decide +kernel
theorem dX0_settle_70 : decode cX0_settle 70 = .ok (.invokevirtual 144, 3) := by decide +kernel
theorem dX0_settle_73 : decode cX0_settle 73 = .ok (.iload_n 2, 1) := by decide +kernel
theorem dX0_settle_74 : decode cX0_settle 74 = .ok (.ifCond .eq 28, 3) := by decide +kernel
theorem dX0_settle_77 : decode cX0_settle 77 = .ok (.iload 5, 2) := by decide +kernel
theorem dX0_settle_79 : decode cX0_settle 79 = .ok (.iconst 4, 1) := by decide +kernel
theorem dX0_settle_80 : decode cX0_settle 80 = .ok (.if_icmp .eq 9, 3) := by decide +kernel
theorem dX0_settle_83 : decode cX0_settle 83 = .ok (.iload 5, 2) := by decide +kernel
theorem dX0_settle_85 : decode cX0_settle 85 = .ok (.iconst 5, 1) := by decide +kernel
theorem dX0_settle_86 : decode cX0_settle 86 = .ok (.if_icmp .ne 16, 3) := by decide +kernel
theorem dX0_settle_89 : decode cX0_settle 89 = .ok (.aload 4, 2) := by decide +kernel
theorem dX0_settle_91 : decode cX0_settle 91 = .ok (.aload_n 0, 1) := by decide +kernel
theorem dX0_settle_92 : decode cX0_settle 92 = .ok (.getfield 31, 3) := by decide +kernel
theorem dX0_settle_95 : decode cX0_settle 95 = .ok (.aload_n 0, 1) := by decide +kernel
theorem dX0_settle_96 : decode cX0_settle 96 = .ok (.getfield 27, 3) := by decide +kernel
theorem dX0_settle_99 : decode cX0_settle 99 = .ok (.invokevirtual 145, 3) := by decide +kernel
theorem dX0_settle_102 : decode cX0_settle 102 = .ok (.aload 4, 2) := by decide +kernel
theorem dX0_settle_104 : decode cX0_settle 104 = .ok (.getfield 54, 3) := by decide +kernel
theorem dX0_settle_107 : decode cX0_settle 107 = .ok (.iload 5, 2) := by decide +kernel
theorem dX0_settle_109 : decode cX0_settle 109 = .ok (.if_icmp .eq 20, 3) := by decide +kernel
theorem dX0_settle_112 : decode cX0_settle 112 = .ok (.aload_n 0, 1) := by decide +kernel
theorem dX0_settle_113 : decode cX0_settle 113 = .ok (.getfield 20, 3) := by decide +kernel
theorem dX0_settle_116 : decode cX0_settle 116 = .ok (.aload_n 0, 1) := by decide +kernel
theorem dX0_settle_117 : decode cX0_settle 117 = .ok (.getfield 35, 3) := by decide +kernel
theorem dX0_settle_120 : decode cX0_settle 120 = .ok (.iload_n 3, 1) := by decide +kernel
theorem dX0_settle_121 : decode cX0_settle 121 = .ok (.aload 4, 2) := by decide +kernel
theorem dX0_settle_123 : decode cX0_settle 123 = .ok (.getfield 54, 3) := by decide +kernel
theorem dX0_settle_126 : decode cX0_settle 126 = .ok (.invokevirtual 140, 3) := by decide +kernel
theorem dX0_settle_129 : decode cX0_settle 129 = .ok (.iinc 3 1, 3) := by decide +kernel
theorem dX0_settle_132 : decode cX0_settle 132 = .ok (.goto (-114), 3) := by decide +kernel
theorem dX0_settle_135 : decode cX0_settle 135 = .ok (.return_, 1) := by decide +kernel
theorem dX0_moveClocks_0 : decode cX0_moveClocks 0 = .ok (.iconst 0, 1) := by decide +kernel
theorem dX0_moveClocks_1 : decode cX0_moveClocks 1 = .ok (.istore_n 1, 1) := by decide +kernel
theorem dX0_moveClocks_2 : decode cX0_moveClocks 2 = .ok (.iload_n 1, 1) := by decide +kernel
theorem dX0_moveClocks_3 : decode cX0_moveClocks 3 = .ok (.aload_n 0, 1) := by decide +kernel
theorem dX0_moveClocks_4 : decode cX0_moveClocks 4 = .ok (.getfield 11, 3) := by decide +kernel
theorem dX0_moveClocks_7 : decode cX0_moveClocks 7 = .ok (.arraylength, 1) := by decide +kernel
theorem dX0_moveClocks_8 : decode cX0_moveClocks 8 = .ok (.if_icmp .ge 58, 3) := by decide +kernel
theorem dX0_moveClocks_11 : decode cX0_moveClocks 11 = .ok (.aload_n 0, 1) := by decide +kernel
theorem dX0_moveClocks_12 : decode cX0_moveClocks 12 = .ok (.getfield 11, 3) := by decide +kernel
theorem dX0_moveClocks_15 : decode cX0_moveClocks 15 = .ok (.iload_n 1, 1) := by decide +kernel
theorem dX0_moveClocks_16 : decode cX0_moveClocks 16 = .ok (.aaload, 1) := by decide +kernel
theorem dX0_moveClocks_17 : decode cX0_moveClocks 17 = .ok (.astore_n 2, 1) := by decide +kernel
theorem dX0_moveClocks_18 : decode cX0_moveClocks 18 = .ok (.aload_n 2, 1) := by decide +kernel
theorem dX0_moveClocks_19 : decode cX0_moveClocks 19 = .ok (.invokevirtual 61, 3) := by decide +kernel
theorem dX0_moveClocks_22 : decode cX0_moveClocks 22 = .ok (.ifCond .eq 21, 3) := by decide +kernel
theorem dX0_moveClocks_25 : decode cX0_moveClocks 25 = .ok (.aload_n 2, 1) := by decide +kernel
theorem dX0_moveClocks_26 : decode cX0_moveClocks 26 = .ok (.dup, 1) := by decide +kernel
theorem dX0_moveClocks_27 : decode cX0_moveClocks 27 = .ok (.getfield 69, 3) := by decide +kernel
theorem dX0_moveClocks_30 : decode cX0_moveClocks 30 = .ok (.aload_n 2, 1) := by decide +kernel
theorem dX0_moveClocks_31 : decode cX0_moveClocks 31 = .ok (.getfield 149, 3) := by decide +kernel
theorem dX0_moveClocks_34 : decode cX0_moveClocks 34 = .ok (.aload_n 2, 1) := by decide +kernel
theorem dX0_moveClocks_35 : decode cX0_moveClocks 35 = .ok (.getfield 152, 3) := by decide +kernel
theorem dX0_moveClocks_38 : decode cX0_moveClocks 38 = .ok (.iadd, 1) := by decide +kernel
theorem dX0_moveClocks_39 : decode cX0_moveClocks 39 = .ok (.iadd, 1) := by decide +kernel
theorem dX0_moveClocks_40 : decode cX0_moveClocks 40 = .ok (.putfield 69, 3) := by decide +kernel
theorem dX0_moveClocks_43 : decode cX0_moveClocks 43 = .ok (.aload_n 2, 1) := by decide +kernel
theorem dX0_moveClocks_44 : decode cX0_moveClocks 44 = .ok (.getfield 100, 3) := by decide +kernel
theorem dX0_moveClocks_47 : decode cX0_moveClocks 47 = .ok (.ifCond .ne 13, 3) := by decide +kernel
theorem dX0_moveClocks_50 : decode cX0_moveClocks 50 = .ok (.aload_n 2, 1) := by decide +kernel
theorem dX0_moveClocks_51 : decode cX0_moveClocks 51 = .ok (.dup, 1) := by decide +kernel
theorem dX0_moveClocks_52 : decode cX0_moveClocks 52 = .ok (.getfield 155, 3) := by decide +kernel
theorem dX0_moveClocks_55 : decode cX0_moveClocks 55 = .ok (.iconst 1, 1) := by decide +kernel
theorem dX0_moveClocks_56 : decode cX0_moveClocks 56 = .ok (.iadd, 1) := by decide +kernel
theorem dX0_moveClocks_57 : decode cX0_moveClocks 57 = .ok (.putfield 155, 3) := by decide +kernel
theorem dX0_moveClocks_60 : decode cX0_moveClocks 60 = .ok (.iinc 1 1, 3) := by decide +kernel
theorem dX0_moveClocks_63 : decode cX0_moveClocks 63 = .ok (.goto (-61), 3) := by decide +kernel
theorem dX0_moveClocks_66 : decode cX0_moveClocks 66 = .ok (.return_, 1) := by decide +kernel
theorem dX1_init_0 : decode cX1_init 0 = .ok (.aload_n 0, 1) := by decide +kernel
theorem dX1_init_1 : decode cX1_init 1 = .ok (.invokespecial 3, 3) := by decide +kernel
theorem dX1_init_4 : decode cX1_init 4 = .ok (.aload_n 0, 1) := by decide +kernel
theorem dX1_init_5 : decode cX1_init 5 = .ok (.iconst 0, 1) := by decide +kernel
theorem dX1_init_6 : decode cX1_init 6 = .ok (.putfield 9, 3) := by decide +kernel
theorem dX1_init_9 : decode cX1_init 9 = .ok (.aload_n 0, 1) := by decide +kernel
theorem dX1_init_10 : decode cX1_init 10 = .ok (.iconst 0, 1) := by decide +kernel
theorem dX1_init_11 : decode cX1_init 11 = .ok (.putfield 15, 3) := by decide +kernel
theorem dX1_init_14 : decode cX1_init 14 = .ok (.aload_n 0, 1) := by decide +kernel
theorem dX1_init_15 : decode cX1_init 15 = .ok (.bipush (-6), 2) := by decide +kernel
theorem dX1_init_17 : decode cX1_init 17 = .ok (.putfield 18, 3) := by decide +kernel
theorem dX1_init_20 : decode cX1_init 20 = .ok (.aload_n 0, 1) := by decide +kernel
theorem dX1_init_21 : decode cX1_init 21 = .ok (.iconst 0, 1) := by decide +kernel
theorem dX1_init_22 : decode cX1_init 22 = .ok (.putfield 21, 3) := by decide +kernel
theorem dX1_init_25 : decode cX1_init 25 = .ok (.aload_n 0, 1) := by decide +kernel
theorem dX1_init_26 : decode cX1_init 26 = .ok (.iconst 0, 1) := by decide +kernel
theorem dX1_init_27 : decode cX1_init 27 = .ok (.putfield 24, 3) := by decide +kernel
theorem dX1_init_30 : decode cX1_init 30 = .ok (.aload_n 0, 1) := by decide +kernel
theorem dX1_init_31 : decode cX1_init 31 = .ok (.iconst 0, 1) := by decide +kernel
theorem dX1_init_32 : decode cX1_init 32 = .ok (.putfield 27, 3) := by decide +kernel
theorem dX1_init_35 : decode cX1_init 35 = .ok (.aload_n 0, 1) := by decide +kernel
theorem dX1_init_36 : decode cX1_init 36 = .ok (.bipush 6, 2) := by decide +kernel
theorem dX1_init_38 : decode cX1_init 38 = .ok (.newarray .int, 2) := by decide +kernel
theorem dX1_init_40 : decode cX1_init 40 = .ok (.putfield 30, 3) := by decide +kernel
theorem dX1_init_43 : decode cX1_init 43 = .ok (.return_, 1) := by decide +kernel
theorem dX1_clear_0 : decode cX1_clear 0 = .ok (.aload_n 0, 1) := by decide +kernel
theorem dX1_clear_1 : decode cX1_clear 1 = .ok (.iconst 0, 1) := by decide +kernel
theorem dX1_clear_2 : decode cX1_clear 2 = .ok (.putfield 9, 3) := by decide +kernel
theorem dX1_clear_5 : decode cX1_clear 5 = .ok (.aload_n 0, 1) := by decide +kernel
theorem dX1_clear_6 : decode cX1_clear 6 = .ok (.iconst 0, 1) := by decide +kernel
theorem dX1_clear_7 : decode cX1_clear 7 = .ok (.putfield 15, 3) := by decide +kernel
theorem dX1_clear_10 : decode cX1_clear 10 = .ok (.aload_n 0, 1) := by decide +kernel
theorem dX1_clear_11 : decode cX1_clear 11 = .ok (.bipush (-6), 2) := by decide +kernel
theorem dX1_clear_13 : decode cX1_clear 13 = .ok (.putfield 18, 3) := by decide +kernel
theorem dX1_clear_16 : decode cX1_clear 16 = .ok (.return_, 1) := by decide +kernel
theorem dX1_copy_0 : decode cX1_copy 0 = .ok (.aload_n 0, 1) := by decide +kernel
theorem dX1_copy_1 : decode cX1_copy 1 = .ok (.aload_n 1, 1) := by decide +kernel
theorem dX1_copy_2 : decode cX1_copy 2 = .ok (.getfield 9, 3) := by decide +kernel
theorem dX1_copy_5 : decode cX1_copy 5 = .ok (.putfield 9, 3) := by decide +kernel
theorem dX1_copy_8 : decode cX1_copy 8 = .ok (.aload_n 0, 1) := by decide +kernel
theorem dX1_copy_9 : decode cX1_copy 9 = .ok (.aload_n 1, 1) := by decide +kernel
theorem dX1_copy_10 : decode cX1_copy 10 = .ok (.getfield 15, 3) := by decide +kernel
theorem dX1_copy_13 : decode cX1_copy 13 = .ok (.putfield 15, 3) := by decide +kernel
theorem dX1_copy_16 : decode cX1_copy 16 = .ok (.aload_n 0, 1) := by decide +kernel
theorem dX1_copy_17 : decode cX1_copy 17 = .ok (.aload_n 1, 1) := by decide +kernel
theorem dX1_copy_18 : decode cX1_copy 18 = .ok (.getfield 18, 3) := by decide +kernel
theorem dX1_copy_21 : decode cX1_copy 21 = .ok (.putfield 18, 3) := by decide +kernel
theorem dX1_copy_24 : decode cX1_copy 24 = .ok (.aload_n 0, 1) := by decide +kernel
theorem dX1_copy_25 : decode cX1_copy 25 = .ok (.aload_n 1, 1) := by decide +kernel
theorem dX1_copy_26 : decode cX1_copy 26 = .ok (.getfield 21, 3) := by decide +kernel
theorem dX1_copy_29 : decode cX1_copy 29 = .ok (.putfield 21, 3) := by decide +kernel
theorem dX1_copy_32 : decode cX1_copy 32 = .ok (.aload_n 0, 1) := by decide +kernel
theorem dX1_copy_33 : decode cX1_copy 33 = .ok (.aload_n 1, 1) := by decide +kernel
theorem dX1_copy_34 : decode cX1_copy 34 = .ok (.getfield 24, 3) := by decide +kernel
theorem dX1_copy_37 : decode cX1_copy 37 = .ok (.putfield 24, 3) := by decide +kernel
theorem dX1_copy_40 : decode cX1_copy 40 = .ok (.aload_n 0, 1) := by decide +kernel
theorem dX1_copy_41 : decode cX1_copy 41 = .ok (.aload_n 1, 1) := by decide +kernel
theorem dX1_copy_42 : decode cX1_copy 42 = .ok (.getfield 27, 3) := by decide +kernel
theorem dX1_copy_45 : decode cX1_copy 45 = .ok (.putfield 27, 3) := by decide +kernel
theorem dX1_copy_48 : decode cX1_copy 48 = .ok (.iconst 0, 1) := by decide +kernel
theorem dX1_copy_49 : decode cX1_copy 49 = .ok (.istore_n 2, 1) := by decide +kernel
theorem dX1_copy_50 : decode cX1_copy 50 = .ok (.iload_n 2, 1) := by decide +kernel
theorem dX1_copy_51 : decode cX1_copy 51 = .ok (.aload_n 0, 1) := by decide +kernel
theorem dX1_copy_52 : decode cX1_copy 52 = .ok (.getfield 30, 3) := by decide +kernel
theorem dX1_copy_55 : decode cX1_copy 55 = .ok (.arraylength, 1) := by decide +kernel
theorem dX1_copy_56 : decode cX1_copy 56 = .ok (.if_icmp .ge 30, 3) := by decide +kernel
theorem dX1_copy_59 : decode cX1_copy 59 = .ok (.iload_n 2, 1) := by decide +kernel
theorem dX1_copy_60 : decode cX1_copy 60 = .ok (.aload_n 1, 1) := by decide +kernel
theorem dX1_copy_61 : decode cX1_copy 61 = .ok (.getfield 30, 3) := by decide +kernel
theorem dX1_copy_64 : decode cX1_copy 64 = .ok (.arraylength, 1) := by decide +kernel
theorem dX1_copy_65 : decode cX1_copy 65 = .ok (.if_icmp .ge 21, 3) := by decide +kernel
theorem dX1_copy_68 : decode cX1_copy 68 = .ok (.aload_n 0, 1) := by decide +kernel
theorem dX1_copy_69 : decode cX1_copy 69 = .ok (.getfield 30, 3) := by decide +kernel
theorem dX1_copy_72 : decode cX1_copy 72 = .ok (.iload_n 2, 1) := by decide +kernel
theorem dX1_copy_73 : decode cX1_copy 73 = .ok (.aload_n 1, 1) := by decide +kernel
theorem dX1_copy_74 : decode cX1_copy 74 = .ok (.getfield 30, 3) := by decide +kernel
theorem dX1_copy_77 : decode cX1_copy 77 = .ok (.iload_n 2, 1) := by decide +kernel
theorem dX1_copy_78 : decode cX1_copy 78 = .ok (.iaload, 1) := by decide +kernel
theorem dX1_copy_79 : decode cX1_copy 79 = .ok (.iastore, 1) := by decide +kernel
theorem dX1_copy_80 : decode cX1_copy 80 = .ok (.iinc 2 1, 3) := by decide +kernel
theorem dX1_copy_83 : decode cX1_copy 83 = .ok (.goto (-33), 3) := by decide +kernel
theorem dX1_copy_86 : decode cX1_copy 86 = .ok (.return_, 1) := by decide +kernel
theorem dX1_note_0 : decode cX1_note 0 = .ok (.iload_n 1, 1) := by decide +kernel
theorem dX1_note_1 : decode cX1_note 1 = .ok (.ifCond .lt 12, 3) := by decide +kernel
theorem dX1_note_4 : decode cX1_note 4 = .ok (.iload_n 1, 1) := by decide +kernel
theorem dX1_note_5 : decode cX1_note 5 = .ok (.aload_n 0, 1) := by decide +kernel
theorem dX1_note_6 : decode cX1_note 6 = .ok (.getfield 30, 3) := by decide +kernel
theorem dX1_note_9 : decode cX1_note 9 = .ok (.arraylength, 1) := by decide +kernel
theorem dX1_note_10 : decode cX1_note 10 = .ok (.if_icmp .lt 4, 3) := by decide +kernel
theorem dX1_note_13 : decode cX1_note 13 = .ok (.return_, 1) := by decide +kernel
theorem dX1_note_14 : decode cX1_note 14 = .ok (.aload_n 2, 1) := by decide +kernel
theorem dX1_note_15 : decode cX1_note 15 = .ok (.getfield 34, 3) := by decide +kernel
theorem dX1_note_18 : decode cX1_note 18 = .ok (.aload_n 2, 1) := by decide +kernel
theorem dX1_note_19 : decode cX1_note 19 = .ok (.getfield 39, 3) := by decide +kernel
theorem dX1_note_22 : decode cX1_note 22 = .ok (.iadd, 1) := by decide +kernel
theorem dX1_note_23 : decode cX1_note 23 = .ok (.iload_n 3, 1) := by decide +kernel
theorem dX1_note_24 : decode cX1_note 24 = .ok (.isub, 1) := by decide +kernel
theorem dX1_note_25 : decode cX1_note 25 = .ok (.istore 4, 2) := by decide +kernel
theorem dX1_note_27 : decode cX1_note 27 = .ok (.aload_n 0, 1) := by decide +kernel
theorem dX1_note_28 : decode cX1_note 28 = .ok (.dup, 1) := by decide +kernel
theorem dX1_note_29 : decode cX1_note 29 = .ok (.getfield 9, 3) := by decide +kernel
theorem dX1_note_32 : decode cX1_note 32 = .ok (.iload_n 1, 1) := by decide +kernel
theorem dX1_note_33 : decode cX1_note 33 = .ok (.invokestatic 42, 3) := by decide +kernel
theorem dX1_note_36 : decode cX1_note 36 = .ok (.ior, 1) := by decide +kernel
theorem dX1_note_37 : decode cX1_note 37 = .ok (.putfield 9, 3) := by decide +kernel
theorem dX1_note_40 : decode cX1_note 40 = .ok (.aload_n 0, 1) := by decide +kernel
theorem dX1_note_41 : decode cX1_note 41 = .ok (.getfield 30, 3) := by decide +kernel
theorem dX1_note_44 : decode cX1_note 44 = .ok (.iload_n 1, 1) := by decide +kernel
theorem dX1_note_45 : decode cX1_note 45 = .ok (.iload 4, 2) := by decide +kernel
theorem dX1_note_47 : decode cX1_note 47 = .ok (.iastore, 1) := by decide +kernel
theorem dX1_note_48 : decode cX1_note 48 = .ok (.aload_n 2, 1) := by decide +kernel
theorem dX1_note_49 : decode cX1_note 49 = .ok (.getfield 46, 3) := by decide +kernel
theorem dX1_note_52 : decode cX1_note 52 = .ok (.iconst 1, 1) := by decide +kernel
theorem dX1_note_53 : decode cX1_note 53 = .ok (.if_icmp .ne 65, 3) := by decide +kernel
theorem dX1_note_56 : decode cX1_note 56 = .ok (.aload_n 0, 1) := by decide +kernel
theorem dX1_note_57 : decode cX1_note 57 = .ok (.dup, 1) := by decide +kernel
theorem dX1_note_58 : decode cX1_note 58 = .ok (.getfield 15, 3) := by decide +kernel
theorem dX1_note_61 : decode cX1_note 61 = .ok (.iconst 1, 1) := by decide +kernel
theorem dX1_note_62 : decode cX1_note 62 = .ok (.iadd, 1) := by decide +kernel
theorem dX1_note_63 : decode cX1_note 63 = .ok (.putfield 15, 3) := by decide +kernel
theorem dX1_note_66 : decode cX1_note 66 = .ok (.aload_n 0, 1) := by decide +kernel
theorem dX1_note_67 : decode cX1_note 67 = .ok (.getfield 18, 3) := by decide +kernel
theorem dX1_note_70 : decode cX1_note 70 = .ok (.bipush (-6), 2) := by decide +kernel
theorem dX1_note_72 : decode cX1_note 72 = .ok (.if_icmp .eq 14, 3) := by decide +kernel
theorem dX1_note_75 : decode cX1_note 75 = .ok (.aload_n 2, 1) := by decide +kernel
theorem dX1_note_76 : decode cX1_note 76 = .ok (.getfield 49, 3) := by decide +kernel
theorem dX1_note_79 : decode cX1_note 79 = .ok (.aload_n 0, 1) := by decide +kernel
theorem dX1_note_80 : decode cX1_note 80 = .ok (.getfield 21, 3) := by decide +kernel
theorem dX1_note_83 : decode cX1_note 83 = .ok (.if_icmp .ge 35, 3) := by decide +kernel
theorem dX1_note_86 : decode cX1_note 86 = .ok (.aload_n 0, 1) := by decide +kernel
theorem dX1_note_87 : decode cX1_note 87 = .ok (.iload_n 1, 1) := by decide +kernel
theorem dX1_note_88 : decode cX1_note 88 = .ok (.putfield 18, 3) := by decide +kernel
theorem dX1_note_91 : decode cX1_note 91 = .ok (.aload_n 0, 1) := by decide +kernel
theorem dX1_note_92 : decode cX1_note 92 = .ok (.aload_n 2, 1) := by decide +kernel
theorem dX1_note_93 : decode cX1_note 93 = .ok (.getfield 49, 3) := by decide +kernel
theorem dX1_note_96 : decode cX1_note 96 = .ok (.putfield 21, 3) := by decide +kernel
theorem dX1_note_99 : decode cX1_note 99 = .ok (.aload_n 0, 1) := by decide +kernel
theorem dX1_note_100 : decode cX1_note 100 = .ok (.iload 4, 2) := by decide +kernel
theorem dX1_note_102 : decode cX1_note 102 = .ok (.putfield 24, 3) := by decide +kernel
theorem dX1_note_105 : decode cX1_note 105 = .ok (.aload_n 0, 1) := by decide +kernel
theorem dX1_note_106 : decode cX1_note 106 = .ok (.aload_n 2, 1) := by decide +kernel
theorem dX1_note_107 : decode cX1_note 107 = .ok (.getfield 52, 3) := by decide +kernel
theorem dX1_note_110 : decode cX1_note 110 = .ok (.aload_n 2, 1) := by decide +kernel
theorem dX1_note_111 : decode cX1_note 111 = .ok (.getfield 55, 3) := by decide +kernel
theorem dX1_note_114 : decode cX1_note 114 = .ok (.iadd, 1) := by decide +kernel
theorem dX1_note_115 : decode cX1_note 115 = .ok (.putfield 27, 3) := by decide +kernel
theorem dX1_note_118 : decode cX1_note 118 = .ok (.return_, 1) := by decide +kernel
theorem dX1_trimOfSeen_0 : decode cX1_trimOfSeen 0 = .ok (.aload_n 1, 1) := by decide +kernel
theorem dX1_trimOfSeen_1 : decode cX1_trimOfSeen 1 = .ok (.invokevirtual 58, 3) := by decide +kernel
theorem dX1_trimOfSeen_4 : decode cX1_trimOfSeen 4 = .ok (.aload_n 1, 1) := by decide +kernel
theorem dX1_trimOfSeen_5 : decode cX1_trimOfSeen 5 = .ok (.iconst 0, 1) := by decide +kernel
theorem dX1_trimOfSeen_6 : decode cX1_trimOfSeen 6 = .ok (.invokevirtual 63, 3) := by decide +kernel
theorem dX1_trimOfSeen_9 : decode cX1_trimOfSeen 9 = .ok (.iconst 0, 1) := by decide +kernel
theorem dX1_trimOfSeen_10 : decode cX1_trimOfSeen 10 = .ok (.istore_n 2, 1) := by decide +kernel
theorem dX1_trimOfSeen_11 : decode cX1_trimOfSeen 11 = .ok (.iload_n 2, 1) := by decide +kernel
theorem dX1_trimOfSeen_12 : decode cX1_trimOfSeen 12 = .ok (.aload_n 0, 1) := by decide +kernel
theorem dX1_trimOfSeen_13 : decode cX1_trimOfSeen 13 = .ok (.getfield 30, 3) := by decide +kernel
theorem dX1_trimOfSeen_16 : decode cX1_trimOfSeen 16 = .ok (.arraylength, 1) := by decide +kernel
theorem dX1_trimOfSeen_17 : decode cX1_trimOfSeen 17 = .ok (.if_icmp .ge 30, 3) := by decide +kernel
theorem dX1_trimOfSeen_20 : decode cX1_trimOfSeen 20 = .ok (.aload_n 0, 1) := by decide +kernel
theorem dX1_trimOfSeen_21 : decode cX1_trimOfSeen 21 = .ok (.getfield 9, 3) := by decide +kernel
theorem dX1_trimOfSeen_24 : decode cX1_trimOfSeen 24 = .ok (.iload_n 2, 1) := by decide +kernel
theorem dX1_trimOfSeen_25 : decode cX1_trimOfSeen 25 = .ok (.invokestatic 67, 3) := by decide +kernel
theorem dX1_trimOfSeen_28 : decode cX1_trimOfSeen 28 = .ok (.ifCond .eq 13, 3) := by decide +kernel
theorem dX1_trimOfSeen_31 : decode cX1_trimOfSeen 31 = .ok (.aload_n 1, 1) := by decide +kernel
theorem dX1_trimOfSeen_32 : decode cX1_trimOfSeen 32 = .ok (.aload_n 0, 1) := by decide +kernel
theorem dX1_trimOfSeen_33 : decode cX1_trimOfSeen 33 = .ok (.getfield 30, 3) := by decide +kernel
theorem dX1_trimOfSeen_36 : decode cX1_trimOfSeen 36 = .ok (.iload_n 2, 1) := by decide +kernel
theorem dX1_trimOfSeen_37 : decode cX1_trimOfSeen 37 = .ok (.iaload, 1) := by decide +kernel
theorem dX1_trimOfSeen_38 : decode cX1_trimOfSeen 38 = .ok (.invokevirtual 63, 3) := by decide +kernel
theorem dX1_trimOfSeen_41 : decode cX1_trimOfSeen 41 = .ok (.iinc 2 1, 3) := by decide +kernel
theorem dX1_trimOfSeen_44 : decode cX1_trimOfSeen 44 = .ok (.goto (-33), 3) := by decide +kernel
theorem dX1_trimOfSeen_47 : decode cX1_trimOfSeen 47 = .ok (.aload_n 1, 1) := by decide +kernel
theorem dX1_trimOfSeen_48 : decode cX1_trimOfSeen 48 = .ok (.invokevirtual 71, 3) := by decide +kernel
theorem dX1_trimOfSeen_51 : decode cX1_trimOfSeen 51 = .ok (.ireturn, 1) := by decide +kernel
theorem dX1_trimOfMoves_0 : decode cX1_trimOfMoves 0 = .ok (.aload_n 2, 1) := by decide +kernel
theorem dX1_trimOfMoves_1 : decode cX1_trimOfMoves 1 = .ok (.invokevirtual 58, 3) := by decide +kernel
theorem dX1_trimOfMoves_4 : decode cX1_trimOfMoves 4 = .ok (.aload_n 2, 1) := by decide +kernel
theorem dX1_trimOfMoves_5 : decode cX1_trimOfMoves 5 = .ok (.iconst 0, 1) := by decide +kernel
theorem dX1_trimOfMoves_6 : decode cX1_trimOfMoves 6 = .ok (.invokevirtual 63, 3) := by decide +kernel
theorem dX1_trimOfMoves_9 : decode cX1_trimOfMoves 9 = .ok (.iconst 0, 1) := by decide +kernel
theorem dX1_trimOfMoves_10 : decode cX1_trimOfMoves 10 = .ok (.istore_n 3, 1) := by decide +kernel
theorem dX1_trimOfMoves_11 : decode cX1_trimOfMoves 11 = .ok (.iload_n 3, 1) := by decide +kernel
theorem dX1_trimOfMoves_12 : decode cX1_trimOfMoves 12 = .ok (.aload_n 0, 1) := by decide +kernel
theorem dX1_trimOfMoves_13 : decode cX1_trimOfMoves 13 = .ok (.getfield 30, 3) := by decide +kernel
theorem dX1_trimOfMoves_16 : decode cX1_trimOfMoves 16 = .ok (.arraylength, 1) := by decide +kernel
theorem dX1_trimOfMoves_17 : decode cX1_trimOfMoves 17 = .ok (.if_icmp .ge 51, 3) := by decide +kernel
theorem dX1_trimOfMoves_20 : decode cX1_trimOfMoves 20 = .ok (.iload_n 3, 1) := by decide +kernel
theorem dX1_trimOfMoves_21 : decode cX1_trimOfMoves 21 = .ok (.aload_n 1, 1) := by decide +kernel
theorem dX1_trimOfMoves_22 : decode cX1_trimOfMoves 22 = .ok (.getfield 30, 3) := by decide +kernel
theorem dX1_trimOfMoves_25 : decode cX1_trimOfMoves 25 = .ok (.arraylength, 1) := by decide +kernel
theorem dX1_trimOfMoves_26 : decode cX1_trimOfMoves 26 = .ok (.if_icmp .ge 42, 3) := by decide +kernel
theorem dX1_trimOfMoves_29 : decode cX1_trimOfMoves 29 = .ok (.aload_n 0, 1) := by decide +kernel
theorem dX1_trimOfMoves_30 : decode cX1_trimOfMoves 30 = .ok (.getfield 9, 3) := by decide +kernel
theorem dX1_trimOfMoves_33 : decode cX1_trimOfMoves 33 = .ok (.aload_n 1, 1) := by decide +kernel
theorem dX1_trimOfMoves_34 : decode cX1_trimOfMoves 34 = .ok (.getfield 9, 3) := by decide +kernel
theorem dX1_trimOfMoves_37 : decode cX1_trimOfMoves 37 = .ok (.iand, 1) := by decide +kernel
theorem dX1_trimOfMoves_38 : decode cX1_trimOfMoves 38 = .ok (.iload_n 3, 1) := by decide +kernel
theorem dX1_trimOfMoves_39 : decode cX1_trimOfMoves 39 = .ok (.invokestatic 67, 3) := by decide +kernel
theorem dX1_trimOfMoves_42 : decode cX1_trimOfMoves 42 = .ok (.ifCond .eq 20, 3) := by decide +kernel
theorem dX1_trimOfMoves_45 : decode cX1_trimOfMoves 45 = .ok (.aload_n 2, 1) := by decide +kernel
theorem dX1_trimOfMoves_46 : decode cX1_trimOfMoves 46 = .ok (.aload_n 0, 1) := by decide +kernel
theorem dX1_trimOfMoves_47 : decode cX1_trimOfMoves 47 = .ok (.getfield 30, 3) := by decide +kernel
theorem dX1_trimOfMoves_50 : decode cX1_trimOfMoves 50 = .ok (.iload_n 3, 1) := by decide +kernel
theorem dX1_trimOfMoves_51 : decode cX1_trimOfMoves 51 = .ok (.iaload, 1) := by decide +kernel
theorem dX1_trimOfMoves_52 : decode cX1_trimOfMoves 52 = .ok (.aload_n 1, 1) := by decide +kernel
theorem dX1_trimOfMoves_53 : decode cX1_trimOfMoves 53 = .ok (.getfield 30, 3) := by decide +kernel
theorem dX1_trimOfMoves_56 : decode cX1_trimOfMoves 56 = .ok (.iload_n 3, 1) := by decide +kernel
theorem dX1_trimOfMoves_57 : decode cX1_trimOfMoves 57 = .ok (.iaload, 1) := by decide +kernel
theorem dX1_trimOfMoves_58 : decode cX1_trimOfMoves 58 = .ok (.isub, 1) := by decide +kernel
theorem dX1_trimOfMoves_59 : decode cX1_trimOfMoves 59 = .ok (.invokevirtual 63, 3) := by decide +kernel
theorem dX1_trimOfMoves_62 : decode cX1_trimOfMoves 62 = .ok (.iinc 3 1, 3) := by decide +kernel
theorem dX1_trimOfMoves_65 : decode cX1_trimOfMoves 65 = .ok (.goto (-54), 3) := by decide +kernel
theorem dX1_trimOfMoves_68 : decode cX1_trimOfMoves 68 = .ok (.aload_n 2, 1) := by decide +kernel
theorem dX1_trimOfMoves_69 : decode cX1_trimOfMoves 69 = .ok (.invokevirtual 71, 3) := by decide +kernel
theorem dX1_trimOfMoves_72 : decode cX1_trimOfMoves 72 = .ok (.ireturn, 1) := by decide +kernel
theorem dX2_init_0 : decode cX2_init 0 = .ok (.aload_n 0, 1) := by decide +kernel
theorem dX2_init_1 : decode cX2_init 1 = .ok (.invokespecial 3, 3) := by decide +kernel
theorem dX2_init_4 : decode cX2_init 4 = .ok (.aload_n 0, 1) := by decide +kernel
theorem dX2_init_5 : decode cX2_init 5 = .ok (.bipush 40, 2) := by decide +kernel
theorem dX2_init_7 : decode cX2_init 7 = .ok (.newarray .int, 2) := by decide +kernel
theorem dX2_init_9 : decode cX2_init 9 = .ok (.putfield 9, 3) := by decide +kernel
theorem dX2_init_12 : decode cX2_init 12 = .ok (.aload_n 0, 1) := by decide +kernel
theorem dX2_init_13 : decode cX2_init 13 = .ok (.bipush 40, 2) := by decide +kernel
theorem dX2_init_15 : decode cX2_init 15 = .ok (.newarray .int, 2) := by decide +kernel
theorem dX2_init_17 : decode cX2_init 17 = .ok (.putfield 15, 3) := by decide +kernel
theorem dX2_init_20 : decode cX2_init 20 = .ok (.aload_n 0, 1) := by decide +kernel
theorem dX2_init_21 : decode cX2_init 21 = .ok (.bipush 40, 2) := by decide +kernel
theorem dX2_init_23 : decode cX2_init 23 = .ok (.newarray .int, 2) := by decide +kernel
theorem dX2_init_25 : decode cX2_init 25 = .ok (.putfield 18, 3) := by decide +kernel
theorem dX2_init_28 : decode cX2_init 28 = .ok (.aload_n 0, 1) := by decide +kernel
theorem dX2_init_29 : decode cX2_init 29 = .ok (.iconst 0, 1) := by decide +kernel
theorem dX2_init_30 : decode cX2_init 30 = .ok (.putfield 21, 3) := by decide +kernel
theorem dX2_init_33 : decode cX2_init 33 = .ok (.aload_n 0, 1) := by decide +kernel
theorem dX2_init_34 : decode cX2_init 34 = .ok (.iconst 0, 1) := by decide +kernel
theorem dX2_init_35 : decode cX2_init 35 = .ok (.putfield 25, 3) := by decide +kernel
theorem dX2_init_38 : decode cX2_init 38 = .ok (.return_, 1) := by decide +kernel
theorem dX2_copy_0 : decode cX2_copy 0 = .ok (.iconst 0, 1) := by decide +kernel
theorem dX2_copy_1 : decode cX2_copy 1 = .ok (.istore_n 2, 1) := by decide +kernel
theorem dX2_copy_2 : decode cX2_copy 2 = .ok (.iload_n 2, 1) := by decide +kernel
theorem dX2_copy_3 : decode cX2_copy 3 = .ok (.bipush 40, 2) := by decide +kernel
theorem dX2_copy_5 : decode cX2_copy 5 = .ok (.if_icmp .ge 45, 3) := by decide +kernel
theorem dX2_copy_8 : decode cX2_copy 8 = .ok (.aload_n 0, 1) := by decide +kernel
theorem dX2_copy_9 : decode cX2_copy 9 = .ok (.getfield 9, 3) := by decide +kernel
theorem dX2_copy_12 : decode cX2_copy 12 = .ok (.iload_n 2, 1) := by decide +kernel
theorem dX2_copy_13 : decode cX2_copy 13 = .ok (.aload_n 1, 1) := by decide +kernel
theorem dX2_copy_14 : decode cX2_copy 14 = .ok (.getfield 9, 3) := by decide +kernel
theorem dX2_copy_17 : decode cX2_copy 17 = .ok (.iload_n 2, 1) := by decide +kernel
theorem dX2_copy_18 : decode cX2_copy 18 = .ok (.iaload, 1) := by decide +kernel
theorem dX2_copy_19 : decode cX2_copy 19 = .ok (.iastore, 1) := by decide +kernel
theorem dX2_copy_20 : decode cX2_copy 20 = .ok (.aload_n 0, 1) := by decide +kernel
theorem dX2_copy_21 : decode cX2_copy 21 = .ok (.getfield 15, 3) := by decide +kernel
theorem dX2_copy_24 : decode cX2_copy 24 = .ok (.iload_n 2, 1) := by decide +kernel
theorem dX2_copy_25 : decode cX2_copy 25 = .ok (.aload_n 1, 1) := by decide +kernel
theorem dX2_copy_26 : decode cX2_copy 26 = .ok (.getfield 15, 3) := by decide +kernel
theorem dX2_copy_29 : decode cX2_copy 29 = .ok (.iload_n 2, 1) := by decide +kernel
theorem dX2_copy_30 : decode cX2_copy 30 = .ok (.iaload, 1) := by decide +kernel
theorem dX2_copy_31 : decode cX2_copy 31 = .ok (.iastore, 1) := by decide +kernel
theorem dX2_copy_32 : decode cX2_copy 32 = .ok (.aload_n 0, 1) := by decide +kernel
theorem dX2_copy_33 : decode cX2_copy 33 = .ok (.getfield 18, 3) := by decide +kernel
theorem dX2_copy_36 : decode cX2_copy 36 = .ok (.iload_n 2, 1) := by decide +kernel
theorem dX2_copy_37 : decode cX2_copy 37 = .ok (.aload_n 1, 1) := by decide +kernel
theorem dX2_copy_38 : decode cX2_copy 38 = .ok (.getfield 18, 3) := by decide +kernel
theorem dX2_copy_41 : decode cX2_copy 41 = .ok (.iload_n 2, 1) := by decide +kernel
theorem dX2_copy_42 : decode cX2_copy 42 = .ok (.iaload, 1) := by decide +kernel
theorem dX2_copy_43 : decode cX2_copy 43 = .ok (.iastore, 1) := by decide +kernel
theorem dX2_copy_44 : decode cX2_copy 44 = .ok (.iinc 2 1, 3) := by decide +kernel
theorem dX2_copy_47 : decode cX2_copy 47 = .ok (.goto (-45), 3) := by decide +kernel
theorem dX2_copy_50 : decode cX2_copy 50 = .ok (.aload_n 0, 1) := by decide +kernel
theorem dX2_copy_51 : decode cX2_copy 51 = .ok (.aload_n 1, 1) := by decide +kernel
theorem dX2_copy_52 : decode cX2_copy 52 = .ok (.getfield 21, 3) := by decide +kernel
theorem dX2_copy_55 : decode cX2_copy 55 = .ok (.putfield 21, 3) := by decide +kernel
theorem dX2_copy_58 : decode cX2_copy 58 = .ok (.aload_n 0, 1) := by decide +kernel
theorem dX2_copy_59 : decode cX2_copy 59 = .ok (.aload_n 1, 1) := by decide +kernel
theorem dX2_copy_60 : decode cX2_copy 60 = .ok (.getfield 25, 3) := by decide +kernel
theorem dX2_copy_63 : decode cX2_copy 63 = .ok (.putfield 25, 3) := by decide +kernel
theorem dX2_copy_66 : decode cX2_copy 66 = .ok (.return_, 1) := by decide +kernel
theorem dX2_add_0 : decode cX2_add 0 = .ok (.aload_n 0, 1) := by decide +kernel
theorem dX2_add_1 : decode cX2_add 1 = .ok (.getfield 25, 3) := by decide +kernel
theorem dX2_add_4 : decode cX2_add 4 = .ok (.aload_n 0, 1) := by decide +kernel
theorem dX2_add_5 : decode cX2_add 5 = .ok (.getfield 21, 3) := by decide +kernel
theorem dX2_add_8 : decode cX2_add 8 = .ok (.iadd, 1) := by decide +kernel
theorem dX2_add_9 : decode cX2_add 9 = .ok (.bipush 40, 2) := by decide +kernel
theorem dX2_add_11 : decode cX2_add 11 = .ok (.irem, 1) := by decide +kernel
theorem dX2_add_12 : decode cX2_add 12 = .ok (.istore 4, 2) := by decide +kernel
theorem dX2_add_14 : decode cX2_add 14 = .ok (.aload_n 0, 1) := by decide +kernel
theorem dX2_add_15 : decode cX2_add 15 = .ok (.getfield 9, 3) := by decide +kernel
theorem dX2_add_18 : decode cX2_add 18 = .ok (.iload 4, 2) := by decide +kernel
theorem dX2_add_20 : decode cX2_add 20 = .ok (.iload_n 1, 1) := by decide +kernel
theorem dX2_add_21 : decode cX2_add 21 = .ok (.iastore, 1) := by decide +kernel
theorem dX2_add_22 : decode cX2_add 22 = .ok (.aload_n 0, 1) := by decide +kernel
theorem dX2_add_23 : decode cX2_add 23 = .ok (.getfield 15, 3) := by decide +kernel
theorem dX2_add_26 : decode cX2_add 26 = .ok (.iload 4, 2) := by decide +kernel
theorem dX2_add_28 : decode cX2_add 28 = .ok (.iload_n 2, 1) := by decide +kernel
theorem dX2_add_29 : decode cX2_add 29 = .ok (.iastore, 1) := by decide +kernel
theorem dX2_add_30 : decode cX2_add 30 = .ok (.aload_n 0, 1) := by decide +kernel
theorem dX2_add_31 : decode cX2_add 31 = .ok (.getfield 18, 3) := by decide +kernel
theorem dX2_add_34 : decode cX2_add 34 = .ok (.iload 4, 2) := by decide +kernel
theorem dX2_add_36 : decode cX2_add 36 = .ok (.iload_n 3, 1) := by decide +kernel
theorem dX2_add_37 : decode cX2_add 37 = .ok (.iastore, 1) := by decide +kernel
theorem dX2_add_38 : decode cX2_add 38 = .ok (.aload_n 0, 1) := by decide +kernel
theorem dX2_add_39 : decode cX2_add 39 = .ok (.getfield 21, 3) := by decide +kernel
theorem dX2_add_42 : decode cX2_add 42 = .ok (.bipush 40, 2) := by decide +kernel
theorem dX2_add_44 : decode cX2_add 44 = .ok (.if_icmp .ge 16, 3) := by decide +kernel
theorem dX2_add_47 : decode cX2_add 47 = .ok (.aload_n 0, 1) := by decide +kernel
theorem dX2_add_48 : decode cX2_add 48 = .ok (.dup, 1) := by decide +kernel
theorem dX2_add_49 : decode cX2_add 49 = .ok (.getfield 21, 3) := by decide +kernel
theorem dX2_add_52 : decode cX2_add 52 = .ok (.iconst 1, 1) := by decide +kernel
theorem dX2_add_53 : decode cX2_add 53 = .ok (.iadd, 1) := by decide +kernel
theorem dX2_add_54 : decode cX2_add 54 = .ok (.putfield 21, 3) := by decide +kernel
theorem dX2_add_57 : decode cX2_add 57 = .ok (.goto 16, 3) := by decide +kernel
theorem dX2_add_60 : decode cX2_add 60 = .ok (.aload_n 0, 1) := by decide +kernel
theorem dX2_add_61 : decode cX2_add 61 = .ok (.aload_n 0, 1) := by decide +kernel
theorem dX2_add_62 : decode cX2_add 62 = .ok (.getfield 25, 3) := by decide +kernel
theorem dX2_add_65 : decode cX2_add 65 = .ok (.iconst 1, 1) := by decide +kernel
theorem dX2_add_66 : decode cX2_add 66 = .ok (.iadd, 1) := by decide +kernel
theorem dX2_add_67 : decode cX2_add 67 = .ok (.bipush 40, 2) := by decide +kernel
theorem dX2_add_69 : decode cX2_add 69 = .ok (.irem, 1) := by decide +kernel
theorem dX2_add_70 : decode cX2_add 70 = .ok (.putfield 25, 3) := by decide +kernel
theorem dX2_add_73 : decode cX2_add 73 = .ok (.return_, 1) := by decide +kernel
theorem dX2_placeOf_0 : decode cX2_placeOf 0 = .ok (.iload_n 1, 1) := by decide +kernel
theorem dX2_placeOf_1 : decode cX2_placeOf 1 = .ok (.ifCond .lt 23, 3) := by decide +kernel
theorem dX2_placeOf_4 : decode cX2_placeOf 4 = .ok (.iload_n 1, 1) := by decide +kernel
theorem dX2_placeOf_5 : decode cX2_placeOf 5 = .ok (.aload_n 0, 1) := by decide +kernel
theorem dX2_placeOf_6 : decode cX2_placeOf 6 = .ok (.getfield 21, 3) := by decide +kernel
theorem dX2_placeOf_9 : decode cX2_placeOf 9 = .ok (.if_icmp .ge 15, 3) := by decide +kernel
theorem dX2_placeOf_12 : decode cX2_placeOf 12 = .ok (.aload_n 0, 1) := by decide +kernel
theorem dX2_placeOf_13 : decode cX2_placeOf 13 = .ok (.getfield 25, 3) := by decide +kernel
theorem dX2_placeOf_16 : decode cX2_placeOf 16 = .ok (.iload_n 1, 1) := by decide +kernel
theorem dX2_placeOf_17 : decode cX2_placeOf 17 = .ok (.iadd, 1) := by decide +kernel
theorem dX2_placeOf_18 : decode cX2_placeOf 18 = .ok (.bipush 40, 2) := by decide +kernel
theorem dX2_placeOf_20 : decode cX2_placeOf 20 = .ok (.irem, 1) := by decide +kernel
theorem dX2_placeOf_21 : decode cX2_placeOf 21 = .ok (.goto 4, 3) := by decide +kernel
theorem dX2_placeOf_24 : decode cX2_placeOf 24 = .ok (.iconst (-1), 1) := by decide +kernel
theorem dX2_placeOf_25 : decode cX2_placeOf 25 = .ok (.ireturn, 1) := by decide +kernel
theorem dX3_init_0 : decode cX3_init 0 = .ok (.aload_n 0, 1) := by decide +kernel
theorem dX3_init_1 : decode cX3_init 1 = .ok (.invokespecial 3, 3) := by decide +kernel
theorem dX3_init_4 : decode cX3_init 4 = .ok (.aload_n 0, 1) := by decide +kernel
theorem dX3_init_5 : decode cX3_init 5 = .ok (.iconst 3, 1) := by decide +kernel
theorem dX3_init_6 : decode cX3_init 6 = .ok (.putfield 9, 3) := by decide +kernel
theorem dX3_init_9 : decode cX3_init 9 = .ok (.aload_n 0, 1) := by decide +kernel
theorem dX3_init_10 : decode cX3_init 10 = .ok (.iconst 0, 1) := by decide +kernel
theorem dX3_init_11 : decode cX3_init 11 = .ok (.putfield 15, 3) := by decide +kernel
theorem dX3_init_14 : decode cX3_init 14 = .ok (.aload_n 0, 1) := by decide +kernel
theorem dX3_init_15 : decode cX3_init 15 = .ok (.iconst 0, 1) := by decide +kernel
theorem dX3_init_16 : decode cX3_init 16 = .ok (.putfield 18, 3) := by decide +kernel
theorem dX3_init_19 : decode cX3_init 19 = .ok (.aload_n 0, 1) := by decide +kernel
theorem dX3_init_20 : decode cX3_init 20 = .ok (.iconst 0, 1) := by decide +kernel
theorem dX3_init_21 : decode cX3_init 21 = .ok (.putfield 21, 3) := by decide +kernel
theorem dX3_init_24 : decode cX3_init 24 = .ok (.aload_n 0, 1) := by decide +kernel
theorem dX3_init_25 : decode cX3_init 25 = .ok (.iconst 0, 1) := by decide +kernel
theorem dX3_init_26 : decode cX3_init 26 = .ok (.putfield 24, 3) := by decide +kernel
theorem dX3_init_29 : decode cX3_init 29 = .ok (.aload_n 0, 1) := by decide +kernel
theorem dX3_init_30 : decode cX3_init 30 = .ok (.iconst 0, 1) := by decide +kernel
theorem dX3_init_31 : decode cX3_init 31 = .ok (.putfield 28, 3) := by decide +kernel
theorem dX3_init_34 : decode cX3_init 34 = .ok (.aload_n 0, 1) := by decide +kernel
theorem dX3_init_35 : decode cX3_init 35 = .ok (.iconst 0, 1) := by decide +kernel
theorem dX3_init_36 : decode cX3_init 36 = .ok (.putfield 31, 3) := by decide +kernel
theorem dX3_init_39 : decode cX3_init 39 = .ok (.aload_n 0, 1) := by decide +kernel
theorem dX3_init_40 : decode cX3_init 40 = .ok (.iconst 0, 1) := by decide +kernel
theorem dX3_init_41 : decode cX3_init 41 = .ok (.putfield 34, 3) := by decide +kernel
theorem dX3_init_44 : decode cX3_init 44 = .ok (.aload_n 0, 1) := by decide +kernel
theorem dX3_init_45 : decode cX3_init 45 = .ok (.iconst 0, 1) := by decide +kernel
theorem dX3_init_46 : decode cX3_init 46 = .ok (.putfield 37, 3) := by decide +kernel
theorem dX3_init_49 : decode cX3_init 49 = .ok (.aload_n 0, 1) := by decide +kernel
theorem dX3_init_50 : decode cX3_init 50 = .ok (.iconst 0, 1) := by decide +kernel
theorem dX3_init_51 : decode cX3_init 51 = .ok (.putfield 40, 3) := by decide +kernel
theorem dX3_init_54 : decode cX3_init 54 = .ok (.aload_n 0, 1) := by decide +kernel
theorem dX3_init_55 : decode cX3_init 55 = .ok (.iconst 0, 1) := by decide +kernel
theorem dX3_init_56 : decode cX3_init 56 = .ok (.putfield 43, 3) := by decide +kernel
theorem dX3_init_59 : decode cX3_init 59 = .ok (.aload_n 0, 1) := by decide +kernel
theorem dX3_init_60 : decode cX3_init 60 = .ok (.iconst 0, 1) := by decide +kernel
theorem dX3_init_61 : decode cX3_init 61 = .ok (.putfield 46, 3) := by decide +kernel
theorem dX3_init_64 : decode cX3_init 64 = .ok (.aload_n 0, 1) := by decide +kernel
theorem dX3_init_65 : decode cX3_init 65 = .ok (.new 49, 3) := by decide +kernel
theorem dX3_init_68 : decode cX3_init 68 = .ok (.dup, 1) := by decide +kernel
theorem dX3_init_69 : decode cX3_init 69 = .ok (.invokespecial 51, 3) := by decide +kernel
theorem dX3_init_72 : decode cX3_init 72 = .ok (.putfield 52, 3) := by decide +kernel
theorem dX3_init_75 : decode cX3_init 75 = .ok (.aload_n 0, 1) := by decide +kernel
theorem dX3_init_76 : decode cX3_init 76 = .ok (.new 49, 3) := by decide +kernel
theorem dX3_init_79 : decode cX3_init 79 = .ok (.dup, 1) := by decide +kernel
theorem dX3_init_80 : decode cX3_init 80 = .ok (.invokespecial 51, 3) := by decide +kernel
theorem dX3_init_83 : decode cX3_init 83 = .ok (.putfield 56, 3) := by decide +kernel
theorem dX3_init_86 : decode cX3_init 86 = .ok (.aload_n 0, 1) := by decide +kernel
theorem dX3_init_87 : decode cX3_init 87 = .ok (.iload_n 1, 1) := by decide +kernel
theorem dX3_init_88 : decode cX3_init 88 = .ok (.iconst 3, 1) := by decide +kernel
theorem dX3_init_89 : decode cX3_init 89 = .ok (.if_icmp .ge 7, 3) := by decide +kernel
theorem dX3_init_92 : decode cX3_init 92 = .ok (.iconst 1, 1) := by decide +kernel
theorem dX3_init_93 : decode cX3_init 93 = .ok (.goto 4, 3) := by decide +kernel
theorem dX3_init_96 : decode cX3_init 96 = .ok (.iconst 2, 1) := by decide +kernel
theorem dX3_init_97 : decode cX3_init 97 = .ok (.putfield 59, 3) := by decide +kernel
theorem dX3_init_100 : decode cX3_init 100 = .ok (.aload_n 0, 1) := by decide +kernel
theorem dX3_init_101 : decode cX3_init 101 = .ok (.iload_n 1, 1) := by decide +kernel
theorem dX3_init_102 : decode cX3_init 102 = .ok (.iconst 1, 1) := by decide +kernel
theorem dX3_init_103 : decode cX3_init 103 = .ok (.iadd, 1) := by decide +kernel
theorem dX3_init_104 : decode cX3_init 104 = .ok (.putfield 62, 3) := by decide +kernel
theorem dX3_init_107 : decode cX3_init 107 = .ok (.return_, 1) := by decide +kernel
theorem dX3_copy_0 : decode cX3_copy 0 = .ok (.aload_n 0, 1) := by decide +kernel
theorem dX3_copy_1 : decode cX3_copy 1 = .ok (.aload_n 1, 1) := by decide +kernel
theorem dX3_copy_2 : decode cX3_copy 2 = .ok (.getfield 59, 3) := by decide +kernel
theorem dX3_copy_5 : decode cX3_copy 5 = .ok (.putfield 59, 3) := by decide +kernel
theorem dX3_copy_8 : decode cX3_copy 8 = .ok (.aload_n 0, 1) := by decide +kernel
theorem dX3_copy_9 : decode cX3_copy 9 = .ok (.aload_n 1, 1) := by decide +kernel
theorem dX3_copy_10 : decode cX3_copy 10 = .ok (.getfield 62, 3) := by decide +kernel
theorem dX3_copy_13 : decode cX3_copy 13 = .ok (.putfield 62, 3) := by decide +kernel
theorem dX3_copy_16 : decode cX3_copy 16 = .ok (.aload_n 0, 1) := by decide +kernel
theorem dX3_copy_17 : decode cX3_copy 17 = .ok (.aload_n 1, 1) := by decide +kernel
theorem dX3_copy_18 : decode cX3_copy 18 = .ok (.getfield 9, 3) := by decide +kernel
theorem dX3_copy_21 : decode cX3_copy 21 = .ok (.putfield 9, 3) := by decide +kernel
theorem dX3_copy_24 : decode cX3_copy 24 = .ok (.aload_n 0, 1) := by decide +kernel
theorem dX3_copy_25 : decode cX3_copy 25 = .ok (.aload_n 1, 1) := by decide +kernel
theorem dX3_copy_26 : decode cX3_copy 26 = .ok (.getfield 15, 3) := by decide +kernel
theorem dX3_copy_29 : decode cX3_copy 29 = .ok (.putfield 15, 3) := by decide +kernel
theorem dX3_copy_32 : decode cX3_copy 32 = .ok (.aload_n 0, 1) := by decide +kernel
theorem dX3_copy_33 : decode cX3_copy 33 = .ok (.aload_n 1, 1) := by decide +kernel
theorem dX3_copy_34 : decode cX3_copy 34 = .ok (.getfield 18, 3) := by decide +kernel
theorem dX3_copy_37 : decode cX3_copy 37 = .ok (.putfield 18, 3) := by decide +kernel
theorem dX3_copy_40 : decode cX3_copy 40 = .ok (.aload_n 0, 1) := by decide +kernel
theorem dX3_copy_41 : decode cX3_copy 41 = .ok (.aload_n 1, 1) := by decide +kernel
theorem dX3_copy_42 : decode cX3_copy 42 = .ok (.getfield 21, 3) := by decide +kernel
theorem dX3_copy_45 : decode cX3_copy 45 = .ok (.putfield 21, 3) := by decide +kernel
theorem dX3_copy_48 : decode cX3_copy 48 = .ok (.aload_n 0, 1) := by decide +kernel
theorem dX3_copy_49 : decode cX3_copy 49 = .ok (.aload_n 1, 1) := by decide +kernel
theorem dX3_copy_50 : decode cX3_copy 50 = .ok (.getfield 24, 3) := by decide +kernel
theorem dX3_copy_53 : decode cX3_copy 53 = .ok (.putfield 24, 3) := by decide +kernel
theorem dX3_copy_56 : decode cX3_copy 56 = .ok (.aload_n 0, 1) := by decide +kernel
theorem dX3_copy_57 : decode cX3_copy 57 = .ok (.aload_n 1, 1) := by decide +kernel
theorem dX3_copy_58 : decode cX3_copy 58 = .ok (.getfield 28, 3) := by decide +kernel
theorem dX3_copy_61 : decode cX3_copy 61 = .ok (.putfield 28, 3) := by decide +kernel
theorem dX3_copy_64 : decode cX3_copy 64 = .ok (.aload_n 0, 1) := by decide +kernel
theorem dX3_copy_65 : decode cX3_copy 65 = .ok (.aload_n 1, 1) := by decide +kernel
theorem dX3_copy_66 : decode cX3_copy 66 = .ok (.getfield 31, 3) := by decide +kernel
theorem dX3_copy_69 : decode cX3_copy 69 = .ok (.putfield 31, 3) := by decide +kernel
theorem dX3_copy_72 : decode cX3_copy 72 = .ok (.aload_n 0, 1) := by decide +kernel
theorem dX3_copy_73 : decode cX3_copy 73 = .ok (.aload_n 1, 1) := by decide +kernel
theorem dX3_copy_74 : decode cX3_copy 74 = .ok (.getfield 34, 3) := by decide +kernel
theorem dX3_copy_77 : decode cX3_copy 77 = .ok (.putfield 34, 3) := by decide +kernel
theorem dX3_copy_80 : decode cX3_copy 80 = .ok (.aload_n 0, 1) := by decide +kernel
theorem dX3_copy_81 : decode cX3_copy 81 = .ok (.aload_n 1, 1) := by decide +kernel
theorem dX3_copy_82 : decode cX3_copy 82 = .ok (.getfield 37, 3) := by decide +kernel
theorem dX3_copy_85 : decode cX3_copy 85 = .ok (.putfield 37, 3) := by decide +kernel
theorem dX3_copy_88 : decode cX3_copy 88 = .ok (.aload_n 0, 1) := by decide +kernel
theorem dX3_copy_89 : decode cX3_copy 89 = .ok (.aload_n 1, 1) := by decide +kernel
theorem dX3_copy_90 : decode cX3_copy 90 = .ok (.getfield 40, 3) := by decide +kernel
theorem dX3_copy_93 : decode cX3_copy 93 = .ok (.putfield 40, 3) := by decide +kernel
theorem dX3_copy_96 : decode cX3_copy 96 = .ok (.aload_n 0, 1) := by decide +kernel
theorem dX3_copy_97 : decode cX3_copy 97 = .ok (.aload_n 1, 1) := by decide +kernel
theorem dX3_copy_98 : decode cX3_copy 98 = .ok (.getfield 43, 3) := by decide +kernel
theorem dX3_copy_101 : decode cX3_copy 101 = .ok (.putfield 43, 3) := by decide +kernel
theorem dX3_copy_104 : decode cX3_copy 104 = .ok (.aload_n 0, 1) := by decide +kernel
theorem dX3_copy_105 : decode cX3_copy 105 = .ok (.aload_n 1, 1) := by decide +kernel
theorem dX3_copy_106 : decode cX3_copy 106 = .ok (.getfield 46, 3) := by decide +kernel
theorem dX3_copy_109 : decode cX3_copy 109 = .ok (.putfield 46, 3) := by decide +kernel
theorem dX3_copy_112 : decode cX3_copy 112 = .ok (.aload_n 0, 1) := by decide +kernel
theorem dX3_copy_113 : decode cX3_copy 113 = .ok (.getfield 52, 3) := by decide +kernel
theorem dX3_copy_116 : decode cX3_copy 116 = .ok (.aload_n 1, 1) := by decide +kernel
theorem dX3_copy_117 : decode cX3_copy 117 = .ok (.getfield 52, 3) := by decide +kernel
theorem dX3_copy_120 : decode cX3_copy 120 = .ok (.invokevirtual 65, 3) := by decide +kernel
theorem dX3_copy_123 : decode cX3_copy 123 = .ok (.aload_n 0, 1) := by decide +kernel
theorem dX3_copy_124 : decode cX3_copy 124 = .ok (.getfield 56, 3) := by decide +kernel
theorem dX3_copy_127 : decode cX3_copy 127 = .ok (.aload_n 1, 1) := by decide +kernel
theorem dX3_copy_128 : decode cX3_copy 128 = .ok (.getfield 56, 3) := by decide +kernel
theorem dX3_copy_131 : decode cX3_copy 131 = .ok (.invokevirtual 65, 3) := by decide +kernel
theorem dX3_copy_134 : decode cX3_copy 134 = .ok (.return_, 1) := by decide +kernel
theorem dX3_isAwake_0 : decode cX3_isAwake 0 = .ok (.aload_n 0, 1) := by decide +kernel
theorem dX3_isAwake_1 : decode cX3_isAwake 1 = .ok (.getfield 21, 3) := by decide +kernel
theorem dX3_isAwake_4 : decode cX3_isAwake 4 = .ok (.ifCond .eq 16, 3) := by decide +kernel
theorem dX3_isAwake_7 : decode cX3_isAwake 7 = .ok (.aload_n 0, 1) := by decide +kernel
theorem dX3_isAwake_8 : decode cX3_isAwake 8 = .ok (.getfield 21, 3) := by decide +kernel
theorem dX3_isAwake_11 : decode cX3_isAwake 11 = .ok (.bipush 6, 2) := by decide +kernel
theorem dX3_isAwake_13 : decode cX3_isAwake 13 = .ok (.if_icmp .eq 7, 3) := by decide +kernel
theorem dX3_isAwake_16 : decode cX3_isAwake 16 = .ok (.iconst 1, 1) := by decide +kernel
theorem dX3_isAwake_17 : decode cX3_isAwake 17 = .ok (.goto 4, 3) := by decide +kernel
theorem dX3_isAwake_20 : decode cX3_isAwake 20 = .ok (.iconst 0, 1) := by decide +kernel
theorem dX3_isAwake_21 : decode cX3_isAwake 21 = .ok (.ireturn, 1) := by decide +kernel
theorem dX3_isReadyToSend_0 : decode cX3_isReadyToSend 0 = .ok (.aload_n 0, 1) := by decide +kernel
theorem dX3_isReadyToSend_1 : decode cX3_isReadyToSend 1 = .ok (.getfield 21, 3) := by decide +kernel
theorem dX3_isReadyToSend_4 : decode cX3_isReadyToSend 4 = .ok (.iconst 2, 1) := by decide +kernel
theorem dX3_isReadyToSend_5 : decode cX3_isReadyToSend 5 = .ok (.if_icmp .ne 11, 3) := by decide +kernel
theorem dX3_isReadyToSend_8 : decode cX3_isReadyToSend 8 = .ok (.aload_n 0, 1) := by decide +kernel
theorem dX3_isReadyToSend_9 : decode cX3_isReadyToSend 9 = .ok (.getfield 28, 3) := by decide +kernel
theorem dX3_isReadyToSend_12 : decode cX3_isReadyToSend 12 = .ok (.iconst 1, 1) := by decide +kernel
theorem dX3_isReadyToSend_13 : decode cX3_isReadyToSend 13 = .ok (.if_icmp .ge 19, 3) := by decide +kernel
theorem dX3_isReadyToSend_16 : decode cX3_isReadyToSend 16 = .ok (.aload_n 0, 1) := by decide +kernel
theorem dX3_isReadyToSend_17 : decode cX3_isReadyToSend 17 = .ok (.getfield 21, 3) := by decide +kernel
theorem dX3_isReadyToSend_20 : decode cX3_isReadyToSend 20 = .ok (.iconst 3, 1) := by decide +kernel
theorem dX3_isReadyToSend_21 : decode cX3_isReadyToSend 21 = .ok (.if_icmp .eq 11, 3) := by decide +kernel
theorem dX3_isReadyToSend_24 : decode cX3_isReadyToSend 24 = .ok (.aload_n 0, 1) := by decide +kernel
theorem dX3_isReadyToSend_25 : decode cX3_isReadyToSend 25 = .ok (.getfield 21, 3) := by decide +kernel
theorem dX3_isReadyToSend_28 : decode cX3_isReadyToSend 28 = .ok (.iconst 4, 1) := by decide +kernel
theorem dX3_isReadyToSend_29 : decode cX3_isReadyToSend 29 = .ok (.if_icmp .ne 7, 3) := by decide +kernel
theorem dX3_isReadyToSend_32 : decode cX3_isReadyToSend 32 = .ok (.iconst 1, 1) := by decide +kernel
theorem dX3_isReadyToSend_33 : decode cX3_isReadyToSend 33 = .ok (.goto 4, 3) := by decide +kernel
theorem dX3_isReadyToSend_36 : decode cX3_isReadyToSend 36 = .ok (.iconst 0, 1) := by decide +kernel
theorem dX3_isReadyToSend_37 : decode cX3_isReadyToSend 37 = .ok (.ireturn, 1) := by decide +kernel
theorem dX3_isFirstTurnOfLeader_0 : decode cX3_isFirstTurnOfLeader 0 = .ok (.aload_n 0, 1) := by decide +kernel
theorem dX3_isFirstTurnOfLeader_1 : decode cX3_isFirstTurnOfLeader 1 = .ok (.getfield 21, 3) := by decide +kernel
theorem dX3_isFirstTurnOfLeader_4 : decode cX3_isFirstTurnOfLeader 4 = .ok (.iconst 2, 1) := by decide +kernel
theorem dX3_isFirstTurnOfLeader_5 : decode cX3_isFirstTurnOfLeader 5 = .ok (.if_icmp .ne 15, 3) := by decide +kernel
theorem dX3_isFirstTurnOfLeader_8 : decode cX3_isFirstTurnOfLeader 8 = .ok (.aload_n 0, 1) := by decide +kernel
theorem dX3_isFirstTurnOfLeader_9 : decode cX3_isFirstTurnOfLeader 9 = .ok (.getfield 28, 3) := by decide +kernel
theorem dX3_isFirstTurnOfLeader_12 : decode cX3_isFirstTurnOfLeader 12 = .ok (.iconst 1, 1) := by decide +kernel
theorem dX3_isFirstTurnOfLeader_13 : decode cX3_isFirstTurnOfLeader 13 = .ok (.if_icmp .ne 7, 3) := by decide +kernel
theorem dX3_isFirstTurnOfLeader_16 : decode cX3_isFirstTurnOfLeader 16 = .ok (.iconst 1, 1) := by decide +kernel
theorem dX3_isFirstTurnOfLeader_17 : decode cX3_isFirstTurnOfLeader 17 = .ok (.goto 4, 3) := by decide +kernel
theorem dX3_isFirstTurnOfLeader_20 : decode cX3_isFirstTurnOfLeader 20 = .ok (.iconst 0, 1) := by decide +kernel
theorem dX3_isFirstTurnOfLeader_21 : decode cX3_isFirstTurnOfLeader 21 = .ok (.ireturn, 1) := by decide +kernel
theorem dX3_givesSign_0 : decode cX3_givesSign 0 = .ok (.aload_n 0, 1) := by decide +kernel
theorem dX3_givesSign_1 : decode cX3_givesSign 1 = .ok (.getfield 21, 3) := by decide +kernel
theorem dX3_givesSign_4 : decode cX3_givesSign 4 = .ok (.iconst 2, 1) := by decide +kernel
theorem dX3_givesSign_5 : decode cX3_givesSign 5 = .ok (.if_icmp .ne 14, 3) := by decide +kernel
theorem dX3_givesSign_8 : decode cX3_givesSign 8 = .ok (.aload_n 0, 1) := by decide +kernel
theorem dX3_givesSign_9 : decode cX3_givesSign 9 = .ok (.getfield 28, 3) := by decide +kernel
theorem dX3_givesSign_12 : decode cX3_givesSign 12 = .ok (.ifCond .ne 7, 3) := by decide +kernel
theorem dX3_givesSign_15 : decode cX3_givesSign 15 = .ok (.iconst 1, 1) := by decide +kernel
theorem dX3_givesSign_16 : decode cX3_givesSign 16 = .ok (.goto 4, 3) := by decide +kernel
theorem dX3_givesSign_19 : decode cX3_givesSign 19 = .ok (.iconst 0, 1) := by decide +kernel
theorem dX3_givesSign_20 : decode cX3_givesSign 20 = .ok (.ireturn, 1) := by decide +kernel
theorem dX3_become_0 : decode cX3_become 0 = .ok (.aload_n 0, 1) := by decide +kernel
theorem dX3_become_1 : decode cX3_become 1 = .ok (.iload_n 1, 1) := by decide +kernel
theorem dX3_become_2 : decode cX3_become 2 = .ok (.putfield 21, 3) := by decide +kernel
theorem dX3_become_5 : decode cX3_become 5 = .ok (.aload_n 0, 1) := by decide +kernel
theorem dX3_become_6 : decode cX3_become 6 = .ok (.iconst 1, 1) := by decide +kernel
theorem dX3_become_7 : decode cX3_become 7 = .ok (.putfield 24, 3) := by decide +kernel
theorem dX3_become_10 : decode cX3_become 10 = .ok (.aload_n 0, 1) := by decide +kernel
theorem dX3_become_11 : decode cX3_become 11 = .ok (.iconst 0, 1) := by decide +kernel
theorem dX3_become_12 : decode cX3_become 12 = .ok (.putfield 28, 3) := by decide +kernel
theorem dX3_become_15 : decode cX3_become 15 = .ok (.aload_n 0, 1) := by decide +kernel
theorem dX3_become_16 : decode cX3_become 16 = .ok (.iconst 0, 1) := by decide +kernel
theorem dX3_become_17 : decode cX3_become 17 = .ok (.putfield 31, 3) := by decide +kernel
theorem dX3_become_20 : decode cX3_become 20 = .ok (.aload_n 0, 1) := by decide +kernel
theorem dX3_become_21 : decode cX3_become 21 = .ok (.iconst 0, 1) := by decide +kernel
theorem dX3_become_22 : decode cX3_become 22 = .ok (.putfield 34, 3) := by decide +kernel
theorem dX3_become_25 : decode cX3_become 25 = .ok (.aload_n 0, 1) := by decide +kernel
theorem dX3_become_26 : decode cX3_become 26 = .ok (.iconst 0, 1) := by decide +kernel
theorem dX3_become_27 : decode cX3_become 27 = .ok (.putfield 37, 3) := by decide +kernel
theorem dX3_become_30 : decode cX3_become 30 = .ok (.return_, 1) := by decide +kernel
theorem dX3_beginAnew_0 : decode cX3_beginAnew 0 = .ok (.aload_n 0, 1) := by decide +kernel
theorem dX3_beginAnew_1 : decode cX3_beginAnew 1 = .ok (.iload_n 1, 1) := by decide +kernel
theorem dX3_beginAnew_2 : decode cX3_beginAnew 2 = .ok (.invokevirtual 69, 3) := by decide +kernel
theorem dX3_beginAnew_5 : decode cX3_beginAnew 5 = .ok (.aload_n 0, 1) := by decide +kernel
theorem dX3_beginAnew_6 : decode cX3_beginAnew 6 = .ok (.iload_n 2, 1) := by decide +kernel
theorem dX3_beginAnew_7 : decode cX3_beginAnew 7 = .ok (.putfield 40, 3) := by decide +kernel
theorem dX3_beginAnew_10 : decode cX3_beginAnew 10 = .ok (.aload_n 0, 1) := by decide +kernel
theorem dX3_beginAnew_11 : decode cX3_beginAnew 11 = .ok (.iconst 0, 1) := by decide +kernel
theorem dX3_beginAnew_12 : decode cX3_beginAnew 12 = .ok (.putfield 43, 3) := by decide +kernel
theorem dX3_beginAnew_15 : decode cX3_beginAnew 15 = .ok (.aload_n 0, 1) := by decide +kernel
theorem dX3_beginAnew_16 : decode cX3_beginAnew 16 = .ok (.iconst 0, 1) := by decide +kernel
theorem dX3_beginAnew_17 : decode cX3_beginAnew 17 = .ok (.putfield 46, 3) := by decide +kernel
theorem dX3_beginAnew_20 : decode cX3_beginAnew 20 = .ok (.return_, 1) := by decide +kernel
theorem dX3_turnHearing_0 : decode cX3_turnHearing 0 = .ok (.aload_n 0, 1) := by decide +kernel
theorem dX3_turnHearing_1 : decode cX3_turnHearing 1 = .ok (.getfield 56, 3) := by decide +kernel
theorem dX3_turnHearing_4 : decode cX3_turnHearing 4 = .ok (.astore_n 1, 1) := by decide +kernel
theorem dX3_turnHearing_5 : decode cX3_turnHearing 5 = .ok (.aload_n 0, 1) := by decide +kernel
theorem dX3_turnHearing_6 : decode cX3_turnHearing 6 = .ok (.aload_n 0, 1) := by decide +kernel
theorem dX3_turnHearing_7 : decode cX3_turnHearing 7 = .ok (.getfield 52, 3) := by decide +kernel
theorem dX3_turnHearing_10 : decode cX3_turnHearing 10 = .ok (.putfield 56, 3) := by decide +kernel
theorem dX3_turnHearing_13 : decode cX3_turnHearing 13 = .ok (.aload_n 0, 1) := by decide +kernel
theorem dX3_turnHearing_14 : decode cX3_turnHearing 14 = .ok (.aload_n 1, 1) := by decide +kernel
theorem dX3_turnHearing_15 : decode cX3_turnHearing 15 = .ok (.putfield 52, 3) := by decide +kernel
theorem dX3_turnHearing_18 : decode cX3_turnHearing 18 = .ok (.aload_n 0, 1) := by decide +kernel
theorem dX3_turnHearing_19 : decode cX3_turnHearing 19 = .ok (.getfield 52, 3) := by decide +kernel
theorem dX3_turnHearing_22 : decode cX3_turnHearing 22 = .ok (.invokevirtual 73, 3) := by decide +kernel
theorem dX3_turnHearing_25 : decode cX3_turnHearing 25 = .ok (.return_, 1) := by decide +kernel
theorem dX3_settle_0 : decode cX3_settle 0 = .ok (.aload_n 0, 1) := by decide +kernel
theorem dX3_settle_1 : decode cX3_settle 1 = .ok (.getfield 21, 3) := by decide +kernel
theorem dX3_settle_4 : decode cX3_settle 4 = .ok (.tableswitch 50 1 3 #[28, 36, 43], 28) := by decide +kernel
theorem dX3_settle_32 : decode cX3_settle 32 = .ok (.aload_n 0, 1) := by decide +kernel
theorem dX3_settle_33 : decode cX3_settle 33 = .ok (.iload_n 1, 1) := by decide +kernel
theorem dX3_settle_34 : decode cX3_settle 34 = .ok (.invokevirtual 76, 3) := by decide +kernel
theorem dX3_settle_37 : decode cX3_settle 37 = .ok (.goto 17, 3) := by decide +kernel
theorem dX3_settle_40 : decode cX3_settle 40 = .ok (.aload_n 0, 1) := by decide +kernel
theorem dX3_settle_41 : decode cX3_settle 41 = .ok (.invokevirtual 80, 3) := by decide +kernel
theorem dX3_settle_44 : decode cX3_settle 44 = .ok (.goto 10, 3) := by decide +kernel
theorem dX3_settle_47 : decode cX3_settle 47 = .ok (.aload_n 0, 1) := by decide +kernel
theorem dX3_settle_48 : decode cX3_settle 48 = .ok (.invokevirtual 83, 3) := by decide +kernel
theorem dX3_settle_51 : decode cX3_settle 51 = .ok (.goto 3, 3) := by decide +kernel
theorem dX3_settle_54 : decode cX3_settle 54 = .ok (.return_, 1) := by decide +kernel
theorem dX3_settleListening_0 : decode cX3_settleListening 0 = .ok (.aload_n 0, 1) := by decide +kernel
theorem dX3_settleListening_1 : decode cX3_settleListening 1 = .ok (.aload_n 0, 1) := by decide +kernel
theorem dX3_settleListening_2 : decode cX3_settleListening 2 = .ok (.getfield 52, 3) := by decide +kernel
theorem dX3_settleListening_5 : decode cX3_settleListening 5 = .ok (.getfield 86, 3) := by decide +kernel
theorem dX3_settleListening_8 : decode cX3_settleListening 8 = .ok (.ifCond .ne 16, 3) := by decide +kernel
theorem dX3_settleListening_11 : decode cX3_settleListening 11 = .ok (.iload_n 1, 1) := by decide +kernel
theorem dX3_settleListening_12 : decode cX3_settleListening 12 = .ok (.ifCond .ne 12, 3) := by decide +kernel
theorem dX3_settleListening_15 : decode cX3_settleListening 15 = .ok (.aload_n 0, 1) := by decide +kernel
theorem dX3_settleListening_16 : decode cX3_settleListening 16 = .ok (.getfield 31, 3) := by decide +kernel
theorem dX3_settleListening_19 : decode cX3_settleListening 19 = .ok (.iconst 1, 1) := by decide +kernel
theorem dX3_settleListening_20 : decode cX3_settleListening 20 = .ok (.iadd, 1) := by decide +kernel
theorem dX3_settleListening_21 : decode cX3_settleListening 21 = .ok (.goto 4, 3) := by decide +kernel
theorem dX3_settleListening_24 : decode cX3_settleListening 24 = .ok (.iconst 0, 1) := by decide +kernel
theorem dX3_settleListening_25 : decode cX3_settleListening 25 = .ok (.putfield 31, 3) := by decide +kernel
theorem dX3_settleListening_28 : decode cX3_settleListening 28 = .ok (.aload_n 0, 1) := by decide +kernel
theorem dX3_settleListening_29 : decode cX3_settleListening 29 = .ok (.getfield 59, 3) := by decide +kernel
theorem dX3_settleListening_32 : decode cX3_settleListening 32 = .ok (.iconst 1, 1) := by decide +kernel
theorem dX3_settleListening_33 : decode cX3_settleListening 33 = .ok (.if_icmp .ne 63, 3) := by decide +kernel
theorem dX3_settleListening_36 : decode cX3_settleListening 36 = .ok (.aload_n 0, 1) := by decide +kernel
theorem dX3_settleListening_37 : decode cX3_settleListening 37 = .ok (.getfield 52, 3) := by decide +kernel
theorem dX3_settleListening_40 : decode cX3_settleListening 40 = .ok (.getfield 89, 3) := by decide +kernel
theorem dX3_settleListening_43 : decode cX3_settleListening 43 = .ok (.bipush (-6), 2) := by decide +kernel
theorem dX3_settleListening_45 : decode cX3_settleListening 45 = .ok (.if_icmp .eq 32, 3) := by decide +kernel
theorem dX3_settleListening_48 : decode cX3_settleListening 48 = .ok (.aload_n 0, 1) := by decide +kernel
theorem dX3_settleListening_49 : decode cX3_settleListening 49 = .ok (.getfield 52, 3) := by decide +kernel
theorem dX3_settleListening_52 : decode cX3_settleListening 52 = .ok (.getfield 89, 3) := by decide +kernel
theorem dX3_settleListening_55 : decode cX3_settleListening 55 = .ok (.aload_n 0, 1) := by decide +kernel
theorem dX3_settleListening_56 : decode cX3_settleListening 56 = .ok (.getfield 56, 3) := by decide +kernel
theorem dX3_settleListening_59 : decode cX3_settleListening 59 = .ok (.getfield 89, 3) := by decide +kernel
theorem dX3_settleListening_62 : decode cX3_settleListening 62 = .ok (.if_icmp .ne 15, 3) := by decide +kernel
theorem dX3_settleListening_65 : decode cX3_settleListening 65 = .ok (.aload_n 0, 1) := by decide +kernel
theorem dX3_settleListening_66 : decode cX3_settleListening 66 = .ok (.invokevirtual 92, 3) := by decide +kernel
theorem dX3_settleListening_69 : decode cX3_settleListening 69 = .ok (.aload_n 0, 1) := by decide +kernel
theorem dX3_settleListening_70 : decode cX3_settleListening 70 = .ok (.iconst 3, 1) := by decide +kernel
theorem dX3_settleListening_71 : decode cX3_settleListening 71 = .ok (.invokevirtual 69, 3) := by decide +kernel
theorem dX3_settleListening_74 : decode cX3_settleListening 74 = .ok (.goto 53, 3) := by decide +kernel
theorem dX3_settleListening_77 : decode cX3_settleListening 77 = .ok (.aload_n 0, 1) := by decide +kernel
theorem dX3_settleListening_78 : decode cX3_settleListening 78 = .ok (.getfield 31, 3) := by decide +kernel
theorem dX3_settleListening_81 : decode cX3_settleListening 81 = .ok (.aload_n 0, 1) := by decide +kernel
theorem dX3_settleListening_82 : decode cX3_settleListening 82 = .ok (.getfield 9, 3) := by decide +kernel
theorem dX3_settleListening_85 : decode cX3_settleListening 85 = .ok (.if_icmp .lt 42, 3) := by decide +kernel
theorem dX3_settleListening_88 : decode cX3_settleListening 88 = .ok (.aload_n 0, 1) := by decide +kernel
theorem dX3_settleListening_89 : decode cX3_settleListening 89 = .ok (.iconst 2, 1) := by decide +kernel
theorem dX3_settleListening_90 : decode cX3_settleListening 90 = .ok (.invokevirtual 69, 3) := by decide +kernel
theorem dX3_settleListening_93 : decode cX3_settleListening 93 = .ok (.goto 34, 3) := by decide +kernel
theorem dX3_settleListening_96 : decode cX3_settleListening 96 = .ok (.aload_n 0, 1) := by decide +kernel
theorem dX3_settleListening_97 : decode cX3_settleListening 97 = .ok (.getfield 52, 3) := by decide +kernel
theorem dX3_settleListening_100 : decode cX3_settleListening 100 = .ok (.getfield 95, 3) := by decide +kernel
theorem dX3_settleListening_103 : decode cX3_settleListening 103 = .ok (.iconst 2, 1) := by decide +kernel
theorem dX3_settleListening_104 : decode cX3_settleListening 104 = .ok (.if_icmp .lt 23, 3) := by decide +kernel
theorem dX3_settleListening_107 : decode cX3_settleListening 107 = .ok (.aload_n 0, 1) := by decide +kernel
theorem dX3_settleListening_108 : decode cX3_settleListening 108 = .ok (.getfield 56, 3) := by decide +kernel
theorem dX3_settleListening_111 : decode cX3_settleListening 111 = .ok (.getfield 95, 3) := by decide +kernel
theorem dX3_settleListening_114 : decode cX3_settleListening 114 = .ok (.iconst 2, 1) := by decide +kernel
theorem dX3_settleListening_115 : decode cX3_settleListening 115 = .ok (.if_icmp .lt 12, 3) := by decide +kernel
theorem dX3_settleListening_118 : decode cX3_settleListening 118 = .ok (.aload_n 0, 1) := by decide +kernel
theorem dX3_settleListening_119 : decode cX3_settleListening 119 = .ok (.invokevirtual 92, 3) := by decide +kernel
theorem dX3_settleListening_122 : decode cX3_settleListening 122 = .ok (.aload_n 0, 1) := by decide +kernel
theorem dX3_settleListening_123 : decode cX3_settleListening 123 = .ok (.iconst 4, 1) := by decide +kernel
theorem dX3_settleListening_124 : decode cX3_settleListening 124 = .ok (.invokevirtual 69, 3) := by decide +kernel
theorem dX3_settleListening_127 : decode cX3_settleListening 127 = .ok (.return_, 1) := by decide +kernel
theorem dX3_followGuide_0 : decode cX3_followGuide 0 = .ok (.aload_n 0, 1) := by decide +kernel
theorem dX3_followGuide_1 : decode cX3_followGuide 1 = .ok (.dup, 1) := by decide +kernel
theorem dX3_followGuide_2 : decode cX3_followGuide 2 = .ok (.getfield 40, 3) := by decide +kernel
theorem dX3_followGuide_5 : decode cX3_followGuide 5 = .ok (.aload_n 0, 1) := by decide +kernel
theorem dX3_followGuide_6 : decode cX3_followGuide 6 = .ok (.getfield 52, 3) := by decide +kernel
theorem dX3_followGuide_9 : decode cX3_followGuide 9 = .ok (.getfield 98, 3) := by decide +kernel
theorem dX3_followGuide_12 : decode cX3_followGuide 12 = .ok (.iadd, 1) := by decide +kernel
theorem dX3_followGuide_13 : decode cX3_followGuide 13 = .ok (.putfield 40, 3) := by decide +kernel
theorem dX3_followGuide_16 : decode cX3_followGuide 16 = .ok (.aload_n 0, 1) := by decide +kernel
theorem dX3_followGuide_17 : decode cX3_followGuide 17 = .ok (.aload_n 0, 1) := by decide +kernel
theorem dX3_followGuide_18 : decode cX3_followGuide 18 = .ok (.getfield 52, 3) := by decide +kernel
theorem dX3_followGuide_21 : decode cX3_followGuide 21 = .ok (.getfield 101, 3) := by decide +kernel
theorem dX3_followGuide_24 : decode cX3_followGuide 24 = .ok (.aload_n 0, 1) := by decide +kernel
theorem dX3_followGuide_25 : decode cX3_followGuide 25 = .ok (.getfield 15, 3) := by decide +kernel
theorem dX3_followGuide_28 : decode cX3_followGuide 28 = .ok (.isub, 1) := by decide +kernel
theorem dX3_followGuide_29 : decode cX3_followGuide 29 = .ok (.putfield 43, 3) := by decide +kernel
theorem dX3_followGuide_32 : decode cX3_followGuide 32 = .ok (.return_, 1) := by decide +kernel
theorem dX3_settleLeading_0 : decode cX3_settleLeading 0 = .ok (.aload_n 0, 1) := by decide +kernel
theorem dX3_settleLeading_1 : decode cX3_settleLeading 1 = .ok (.getfield 28, 3) := by decide +kernel
theorem dX3_settleLeading_4 : decode cX3_settleLeading 4 = .ok (.iconst 3, 1) := by decide +kernel
theorem dX3_settleLeading_5 : decode cX3_settleLeading 5 = .ok (.if_icmp .lt 21, 3) := by decide +kernel
theorem dX3_settleLeading_8 : decode cX3_settleLeading 8 = .ok (.aload_n 0, 1) := by decide +kernel
theorem dX3_settleLeading_9 : decode cX3_settleLeading 9 = .ok (.getfield 52, 3) := by decide +kernel
theorem dX3_settleLeading_12 : decode cX3_settleLeading 12 = .ok (.getfield 95, 3) := by decide +kernel
theorem dX3_settleLeading_15 : decode cX3_settleLeading 15 = .ok (.ifCond .le 11, 3) := by decide +kernel
theorem dX3_settleLeading_18 : decode cX3_settleLeading 18 = .ok (.aload_n 0, 1) := by decide +kernel
theorem dX3_settleLeading_19 : decode cX3_settleLeading 19 = .ok (.iconst 4, 1) := by decide +kernel
theorem dX3_settleLeading_20 : decode cX3_settleLeading 20 = .ok (.invokevirtual 69, 3) := by decide +kernel
theorem dX3_settleLeading_23 : decode cX3_settleLeading 23 = .ok (.goto 17, 3) := by decide +kernel
theorem dX3_settleLeading_26 : decode cX3_settleLeading 26 = .ok (.aload_n 0, 1) := by decide +kernel
theorem dX3_settleLeading_27 : decode cX3_settleLeading 27 = .ok (.getfield 28, 3) := by decide +kernel
theorem dX3_settleLeading_30 : decode cX3_settleLeading 30 = .ok (.bipush 7, 2) := by decide +kernel
theorem dX3_settleLeading_32 : decode cX3_settleLeading 32 = .ok (.if_icmp .lt 8, 3) := by decide +kernel
theorem dX3_settleLeading_35 : decode cX3_settleLeading 35 = .ok (.aload_n 0, 1) := by decide +kernel
theorem dX3_settleLeading_36 : decode cX3_settleLeading 36 = .ok (.iconst 1, 1) := by decide +kernel
theorem dX3_settleLeading_37 : decode cX3_settleLeading 37 = .ok (.invokevirtual 69, 3) := by decide +kernel
theorem dX3_settleLeading_40 : decode cX3_settleLeading 40 = .ok (.return_, 1) := by decide +kernel
theorem dX3_settleJoining_0 : decode cX3_settleJoining 0 = .ok (.aload_n 0, 1) := by decide +kernel
theorem dX3_settleJoining_1 : decode cX3_settleJoining 1 = .ok (.getfield 52, 3) := by decide +kernel
theorem dX3_settleJoining_4 : decode cX3_settleJoining 4 = .ok (.getfield 95, 3) := by decide +kernel
theorem dX3_settleJoining_7 : decode cX3_settleJoining 7 = .ok (.ifCond .ne 11, 3) := by decide +kernel
theorem dX3_settleJoining_10 : decode cX3_settleJoining 10 = .ok (.aload_n 0, 1) := by decide +kernel
theorem dX3_settleJoining_11 : decode cX3_settleJoining 11 = .ok (.iconst 1, 1) := by decide +kernel
theorem dX3_settleJoining_12 : decode cX3_settleJoining 12 = .ok (.invokevirtual 69, 3) := by decide +kernel
theorem dX3_settleJoining_15 : decode cX3_settleJoining 15 = .ok (.goto 16, 3) := by decide +kernel
theorem dX3_settleJoining_18 : decode cX3_settleJoining 18 = .ok (.aload_n 0, 1) := by decide +kernel
theorem dX3_settleJoining_19 : decode cX3_settleJoining 19 = .ok (.getfield 28, 3) := by decide +kernel
theorem dX3_settleJoining_22 : decode cX3_settleJoining 22 = .ok (.iconst 2, 1) := by decide +kernel
theorem dX3_settleJoining_23 : decode cX3_settleJoining 23 = .ok (.if_icmp .lt 8, 3) := by decide +kernel
theorem dX3_settleJoining_26 : decode cX3_settleJoining 26 = .ok (.aload_n 0, 1) := by decide +kernel
theorem dX3_settleJoining_27 : decode cX3_settleJoining 27 = .ok (.iconst 4, 1) := by decide +kernel
theorem dX3_settleJoining_28 : decode cX3_settleJoining 28 = .ok (.invokevirtual 69, 3) := by decide +kernel
theorem dX3_settleJoining_31 : decode cX3_settleJoining 31 = .ok (.return_, 1) := by decide +kernel
theorem dX3_correct_0 : decode cX3_correct 0 = .ok (.aload_n 0, 1) := by decide +kernel
theorem dX3_correct_1 : decode cX3_correct 1 = .ok (.getfield 52, 3) := by decide +kernel
theorem dX3_correct_4 : decode cX3_correct 4 = .ok (.aload_n 2, 1) := by decide +kernel
theorem dX3_correct_5 : decode cX3_correct 5 = .ok (.invokevirtual 104, 3) := by decide +kernel
theorem dX3_correct_8 : decode cX3_correct 8 = .ok (.istore_n 3, 1) := by decide +kernel
theorem dX3_correct_9 : decode cX3_correct 9 = .ok (.aload_n 0, 1) := by decide +kernel
theorem dX3_correct_10 : decode cX3_correct 10 = .ok (.getfield 52, 3) := by decide +kernel
theorem dX3_correct_13 : decode cX3_correct 13 = .ok (.getfield 86, 3) := by decide +kernel
theorem dX3_correct_16 : decode cX3_correct 16 = .ok (.ifCond .eq 11, 3) := by decide +kernel
theorem dX3_correct_19 : decode cX3_correct 19 = .ok (.iload_n 3, 1) := by decide +kernel
theorem dX3_correct_20 : decode cX3_correct 20 = .ok (.invokestatic 108, 3) := by decide +kernel
theorem dX3_correct_23 : decode cX3_correct 23 = .ok (.iload_n 1, 1) := by decide +kernel
theorem dX3_correct_24 : decode cX3_correct 24 = .ok (.if_icmp .le 21, 3) := by decide +kernel
theorem dX3_correct_27 : decode cX3_correct 27 = .ok (.aload_n 0, 1) := by decide +kernel
theorem dX3_correct_28 : decode cX3_correct 28 = .ok (.dup, 1) := by decide +kernel
theorem dX3_correct_29 : decode cX3_correct 29 = .ok (.getfield 37, 3) := by decide +kernel
theorem dX3_correct_32 : decode cX3_correct 32 = .ok (.iconst 1, 1) := by decide +kernel
theorem dX3_correct_33 : decode cX3_correct 33 = .ok (.iadd, 1) := by decide +kernel
theorem dX3_correct_34 : decode cX3_correct 34 = .ok (.putfield 37, 3) := by decide +kernel
theorem dX3_correct_37 : decode cX3_correct 37 = .ok (.aload_n 0, 1) := by decide +kernel
theorem dX3_correct_38 : decode cX3_correct 38 = .ok (.iconst 0, 1) := by decide +kernel
theorem dX3_correct_39 : decode cX3_correct 39 = .ok (.putfield 34, 3) := by decide +kernel
theorem dX3_correct_42 : decode cX3_correct 42 = .ok (.goto 63, 3) := by decide +kernel
theorem dX3_correct_45 : decode cX3_correct 45 = .ok (.aload_n 0, 1) := by decide +kernel
theorem dX3_correct_46 : decode cX3_correct 46 = .ok (.dup, 1) := by decide +kernel
theorem dX3_correct_47 : decode cX3_correct 47 = .ok (.getfield 34, 3) := by decide +kernel
theorem dX3_correct_50 : decode cX3_correct 50 = .ok (.iconst 1, 1) := by decide +kernel
theorem dX3_correct_51 : decode cX3_correct 51 = .ok (.iadd, 1) := by decide +kernel
theorem dX3_correct_52 : decode cX3_correct 52 = .ok (.putfield 34, 3) := by decide +kernel
theorem dX3_correct_55 : decode cX3_correct 55 = .ok (.aload_n 0, 1) := by decide +kernel
theorem dX3_correct_56 : decode cX3_correct 56 = .ok (.iconst 0, 1) := by decide +kernel
theorem dX3_correct_57 : decode cX3_correct 57 = .ok (.putfield 37, 3) := by decide +kernel
theorem dX3_correct_60 : decode cX3_correct 60 = .ok (.aload_n 0, 1) := by decide +kernel
theorem dX3_correct_61 : decode cX3_correct 61 = .ok (.dup, 1) := by decide +kernel
theorem dX3_correct_62 : decode cX3_correct 62 = .ok (.getfield 40, 3) := by decide +kernel
theorem dX3_correct_65 : decode cX3_correct 65 = .ok (.iload_n 3, 1) := by decide +kernel
theorem dX3_correct_66 : decode cX3_correct 66 = .ok (.iadd, 1) := by decide +kernel
theorem dX3_correct_67 : decode cX3_correct 67 = .ok (.putfield 40, 3) := by decide +kernel
theorem dX3_correct_70 : decode cX3_correct 70 = .ok (.aload_n 0, 1) := by decide +kernel
theorem dX3_correct_71 : decode cX3_correct 71 = .ok (.getfield 43, 3) := by decide +kernel
theorem dX3_correct_74 : decode cX3_correct 74 = .ok (.aload_n 0, 1) := by decide +kernel
theorem dX3_correct_75 : decode cX3_correct 75 = .ok (.getfield 52, 3) := by decide +kernel
theorem dX3_correct_78 : decode cX3_correct 78 = .ok (.aload_n 0, 1) := by decide +kernel
theorem dX3_correct_79 : decode cX3_correct 79 = .ok (.getfield 56, 3) := by decide +kernel
theorem dX3_correct_82 : decode cX3_correct 82 = .ok (.aload_n 2, 1) := by decide +kernel
theorem dX3_correct_83 : decode cX3_correct 83 = .ok (.invokevirtual 114, 3) := by decide +kernel
theorem dX3_correct_86 : decode cX3_correct 86 = .ok (.iadd, 1) := by decide +kernel
theorem dX3_correct_87 : decode cX3_correct 87 = .ok (.istore 4, 2) := by decide +kernel
theorem dX3_correct_89 : decode cX3_correct 89 = .ok (.aload_n 0, 1) := by decide +kernel
theorem dX3_correct_90 : decode cX3_correct 90 = .ok (.bipush (-100), 2) := by decide +kernel
theorem dX3_correct_92 : decode cX3_correct 92 = .ok (.bipush 100, 2) := by decide +kernel
theorem dX3_correct_94 : decode cX3_correct 94 = .ok (.iload 4, 2) := by decide +kernel
theorem dX3_correct_96 : decode cX3_correct 96 = .ok (.invokestatic 118, 3) := by decide +kernel
theorem dX3_correct_99 : decode cX3_correct 99 = .ok (.invokestatic 122, 3) := by decide +kernel
theorem dX3_correct_102 : decode cX3_correct 102 = .ok (.putfield 43, 3) := by decide +kernel
theorem dX3_correct_105 : decode cX3_correct 105 = .ok (.aload_n 0, 1) := by decide +kernel
theorem dX3_correct_106 : decode cX3_correct 106 = .ok (.getfield 21, 3) := by decide +kernel
theorem dX3_correct_109 : decode cX3_correct 109 = .ok (.iconst 4, 1) := by decide +kernel
theorem dX3_correct_110 : decode cX3_correct 110 = .ok (.if_icmp .ne 18, 3) := by decide +kernel
theorem dX3_correct_113 : decode cX3_correct 113 = .ok (.aload_n 0, 1) := by decide +kernel
theorem dX3_correct_114 : decode cX3_correct 114 = .ok (.getfield 37, 3) := by decide +kernel
theorem dX3_correct_117 : decode cX3_correct 117 = .ok (.ifCond .le 11, 3) := by decide +kernel
theorem dX3_correct_120 : decode cX3_correct 120 = .ok (.aload_n 0, 1) := by decide +kernel
theorem dX3_correct_121 : decode cX3_correct 121 = .ok (.iconst 5, 1) := by decide +kernel
theorem dX3_correct_122 : decode cX3_correct 122 = .ok (.invokevirtual 69, 3) := by decide +kernel
theorem dX3_correct_125 : decode cX3_correct 125 = .ok (.goto 49, 3) := by decide +kernel
theorem dX3_correct_128 : decode cX3_correct 128 = .ok (.aload_n 0, 1) := by decide +kernel
theorem dX3_correct_129 : decode cX3_correct 129 = .ok (.getfield 21, 3) := by decide +kernel
theorem dX3_correct_132 : decode cX3_correct 132 = .ok (.iconst 5, 1) := by decide +kernel
theorem dX3_correct_133 : decode cX3_correct 133 = .ok (.if_icmp .ne 20, 3) := by decide +kernel
theorem dX3_correct_136 : decode cX3_correct 136 = .ok (.aload_n 0, 1) := by decide +kernel
theorem dX3_correct_137 : decode cX3_correct 137 = .ok (.getfield 37, 3) := by decide +kernel
theorem dX3_correct_140 : decode cX3_correct 140 = .ok (.iconst 3, 1) := by decide +kernel
theorem dX3_correct_141 : decode cX3_correct 141 = .ok (.if_icmp .lt 12, 3) := by decide +kernel
theorem dX3_correct_144 : decode cX3_correct 144 = .ok (.aload_n 0, 1) := by decide +kernel
theorem dX3_correct_145 : decode cX3_correct 145 = .ok (.bipush 6, 2) := by decide +kernel
theorem dX3_correct_147 : decode cX3_correct 147 = .ok (.invokevirtual 69, 3) := by decide +kernel
theorem dX3_correct_150 : decode cX3_correct 150 = .ok (.goto 24, 3) := by decide +kernel
theorem dX3_correct_153 : decode cX3_correct 153 = .ok (.aload_n 0, 1) := by decide +kernel
theorem dX3_correct_154 : decode cX3_correct 154 = .ok (.getfield 21, 3) := by decide +kernel
theorem dX3_correct_157 : decode cX3_correct 157 = .ok (.iconst 5, 1) := by decide +kernel
theorem dX3_correct_158 : decode cX3_correct 158 = .ok (.if_icmp .ne 16, 3) := by decide +kernel
theorem dX3_correct_161 : decode cX3_correct 161 = .ok (.aload_n 0, 1) := by decide +kernel
theorem dX3_correct_162 : decode cX3_correct 162 = .ok (.getfield 34, 3) := by decide +kernel
theorem dX3_correct_165 : decode cX3_correct 165 = .ok (.iconst 2, 1) := by decide +kernel
theorem dX3_correct_166 : decode cX3_correct 166 = .ok (.if_icmp .lt 8, 3) := by decide +kernel
theorem dX3_correct_169 : decode cX3_correct 169 = .ok (.aload_n 0, 1) := by decide +kernel
theorem dX3_correct_170 : decode cX3_correct 170 = .ok (.iconst 4, 1) := by decide +kernel
theorem dX3_correct_171 : decode cX3_correct 171 = .ok (.invokevirtual 69, 3) := by decide +kernel
theorem dX3_correct_174 : decode cX3_correct 174 = .ok (.return_, 1) := by decide +kernel
theorem dX4_init_0 : decode cX4_init 0 = .ok (.aload_n 0, 1) := by decide +kernel
theorem dX4_init_1 : decode cX4_init 1 = .ok (.invokespecial 3, 3) := by decide +kernel
theorem dX4_init_4 : decode cX4_init 4 = .ok (.aload_n 0, 1) := by decide +kernel
theorem dX4_init_5 : decode cX4_init 5 = .ok (.bipush 6, 2) := by decide +kernel
theorem dX4_init_7 : decode cX4_init 7 = .ok (.newarray .int, 2) := by decide +kernel
theorem dX4_init_9 : decode cX4_init 9 = .ok (.putfield 9, 3) := by decide +kernel
theorem dX4_init_12 : decode cX4_init 12 = .ok (.aload_n 0, 1) := by decide +kernel
theorem dX4_init_13 : decode cX4_init 13 = .ok (.iconst 0, 1) := by decide +kernel
theorem dX4_init_14 : decode cX4_init 14 = .ok (.putfield 15, 3) := by decide +kernel
theorem dX4_init_17 : decode cX4_init 17 = .ok (.return_, 1) := by decide +kernel
theorem dX4_clear_0 : decode cX4_clear 0 = .ok (.aload_n 0, 1) := by decide +kernel
theorem dX4_clear_1 : decode cX4_clear 1 = .ok (.iconst 0, 1) := by decide +kernel
theorem dX4_clear_2 : decode cX4_clear 2 = .ok (.putfield 15, 3) := by decide +kernel
theorem dX4_clear_5 : decode cX4_clear 5 = .ok (.return_, 1) := by decide +kernel
theorem dX4_put_0 : decode cX4_put 0 = .ok (.aload_n 0, 1) := by decide +kernel
theorem dX4_put_1 : decode cX4_put 1 = .ok (.getfield 15, 3) := by decide +kernel
theorem dX4_put_4 : decode cX4_put 4 = .ok (.ifCond .lt 15, 3) := by decide +kernel
theorem dX4_put_7 : decode cX4_put 7 = .ok (.aload_n 0, 1) := by decide +kernel
theorem dX4_put_8 : decode cX4_put 8 = .ok (.getfield 15, 3) := by decide +kernel
theorem dX4_put_11 : decode cX4_put 11 = .ok (.aload_n 0, 1) := by decide +kernel
theorem dX4_put_12 : decode cX4_put 12 = .ok (.getfield 9, 3) := by decide +kernel
theorem dX4_put_15 : decode cX4_put 15 = .ok (.arraylength, 1) := by decide +kernel
theorem dX4_put_16 : decode cX4_put 16 = .ok (.if_icmp .lt 4, 3) := by decide +kernel
theorem dX4_put_19 : decode cX4_put 19 = .ok (.return_, 1) := by decide +kernel
theorem dX4_put_20 : decode cX4_put 20 = .ok (.aload_n 0, 1) := by decide +kernel
theorem dX4_put_21 : decode cX4_put 21 = .ok (.getfield 15, 3) := by decide +kernel
theorem dX4_put_24 : decode cX4_put 24 = .ok (.istore_n 2, 1) := by decide +kernel
theorem dX4_put_25 : decode cX4_put 25 = .ok (.iload_n 2, 1) := by decide +kernel
theorem dX4_put_26 : decode cX4_put 26 = .ok (.ifCond .le 35, 3) := by decide +kernel
theorem dX4_put_29 : decode cX4_put 29 = .ok (.aload_n 0, 1) := by decide +kernel
theorem dX4_put_30 : decode cX4_put 30 = .ok (.getfield 9, 3) := by decide +kernel
theorem dX4_put_33 : decode cX4_put 33 = .ok (.iload_n 2, 1) := by decide +kernel
theorem dX4_put_34 : decode cX4_put 34 = .ok (.iconst 1, 1) := by decide +kernel
theorem dX4_put_35 : decode cX4_put 35 = .ok (.isub, 1) := by decide +kernel
theorem dX4_put_36 : decode cX4_put 36 = .ok (.iaload, 1) := by decide +kernel
theorem dX4_put_37 : decode cX4_put 37 = .ok (.iload_n 1, 1) := by decide +kernel
theorem dX4_put_38 : decode cX4_put 38 = .ok (.if_icmp .le 23, 3) := by decide +kernel
theorem dX4_put_41 : decode cX4_put 41 = .ok (.aload_n 0, 1) := by decide +kernel
theorem dX4_put_42 : decode cX4_put 42 = .ok (.getfield 9, 3) := by decide +kernel
theorem dX4_put_45 : decode cX4_put 45 = .ok (.iload_n 2, 1) := by decide +kernel
theorem dX4_put_46 : decode cX4_put 46 = .ok (.aload_n 0, 1) := by decide +kernel
theorem dX4_put_47 : decode cX4_put 47 = .ok (.getfield 9, 3) := by decide +kernel
theorem dX4_put_50 : decode cX4_put 50 = .ok (.iload_n 2, 1) := by decide +kernel
theorem dX4_put_51 : decode cX4_put 51 = .ok (.iconst 1, 1) := by decide +kernel
theorem dX4_put_52 : decode cX4_put 52 = .ok (.isub, 1) := by decide +kernel
theorem dX4_put_53 : decode cX4_put 53 = .ok (.iaload, 1) := by decide +kernel
theorem dX4_put_54 : decode cX4_put 54 = .ok (.iastore, 1) := by decide +kernel
theorem dX4_put_55 : decode cX4_put 55 = .ok (.iinc 2 (-1), 3) := by decide +kernel
theorem dX4_put_58 : decode cX4_put 58 = .ok (.goto (-33), 3) := by decide +kernel
theorem dX4_put_61 : decode cX4_put 61 = .ok (.aload_n 0, 1) := by decide +kernel
theorem dX4_put_62 : decode cX4_put 62 = .ok (.getfield 9, 3) := by decide +kernel
theorem dX4_put_65 : decode cX4_put 65 = .ok (.iload_n 2, 1) := by decide +kernel
theorem dX4_put_66 : decode cX4_put 66 = .ok (.iload_n 1, 1) := by decide +kernel
theorem dX4_put_67 : decode cX4_put 67 = .ok (.iastore, 1) := by decide +kernel
theorem dX4_put_68 : decode cX4_put 68 = .ok (.aload_n 0, 1) := by decide +kernel
theorem dX4_put_69 : decode cX4_put 69 = .ok (.dup, 1) := by decide +kernel
theorem dX4_put_70 : decode cX4_put 70 = .ok (.getfield 15, 3) := by decide +kernel
theorem dX4_put_73 : decode cX4_put 73 = .ok (.iconst 1, 1) := by decide +kernel
theorem dX4_put_74 : decode cX4_put 74 = .ok (.iadd, 1) := by decide +kernel
theorem dX4_put_75 : decode cX4_put 75 = .ok (.putfield 15, 3) := by decide +kernel
theorem dX4_put_78 : decode cX4_put 78 = .ok (.return_, 1) := by decide +kernel
theorem dX4_areWithin_0 : decode cX4_areWithin 0 = .ok (.iconst 0, 1) := by decide +kernel
theorem dX4_areWithin_1 : decode cX4_areWithin 1 = .ok (.istore_n 3, 1) := by decide +kernel
theorem dX4_areWithin_2 : decode cX4_areWithin 2 = .ok (.iload_n 3, 1) := by decide +kernel
theorem dX4_areWithin_3 : decode cX4_areWithin 3 = .ok (.aload_n 0, 1) := by decide +kernel
theorem dX4_areWithin_4 : decode cX4_areWithin 4 = .ok (.getfield 15, 3) := by decide +kernel
theorem dX4_areWithin_7 : decode cX4_areWithin 7 = .ok (.if_icmp .ge 34, 3) := by decide +kernel
theorem dX4_areWithin_10 : decode cX4_areWithin 10 = .ok (.iload_n 3, 1) := by decide +kernel
theorem dX4_areWithin_11 : decode cX4_areWithin 11 = .ok (.aload_n 0, 1) := by decide +kernel
theorem dX4_areWithin_12 : decode cX4_areWithin 12 = .ok (.getfield 9, 3) := by decide +kernel
theorem dX4_areWithin_15 : decode cX4_areWithin 15 = .ok (.arraylength, 1) := by decide +kernel
theorem dX4_areWithin_16 : decode cX4_areWithin 16 = .ok (.if_icmp .ge 25, 3) := by decide +kernel
theorem dX4_areWithin_19 : decode cX4_areWithin 19 = .ok (.aload_n 0, 1) := by decide +kernel
theorem dX4_areWithin_20 : decode cX4_areWithin 20 = .ok (.getfield 9, 3) := by decide +kernel
theorem dX4_areWithin_23 : decode cX4_areWithin 23 = .ok (.iload_n 3, 1) := by decide +kernel
theorem dX4_areWithin_24 : decode cX4_areWithin 24 = .ok (.iaload, 1) := by decide +kernel
theorem dX4_areWithin_25 : decode cX4_areWithin 25 = .ok (.iload_n 1, 1) := by decide +kernel
theorem dX4_areWithin_26 : decode cX4_areWithin 26 = .ok (.iload_n 2, 1) := by decide +kernel
theorem dX4_areWithin_27 : decode cX4_areWithin 27 = .ok (.invokestatic 19, 3) := by decide +kernel
theorem dX4_areWithin_30 : decode cX4_areWithin 30 = .ok (.ifCond .ne 5, 3) := by decide +kernel
theorem dX4_areWithin_33 : decode cX4_areWithin 33 = .ok (.iconst 0, 1) := by decide +kernel
theorem dX4_areWithin_34 : decode cX4_areWithin 34 = .ok (.ireturn, 1) := by decide +kernel
theorem dX4_areWithin_35 : decode cX4_areWithin 35 = .ok (.iinc 3 1, 3) := by decide +kernel
theorem dX4_areWithin_38 : decode cX4_areWithin 38 = .ok (.goto (-36), 3) := by decide +kernel
theorem dX4_areWithin_41 : decode cX4_areWithin 41 = .ok (.iconst 1, 1) := by decide +kernel
theorem dX4_areWithin_42 : decode cX4_areWithin 42 = .ok (.ireturn, 1) := by decide +kernel
theorem dX4_trimmed_0 : decode cX4_trimmed 0 = .ok (.aload_n 0, 1) := by decide +kernel
theorem dX4_trimmed_1 : decode cX4_trimmed 1 = .ok (.getfield 15, 3) := by decide +kernel
theorem dX4_trimmed_4 : decode cX4_trimmed 4 = .ok (.iconst 3, 1) := by decide +kernel
theorem dX4_trimmed_5 : decode cX4_trimmed 5 = .ok (.if_icmp .lt 7, 3) := by decide +kernel
theorem dX4_trimmed_8 : decode cX4_trimmed 8 = .ok (.iconst 1, 1) := by decide +kernel
theorem dX4_trimmed_9 : decode cX4_trimmed 9 = .ok (.goto 4, 3) := by decide +kernel
theorem dX4_trimmed_12 : decode cX4_trimmed 12 = .ok (.iconst 0, 1) := by decide +kernel
theorem dX4_trimmed_13 : decode cX4_trimmed 13 = .ok (.istore_n 1, 1) := by decide +kernel
theorem dX4_trimmed_14 : decode cX4_trimmed 14 = .ok (.aload_n 0, 1) := by decide +kernel
theorem dX4_trimmed_15 : decode cX4_trimmed 15 = .ok (.getfield 15, 3) := by decide +kernel
theorem dX4_trimmed_18 : decode cX4_trimmed 18 = .ok (.iconst 1, 1) := by decide +kernel
theorem dX4_trimmed_19 : decode cX4_trimmed 19 = .ok (.isub, 1) := by decide +kernel
theorem dX4_trimmed_20 : decode cX4_trimmed 20 = .ok (.iload_n 1, 1) := by decide +kernel
theorem dX4_trimmed_21 : decode cX4_trimmed 21 = .ok (.isub, 1) := by decide +kernel
theorem dX4_trimmed_22 : decode cX4_trimmed 22 = .ok (.istore_n 2, 1) := by decide +kernel
theorem dX4_trimmed_23 : decode cX4_trimmed 23 = .ok (.iload_n 2, 1) := by decide +kernel
theorem dX4_trimmed_24 : decode cX4_trimmed 24 = .ok (.iload_n 1, 1) := by decide +kernel
theorem dX4_trimmed_25 : decode cX4_trimmed 25 = .ok (.if_icmp .lt 12, 3) := by decide +kernel
theorem dX4_trimmed_28 : decode cX4_trimmed 28 = .ok (.iload_n 2, 1) := by decide +kernel
theorem dX4_trimmed_29 : decode cX4_trimmed 29 = .ok (.aload_n 0, 1) := by decide +kernel
theorem dX4_trimmed_30 : decode cX4_trimmed 30 = .ok (.getfield 9, 3) := by decide +kernel
theorem dX4_trimmed_33 : decode cX4_trimmed 33 = .ok (.arraylength, 1) := by decide +kernel
theorem dX4_trimmed_34 : decode cX4_trimmed 34 = .ok (.if_icmp .lt 5, 3) := by decide +kernel
theorem dX4_trimmed_37 : decode cX4_trimmed 37 = .ok (.iconst 0, 1) := by decide +kernel
theorem dX4_trimmed_38 : decode cX4_trimmed 38 = .ok (.ireturn, 1) := by decide +kernel
theorem dX4_trimmed_39 : decode cX4_trimmed 39 = .ok (.aload_n 0, 1) := by decide +kernel
theorem dX4_trimmed_40 : decode cX4_trimmed 40 = .ok (.getfield 9, 3) := by decide +kernel
theorem dX4_trimmed_43 : decode cX4_trimmed 43 = .ok (.iload_n 1, 1) := by decide +kernel
theorem dX4_trimmed_44 : decode cX4_trimmed 44 = .ok (.iaload, 1) := by decide +kernel
theorem dX4_trimmed_45 : decode cX4_trimmed 45 = .ok (.aload_n 0, 1) := by decide +kernel
theorem dX4_trimmed_46 : decode cX4_trimmed 46 = .ok (.getfield 9, 3) := by decide +kernel
theorem dX4_trimmed_49 : decode cX4_trimmed 49 = .ok (.iload_n 2, 1) := by decide +kernel
theorem dX4_trimmed_50 : decode cX4_trimmed 50 = .ok (.iaload, 1) := by decide +kernel
theorem dX4_trimmed_51 : decode cX4_trimmed 51 = .ok (.iadd, 1) := by decide +kernel
theorem dX4_trimmed_52 : decode cX4_trimmed 52 = .ok (.iconst 2, 1) := by decide +kernel
theorem dX4_trimmed_53 : decode cX4_trimmed 53 = .ok (.idiv, 1) := by decide +kernel
theorem dX4_trimmed_54 : decode cX4_trimmed 54 = .ok (.ireturn, 1) := by decide +kernel
end
section
theorem dX5_init_0 : decode cX5_init 0 = .ok (.aload_n 0, 1) := by decide +kernel
theorem dX5_init_1 : decode cX5_init 1 = .ok (.invokespecial 1, 3) := by decide +kernel
theorem dX5_init_4 : decode cX5_init 4 = .ok (.aload_n 0, 1) := by decide +kernel
theorem dX5_init_5 : decode cX5_init 5 = .ok (.new 7, 3) := by decide +kernel
theorem dX5_init_8 : decode cX5_init 8 = .ok (.dup, 1) := by decide +kernel
theorem dX5_init_9 : decode cX5_init 9 = .ok (.invokespecial 9, 3) := by decide +kernel
theorem dX5_init_12 : decode cX5_init 12 = .ok (.putfield 10, 3) := by decide +kernel
theorem dX5_init_15 : decode cX5_init 15 = .ok (.aload_n 0, 1) := by decide +kernel
theorem dX5_init_16 : decode cX5_init 16 = .ok (.new 7, 3) := by decide +kernel
theorem dX5_init_19 : decode cX5_init 19 = .ok (.dup, 1) := by decide +kernel
theorem dX5_init_20 : decode cX5_init 20 = .ok (.invokespecial 9, 3) := by decide +kernel
theorem dX5_init_23 : decode cX5_init 23 = .ok (.putfield 16, 3) := by decide +kernel
theorem dX5_init_26 : decode cX5_init 26 = .ok (.aload_n 0, 1) := by decide +kernel
theorem dX5_init_27 : decode cX5_init 27 = .ok (.iconst 2, 1) := by decide +kernel
theorem dX5_init_28 : decode cX5_init 28 = .ok (.anewarray 7, 3) := by decide +kernel
theorem dX5_init_31 : decode cX5_init 31 = .ok (.putfield 19, 3) := by decide +kernel
theorem dX5_init_34 : decode cX5_init 34 = .ok (.iconst 0, 1) := by decide +kernel
theorem dX5_init_35 : decode cX5_init 35 = .ok (.istore_n 1, 1) := by decide +kernel
theorem dX5_init_36 : decode cX5_init 36 = .ok (.iload_n 1, 1) := by decide +kernel
theorem dX5_init_37 : decode cX5_init 37 = .ok (.aload_n 0, 1) := by decide +kernel
theorem dX5_init_38 : decode cX5_init 38 = .ok (.getfield 19, 3) := by decide +kernel
theorem dX5_init_41 : decode cX5_init 41 = .ok (.arraylength, 1) := by decide +kernel
theorem dX5_init_42 : decode cX5_init 42 = .ok (.if_icmp .ge 22, 3) := by decide +kernel
theorem dX5_init_45 : decode cX5_init 45 = .ok (.aload_n 0, 1) := by decide +kernel
theorem dX5_init_46 : decode cX5_init 46 = .ok (.getfield 19, 3) := by decide +kernel
theorem dX5_init_49 : decode cX5_init 49 = .ok (.iload_n 1, 1) := by decide +kernel
theorem dX5_init_50 : decode cX5_init 50 = .ok (.new 7, 3) := by decide +kernel
theorem dX5_init_53 : decode cX5_init 53 = .ok (.dup, 1) := by decide +kernel
theorem dX5_init_54 : decode cX5_init 54 = .ok (.invokespecial 9, 3) := by decide +kernel
theorem dX5_init_57 : decode cX5_init 57 = .ok (.aastore, 1) := by decide +kernel
theorem dX5_init_58 : decode cX5_init 58 = .ok (.iinc 1 1, 3) := by decide +kernel
theorem dX5_init_61 : decode cX5_init 61 = .ok (.goto (-25), 3) := by decide +kernel
theorem dX5_init_64 : decode cX5_init 64 = .ok (.aload_n 0, 1) := by decide +kernel
theorem dX5_init_65 : decode cX5_init 65 = .ok (.iconst 0, 1) := by decide +kernel
theorem dX5_init_66 : decode cX5_init 66 = .ok (.putfield 23, 3) := by decide +kernel
theorem dX5_init_69 : decode cX5_init 69 = .ok (.aload_n 0, 1) := by decide +kernel
theorem dX5_init_70 : decode cX5_init 70 = .ok (.new 27, 3) := by decide +kernel
theorem dX5_init_73 : decode cX5_init 73 = .ok (.dup, 1) := by decide +kernel
theorem dX5_init_74 : decode cX5_init 74 = .ok (.invokespecial 29, 3) := by decide +kernel
theorem dX5_init_77 : decode cX5_init 77 = .ok (.putfield 30, 3) := by decide +kernel
theorem dX5_init_80 : decode cX5_init 80 = .ok (.return_, 1) := by decide +kernel
theorem dX5_node_0 : decode cX5_node 0 = .ok (.iload_n 1, 1) := by decide +kernel
theorem dX5_node_1 : decode cX5_node 1 = .ok (.invokestatic 34, 3) := by decide +kernel
theorem dX5_node_4 : decode cX5_node 4 = .ok (.ifCond .ne 5, 3) := by decide +kernel
theorem dX5_node_7 : decode cX5_node 7 = .ok (.iconst (-1), 1) := by decide +kernel
theorem dX5_node_8 : decode cX5_node 8 = .ok (.ireturn, 1) := by decide +kernel
theorem dX5_node_9 : decode cX5_node 9 = .ok (.iload_n 2, 1) := by decide +kernel
theorem dX5_node_10 : decode cX5_node 10 = .ok (.iconst 1, 1) := by decide +kernel
theorem dX5_node_11 : decode cX5_node 11 = .ok (.if_icmp .eq 8, 3) := by decide +kernel
theorem dX5_node_14 : decode cX5_node 14 = .ok (.iload_n 2, 1) := by decide +kernel
theorem dX5_node_15 : decode cX5_node 15 = .ok (.iconst 2, 1) := by decide +kernel
theorem dX5_node_16 : decode cX5_node 16 = .ok (.if_icmp .ne 7, 3) := by decide +kernel
theorem dX5_node_19 : decode cX5_node 19 = .ok (.iconst 1, 1) := by decide +kernel
theorem dX5_node_20 : decode cX5_node 20 = .ok (.goto 4, 3) := by decide +kernel
theorem dX5_node_23 : decode cX5_node 23 = .ok (.iconst 0, 1) := by decide +kernel
theorem dX5_node_24 : decode cX5_node 24 = .ok (.istore 5, 2) := by decide +kernel
theorem dX5_node_26 : decode cX5_node 26 = .ok (.iload 5, 2) := by decide +kernel
theorem dX5_node_28 : decode cX5_node 28 = .ok (.ifCond .eq 24, 3) := by decide +kernel
theorem dX5_node_31 : decode cX5_node 31 = .ok (.iload_n 3, 1) := by decide +kernel
theorem dX5_node_32 : decode cX5_node 32 = .ok (.iconst 1, 1) := by decide +kernel
theorem dX5_node_33 : decode cX5_node 33 = .ok (.bipush 9, 2) := by decide +kernel
theorem dX5_node_35 : decode cX5_node 35 = .ok (.invokestatic 38, 3) := by decide +kernel
theorem dX5_node_38 : decode cX5_node 38 = .ok (.ifCond .eq 14, 3) := by decide +kernel
theorem dX5_node_41 : decode cX5_node 41 = .ok (.iload 4, 2) := by decide +kernel
theorem dX5_node_43 : decode cX5_node 43 = .ok (.iconst 1, 1) := by decide +kernel
theorem dX5_node_44 : decode cX5_node 44 = .ok (.bipush 9, 2) := by decide +kernel
theorem dX5_node_46 : decode cX5_node 46 = .ok (.invokestatic 38, 3) := by decide +kernel
theorem dX5_node_49 : decode cX5_node 49 = .ok (.ifCond .ne 6, 3) := by decide +kernel
theorem dX5_node_52 : decode cX5_node 52 = .ok (.bipush (-2), 2) := by decide +kernel
theorem dX5_node_54 : decode cX5_node 54 = .ok (.ireturn, 1) := by decide +kernel
theorem dX5_node_55 : decode cX5_node 55 = .ok (.aload_n 0, 1) := by decide +kernel
theorem dX5_node_56 : decode cX5_node 56 = .ok (.getfield 10, 3) := by decide +kernel
theorem dX5_node_59 : decode cX5_node 59 = .ok (.getfield 42, 3) := by decide +kernel
theorem dX5_node_62 : decode cX5_node 62 = .ok (.iload_n 1, 1) := by decide +kernel
theorem dX5_node_63 : decode cX5_node 63 = .ok (.aaload, 1) := by decide +kernel
theorem dX5_node_64 : decode cX5_node 64 = .ok (.astore 6, 2) := by decide +kernel
theorem dX5_node_66 : decode cX5_node 66 = .ok (.aload 6, 2) := by decide +kernel
theorem dX5_node_68 : decode cX5_node 68 = .ok (.getfield 46, 3) := by decide +kernel
theorem dX5_node_71 : decode cX5_node 71 = .ok (.ifCond .ne 15, 3) := by decide +kernel
theorem dX5_node_74 : decode cX5_node 74 = .ok (.aload_n 0, 1) := by decide +kernel
theorem dX5_node_75 : decode cX5_node 75 = .ok (.getfield 10, 3) := by decide +kernel
theorem dX5_node_78 : decode cX5_node 78 = .ok (.iload_n 3, 1) := by decide +kernel
theorem dX5_node_79 : decode cX5_node 79 = .ok (.iload_n 1, 1) := by decide +kernel
theorem dX5_node_80 : decode cX5_node 80 = .ok (.invokevirtual 51, 3) := by decide +kernel
theorem dX5_node_83 : decode cX5_node 83 = .ok (.ifCond .eq 6, 3) := by decide +kernel
theorem dX5_node_86 : decode cX5_node 86 = .ok (.bipush (-3), 2) := by decide +kernel
theorem dX5_node_88 : decode cX5_node 88 = .ok (.ireturn, 1) := by decide +kernel
theorem dX5_node_89 : decode cX5_node 89 = .ok (.aload 6, 2) := by decide +kernel
theorem dX5_node_91 : decode cX5_node 91 = .ok (.getfield 55, 3) := by decide +kernel
theorem dX5_node_94 : decode cX5_node 94 = .ok (.istore 7, 2) := by decide +kernel
theorem dX5_node_96 : decode cX5_node 96 = .ok (.aload 6, 2) := by decide +kernel
theorem dX5_node_98 : decode cX5_node 98 = .ok (.iload_n 2, 1) := by decide +kernel
theorem dX5_node_99 : decode cX5_node 99 = .ok (.putfield 58, 3) := by decide +kernel
theorem dX5_node_102 : decode cX5_node 102 = .ok (.aload 6, 2) := by decide +kernel
theorem dX5_node_104 : decode cX5_node 104 = .ok (.iload_n 3, 1) := by decide +kernel
theorem dX5_node_105 : decode cX5_node 105 = .ok (.putfield 55, 3) := by decide +kernel
theorem dX5_node_108 : decode cX5_node 108 = .ok (.aload 6, 2) := by decide +kernel
theorem dX5_node_110 : decode cX5_node 110 = .ok (.iload 4, 2) := by decide +kernel
theorem dX5_node_112 : decode cX5_node 112 = .ok (.putfield 61, 3) := by decide +kernel
theorem dX5_node_115 : decode cX5_node 115 = .ok (.iload 7, 2) := by decide +kernel
theorem dX5_node_117 : decode cX5_node 117 = .ok (.ireturn, 1) := by decide +kernel
theorem dX5_clock_0 : decode cX5_clock 0 = .ok (.iload_n 1, 1) := by decide +kernel
theorem dX5_clock_1 : decode cX5_clock 1 = .ok (.invokestatic 34, 3) := by decide +kernel
theorem dX5_clock_4 : decode cX5_clock 4 = .ok (.ifCond .ne 5, 3) := by decide +kernel
theorem dX5_clock_7 : decode cX5_clock 7 = .ok (.iconst (-1), 1) := by decide +kernel
theorem dX5_clock_8 : decode cX5_clock 8 = .ok (.ireturn, 1) := by decide +kernel
theorem dX5_clock_9 : decode cX5_clock 9 = .ok (.aload_n 0, 1) := by decide +kernel
theorem dX5_clock_10 : decode cX5_clock 10 = .ok (.getfield 10, 3) := by decide +kernel
theorem dX5_clock_13 : decode cX5_clock 13 = .ok (.getfield 42, 3) := by decide +kernel
theorem dX5_clock_16 : decode cX5_clock 16 = .ok (.iload_n 1, 1) := by decide +kernel
theorem dX5_clock_17 : decode cX5_clock 17 = .ok (.aaload, 1) := by decide +kernel
theorem dX5_clock_18 : decode cX5_clock 18 = .ok (.astore 4, 2) := by decide +kernel
theorem dX5_clock_20 : decode cX5_clock 20 = .ok (.iload_n 2, 1) := by decide +kernel
theorem dX5_clock_21 : decode cX5_clock 21 = .ok (.ifCond .ne 34, 3) := by decide +kernel
theorem dX5_clock_24 : decode cX5_clock 24 = .ok (.iload_n 3, 1) := by decide +kernel
theorem dX5_clock_25 : decode cX5_clock 25 = .ok (.bipush (-50), 2) := by decide +kernel
theorem dX5_clock_27 : decode cX5_clock 27 = .ok (.bipush 50, 2) := by decide +kernel
theorem dX5_clock_29 : decode cX5_clock 29 = .ok (.invokestatic 38, 3) := by decide +kernel
theorem dX5_clock_32 : decode cX5_clock 32 = .ok (.ifCond .eq 23, 3) := by decide +kernel
theorem dX5_clock_35 : decode cX5_clock 35 = .ok (.aload 4, 2) := by decide +kernel
theorem dX5_clock_37 : decode cX5_clock 37 = .ok (.getfield 64, 3) := by decide +kernel
theorem dX5_clock_40 : decode cX5_clock 40 = .ok (.istore 5, 2) := by decide +kernel
theorem dX5_clock_42 : decode cX5_clock 42 = .ok (.aload 4, 2) := by decide +kernel
theorem dX5_clock_44 : decode cX5_clock 44 = .ok (.iload_n 3, 1) := by decide +kernel
theorem dX5_clock_45 : decode cX5_clock 45 = .ok (.putfield 64, 3) := by decide +kernel
theorem dX5_clock_48 : decode cX5_clock 48 = .ok (.iload 5, 2) := by decide +kernel
theorem dX5_clock_50 : decode cX5_clock 50 = .ok (.sipush 1000, 3) := by decide +kernel
theorem dX5_clock_53 : decode cX5_clock 53 = .ok (.iadd, 1) := by decide +kernel
theorem dX5_clock_54 : decode cX5_clock 54 = .ok (.ireturn, 1) := by decide +kernel
theorem dX5_clock_55 : decode cX5_clock 55 = .ok (.iload_n 2, 1) := by decide +kernel
theorem dX5_clock_56 : decode cX5_clock 56 = .ok (.iconst 1, 1) := by decide +kernel
theorem dX5_clock_57 : decode cX5_clock 57 = .ok (.if_icmp .ne 36, 3) := by decide +kernel
theorem dX5_clock_60 : decode cX5_clock 60 = .ok (.iload_n 3, 1) := by decide +kernel
theorem dX5_clock_61 : decode cX5_clock 61 = .ok (.sipush (-400), 3) := by decide +kernel
theorem dX5_clock_64 : decode cX5_clock 64 = .ok (.sipush 400, 3) := by decide +kernel
theorem dX5_clock_67 : decode cX5_clock 67 = .ok (.invokestatic 38, 3) := by decide +kernel
theorem dX5_clock_70 : decode cX5_clock 70 = .ok (.ifCond .eq 23, 3) := by decide +kernel
theorem dX5_clock_73 : decode cX5_clock 73 = .ok (.aload 4, 2) := by decide +kernel
theorem dX5_clock_75 : decode cX5_clock 75 = .ok (.getfield 67, 3) := by decide +kernel
theorem dX5_clock_78 : decode cX5_clock 78 = .ok (.istore 5, 2) := by decide +kernel
theorem dX5_clock_80 : decode cX5_clock 80 = .ok (.aload 4, 2) := by decide +kernel
theorem dX5_clock_82 : decode cX5_clock 82 = .ok (.iload_n 3, 1) := by decide +kernel
theorem dX5_clock_83 : decode cX5_clock 83 = .ok (.putfield 67, 3) := by decide +kernel
theorem dX5_clock_86 : decode cX5_clock 86 = .ok (.iload 5, 2) := by decide +kernel
theorem dX5_clock_88 : decode cX5_clock 88 = .ok (.sipush 1000, 3) := by decide +kernel
theorem dX5_clock_91 : decode cX5_clock 91 = .ok (.iadd, 1) := by decide +kernel
theorem dX5_clock_92 : decode cX5_clock 92 = .ok (.ireturn, 1) := by decide +kernel
theorem dX5_clock_93 : decode cX5_clock 93 = .ok (.bipush (-2), 2) := by decide +kernel
theorem dX5_clock_95 : decode cX5_clock 95 = .ok (.ireturn, 1) := by decide +kernel
theorem dX5_bound_0 : decode cX5_bound 0 = .ok (.iload_n 1, 1) := by decide +kernel
theorem dX5_bound_1 : decode cX5_bound 1 = .ok (.iconst 0, 1) := by decide +kernel
theorem dX5_bound_2 : decode cX5_bound 2 = .ok (.sipush 500, 3) := by decide +kernel
theorem dX5_bound_5 : decode cX5_bound 5 = .ok (.invokestatic 38, 3) := by decide +kernel
theorem dX5_bound_8 : decode cX5_bound 8 = .ok (.ifCond .ne 6, 3) := by decide +kernel
theorem dX5_bound_11 : decode cX5_bound 11 = .ok (.bipush (-2), 2) := by decide +kernel
theorem dX5_bound_13 : decode cX5_bound 13 = .ok (.ireturn, 1) := by decide +kernel
theorem dX5_bound_14 : decode cX5_bound 14 = .ok (.aload_n 0, 1) := by decide +kernel
theorem dX5_bound_15 : decode cX5_bound 15 = .ok (.getfield 10, 3) := by decide +kernel
theorem dX5_bound_18 : decode cX5_bound 18 = .ok (.getfield 70, 3) := by decide +kernel
theorem dX5_bound_21 : decode cX5_bound 21 = .ok (.istore_n 2, 1) := by decide +kernel
theorem dX5_bound_22 : decode cX5_bound 22 = .ok (.aload_n 0, 1) := by decide +kernel
theorem dX5_bound_23 : decode cX5_bound 23 = .ok (.getfield 10, 3) := by decide +kernel
theorem dX5_bound_26 : decode cX5_bound 26 = .ok (.iload_n 1, 1) := by decide +kernel
theorem dX5_bound_27 : decode cX5_bound 27 = .ok (.putfield 70, 3) := by decide +kernel
theorem dX5_bound_30 : decode cX5_bound 30 = .ok (.iload_n 2, 1) := by decide +kernel
theorem dX5_bound_31 : decode cX5_bound 31 = .ok (.ireturn, 1) := by decide +kernel
theorem dX5_wake_0 : decode cX5_wake 0 = .ok (.iload_n 1, 1) := by decide +kernel
theorem dX5_wake_1 : decode cX5_wake 1 = .ok (.invokestatic 34, 3) := by decide +kernel
theorem dX5_wake_4 : decode cX5_wake 4 = .ok (.ifCond .ne 5, 3) := by decide +kernel
theorem dX5_wake_7 : decode cX5_wake 7 = .ok (.iconst (-1), 1) := by decide +kernel
theorem dX5_wake_8 : decode cX5_wake 8 = .ok (.ireturn, 1) := by decide +kernel
theorem dX5_wake_9 : decode cX5_wake 9 = .ok (.iload_n 2, 1) := by decide +kernel
theorem dX5_wake_10 : decode cX5_wake 10 = .ok (.sipush (-500), 3) := by decide +kernel
theorem dX5_wake_13 : decode cX5_wake 13 = .ok (.sipush 500, 3) := by decide +kernel
theorem dX5_wake_16 : decode cX5_wake 16 = .ok (.invokestatic 38, 3) := by decide +kernel
theorem dX5_wake_19 : decode cX5_wake 19 = .ok (.ifCond .ne 6, 3) := by decide +kernel
theorem dX5_wake_22 : decode cX5_wake 22 = .ok (.bipush (-2), 2) := by decide +kernel
theorem dX5_wake_24 : decode cX5_wake 24 = .ok (.ireturn, 1) := by decide +kernel
theorem dX5_wake_25 : decode cX5_wake 25 = .ok (.aload_n 0, 1) := by decide +kernel
theorem dX5_wake_26 : decode cX5_wake 26 = .ok (.getfield 10, 3) := by decide +kernel
theorem dX5_wake_29 : decode cX5_wake 29 = .ok (.getfield 42, 3) := by decide +kernel
theorem dX5_wake_32 : decode cX5_wake 32 = .ok (.iload_n 1, 1) := by decide +kernel
theorem dX5_wake_33 : decode cX5_wake 33 = .ok (.aaload, 1) := by decide +kernel
theorem dX5_wake_34 : decode cX5_wake 34 = .ok (.astore_n 3, 1) := by decide +kernel
theorem dX5_wake_35 : decode cX5_wake 35 = .ok (.aload_n 3, 1) := by decide +kernel
theorem dX5_wake_36 : decode cX5_wake 36 = .ok (.invokevirtual 73, 3) := by decide +kernel
theorem dX5_wake_39 : decode cX5_wake 39 = .ok (.ifCond .eq 6, 3) := by decide +kernel
theorem dX5_wake_42 : decode cX5_wake 42 = .ok (.bipush (-3), 2) := by decide +kernel
theorem dX5_wake_44 : decode cX5_wake 44 = .ok (.ireturn, 1) := by decide +kernel
theorem dX5_wake_45 : decode cX5_wake 45 = .ok (.aload_n 3, 1) := by decide +kernel
theorem dX5_wake_46 : decode cX5_wake 46 = .ok (.iconst 1, 1) := by decide +kernel
theorem dX5_wake_47 : decode cX5_wake 47 = .ok (.iload_n 2, 1) := by decide +kernel
theorem dX5_wake_48 : decode cX5_wake 48 = .ok (.invokevirtual 77, 3) := by decide +kernel
theorem dX5_wake_51 : decode cX5_wake 51 = .ok (.aload_n 0, 1) := by decide +kernel
theorem dX5_wake_52 : decode cX5_wake 52 = .ok (.getfield 10, 3) := by decide +kernel
theorem dX5_wake_55 : decode cX5_wake 55 = .ok (.invokevirtual 81, 3) := by decide +kernel
theorem dX5_wake_58 : decode cX5_wake 58 = .ok (.invokestatic 85, 3) := by decide +kernel
theorem dX5_wake_61 : decode cX5_wake 61 = .ok (.ireturn, 1) := by decide +kernel
theorem dX5_off_0 : decode cX5_off 0 = .ok (.iload_n 1, 1) := by decide +kernel
theorem dX5_off_1 : decode cX5_off 1 = .ok (.invokestatic 34, 3) := by decide +kernel
theorem dX5_off_4 : decode cX5_off 4 = .ok (.ifCond .ne 5, 3) := by decide +kernel
theorem dX5_off_7 : decode cX5_off 7 = .ok (.iconst (-1), 1) := by decide +kernel
theorem dX5_off_8 : decode cX5_off 8 = .ok (.ireturn, 1) := by decide +kernel
theorem dX5_off_9 : decode cX5_off 9 = .ok (.aload_n 0, 1) := by decide +kernel
theorem dX5_off_10 : decode cX5_off 10 = .ok (.getfield 10, 3) := by decide +kernel
theorem dX5_off_13 : decode cX5_off 13 = .ok (.getfield 42, 3) := by decide +kernel
theorem dX5_off_16 : decode cX5_off 16 = .ok (.iload_n 1, 1) := by decide +kernel
theorem dX5_off_17 : decode cX5_off 17 = .ok (.aaload, 1) := by decide +kernel
theorem dX5_off_18 : decode cX5_off 18 = .ok (.astore_n 2, 1) := by decide +kernel
theorem dX5_off_19 : decode cX5_off 19 = .ok (.aload_n 2, 1) := by decide +kernel
theorem dX5_off_20 : decode cX5_off 20 = .ok (.getfield 46, 3) := by decide +kernel
theorem dX5_off_23 : decode cX5_off 23 = .ok (.istore_n 3, 1) := by decide +kernel
theorem dX5_off_24 : decode cX5_off 24 = .ok (.aload_n 2, 1) := by decide +kernel
theorem dX5_off_25 : decode cX5_off 25 = .ok (.iconst 0, 1) := by decide +kernel
theorem dX5_off_26 : decode cX5_off 26 = .ok (.iconst 0, 1) := by decide +kernel
theorem dX5_off_27 : decode cX5_off 27 = .ok (.invokevirtual 77, 3) := by decide +kernel
theorem dX5_off_30 : decode cX5_off 30 = .ok (.iload_n 3, 1) := by decide +kernel
theorem dX5_off_31 : decode cX5_off 31 = .ok (.ireturn, 1) := by decide +kernel
theorem dX5_run_0 : decode cX5_run 0 = .ok (.iload_n 1, 1) := by decide +kernel
theorem dX5_run_1 : decode cX5_run 1 = .ok (.iconst 1, 1) := by decide +kernel
theorem dX5_run_2 : decode cX5_run 2 = .ok (.bipush 50, 2) := by decide +kernel
theorem dX5_run_4 : decode cX5_run 4 = .ok (.invokestatic 38, 3) := by decide +kernel
theorem dX5_run_7 : decode cX5_run 7 = .ok (.ifCond .ne 6, 3) := by decide +kernel
theorem dX5_run_10 : decode cX5_run 10 = .ok (.bipush (-2), 2) := by decide +kernel
theorem dX5_run_12 : decode cX5_run 12 = .ok (.ireturn, 1) := by decide +kernel
theorem dX5_run_13 : decode cX5_run 13 = .ok (.iconst 0, 1) := by decide +kernel
theorem dX5_run_14 : decode cX5_run 14 = .ok (.istore_n 2, 1) := by decide +kernel
theorem dX5_run_15 : decode cX5_run 15 = .ok (.iload_n 2, 1) := by decide +kernel
theorem dX5_run_16 : decode cX5_run 16 = .ok (.iload_n 1, 1) := by decide +kernel
theorem dX5_run_17 : decode cX5_run 17 = .ok (.if_icmp .ge 16, 3) := by decide +kernel
theorem dX5_run_20 : decode cX5_run 20 = .ok (.aload_n 0, 1) := by decide +kernel
theorem dX5_run_21 : decode cX5_run 21 = .ok (.getfield 10, 3) := by decide +kernel
theorem dX5_run_24 : decode cX5_run 24 = .ok (.invokevirtual 91, 3) := by decide +kernel
theorem dX5_run_27 : decode cX5_run 27 = .ok (.iinc 2 1, 3) := by decide +kernel
theorem dX5_run_30 : decode cX5_run 30 = .ok (.goto (-15), 3) := by decide +kernel
theorem dX5_run_33 : decode cX5_run 33 = .ok (.aload_n 0, 1) := by decide +kernel
theorem dX5_run_34 : decode cX5_run 34 = .ok (.getfield 10, 3) := by decide +kernel
theorem dX5_run_37 : decode cX5_run 37 = .ok (.iconst 4, 1) := by decide +kernel
theorem dX5_run_38 : decode cX5_run 38 = .ok (.invokevirtual 94, 3) := by decide +kernel
theorem dX5_run_41 : decode cX5_run 41 = .ok (.ireturn, 1) := by decide +kernel
theorem dX5_told_0 : decode cX5_told 0 = .ok (.iload_n 1, 1) := by decide +kernel
theorem dX5_told_1 : decode cX5_told 1 = .ok (.invokestatic 34, 3) := by decide +kernel
theorem dX5_told_4 : decode cX5_told 4 = .ok (.ifCond .ne 5, 3) := by decide +kernel
theorem dX5_told_7 : decode cX5_told 7 = .ok (.iconst (-1), 1) := by decide +kernel
theorem dX5_told_8 : decode cX5_told 8 = .ok (.ireturn, 1) := by decide +kernel
theorem dX5_told_9 : decode cX5_told 9 = .ok (.aload_n 0, 1) := by decide +kernel
theorem dX5_told_10 : decode cX5_told 10 = .ok (.getfield 10, 3) := by decide +kernel
theorem dX5_told_13 : decode cX5_told 13 = .ok (.getfield 42, 3) := by decide +kernel
theorem dX5_told_16 : decode cX5_told 16 = .ok (.iload_n 1, 1) := by decide +kernel
theorem dX5_told_17 : decode cX5_told 17 = .ok (.aaload, 1) := by decide +kernel
theorem dX5_told_18 : decode cX5_told 18 = .ok (.astore_n 3, 1) := by decide +kernel
theorem dX5_told_19 : decode cX5_told 19 = .ok (.iload_n 2, 1) := by decide +kernel
theorem dX5_told_20 : decode cX5_told 20 = .ok (.tableswitch 122 0 9 #[56, 61, 66, 71, 76, 81, 89, 98, 103, 111], 56) := by decide +kernel
theorem dX5_told_76 : decode cX5_told 76 = .ok (.aload_n 3, 1) := by decide +kernel
theorem dX5_told_77 : decode cX5_told 77 = .ok (.getfield 46, 3) := by decide +kernel
theorem dX5_told_80 : decode cX5_told 80 = .ok (.ireturn, 1) := by decide +kernel
theorem dX5_told_81 : decode cX5_told 81 = .ok (.aload_n 3, 1) := by decide +kernel
theorem dX5_told_82 : decode cX5_told 82 = .ok (.getfield 97, 3) := by decide +kernel
theorem dX5_told_85 : decode cX5_told 85 = .ok (.ireturn, 1) := by decide +kernel
theorem dX5_told_86 : decode cX5_told 86 = .ok (.aload_n 3, 1) := by decide +kernel
theorem dX5_told_87 : decode cX5_told 87 = .ok (.getfield 100, 3) := by decide +kernel
theorem dX5_told_90 : decode cX5_told 90 = .ok (.ireturn, 1) := by decide +kernel
theorem dX5_told_91 : decode cX5_told 91 = .ok (.aload_n 3, 1) := by decide +kernel
theorem dX5_told_92 : decode cX5_told 92 = .ok (.getfield 103, 3) := by decide +kernel
theorem dX5_told_95 : decode cX5_told 95 = .ok (.ireturn, 1) := by decide +kernel
theorem dX5_told_96 : decode cX5_told 96 = .ok (.aload_n 3, 1) := by decide +kernel
theorem dX5_told_97 : decode cX5_told 97 = .ok (.getfield 106, 3) := by decide +kernel
theorem dX5_told_100 : decode cX5_told 100 = .ok (.ireturn, 1) := by decide +kernel
theorem dX5_told_101 : decode cX5_told 101 = .ok (.aload_n 3, 1) := by decide +kernel
theorem dX5_told_102 : decode cX5_told 102 = .ok (.getfield 109, 3) := by decide +kernel
theorem dX5_told_105 : decode cX5_told 105 = .ok (.ldc 112, 2) := by decide +kernel
theorem dX5_told_107 : decode cX5_told 107 = .ok (.iadd, 1) := by decide +kernel
theorem dX5_told_108 : decode cX5_told 108 = .ok (.ireturn, 1) := by decide +kernel
theorem dX5_told_109 : decode cX5_told 109 = .ok (.aload_n 3, 1) := by decide +kernel
theorem dX5_told_110 : decode cX5_told 110 = .ok (.getfield 113, 3) := by decide +kernel
theorem dX5_told_113 : decode cX5_told 113 = .ok (.sipush 1000, 3) := by decide +kernel
theorem dX5_told_116 : decode cX5_told 116 = .ok (.iadd, 1) := by decide +kernel
theorem dX5_told_117 : decode cX5_told 117 = .ok (.ireturn, 1) := by decide +kernel
theorem dX5_told_118 : decode cX5_told 118 = .ok (.aload_n 3, 1) := by decide +kernel
theorem dX5_told_119 : decode cX5_told 119 = .ok (.getfield 116, 3) := by decide +kernel
theorem dX5_told_122 : decode cX5_told 122 = .ok (.ireturn, 1) := by decide +kernel
theorem dX5_told_123 : decode cX5_told 123 = .ok (.aload_n 3, 1) := by decide +kernel
theorem dX5_told_124 : decode cX5_told 124 = .ok (.getfield 119, 3) := by decide +kernel
theorem dX5_told_127 : decode cX5_told 127 = .ok (.getfield 123, 3) := by decide +kernel
theorem dX5_told_130 : decode cX5_told 130 = .ok (.ireturn, 1) := by decide +kernel
theorem dX5_told_131 : decode cX5_told 131 = .ok (.aload_n 3, 1) := by decide +kernel
theorem dX5_told_132 : decode cX5_told 132 = .ok (.getfield 119, 3) := by decide +kernel
theorem dX5_told_135 : decode cX5_told 135 = .ok (.getfield 128, 3) := by decide +kernel
theorem dX5_told_138 : decode cX5_told 138 = .ok (.invokestatic 85, 3) := by decide +kernel
theorem dX5_told_141 : decode cX5_told 141 = .ok (.ireturn, 1) := by decide +kernel
theorem dX5_told_142 : decode cX5_told 142 = .ok (.bipush (-2), 2) := by decide +kernel
theorem dX5_told_144 : decode cX5_told 144 = .ok (.ireturn, 1) := by decide +kernel
theorem dX5_seen_0 : decode cX5_seen 0 = .ok (.iload_n 1, 1) := by decide +kernel
theorem dX5_seen_1 : decode cX5_seen 1 = .ok (.invokestatic 34, 3) := by decide +kernel
theorem dX5_seen_4 : decode cX5_seen 4 = .ok (.ifCond .eq 10, 3) := by decide +kernel
theorem dX5_seen_7 : decode cX5_seen 7 = .ok (.iload_n 2, 1) := by decide +kernel
theorem dX5_seen_8 : decode cX5_seen 8 = .ok (.invokestatic 34, 3) := by decide +kernel
theorem dX5_seen_11 : decode cX5_seen 11 = .ok (.ifCond .ne 5, 3) := by decide +kernel
theorem dX5_seen_14 : decode cX5_seen 14 = .ok (.iconst (-1), 1) := by decide +kernel
theorem dX5_seen_15 : decode cX5_seen 15 = .ok (.ireturn, 1) := by decide +kernel
theorem dX5_seen_16 : decode cX5_seen 16 = .ok (.iload_n 1, 1) := by decide +kernel
theorem dX5_seen_17 : decode cX5_seen 17 = .ok (.iload_n 2, 1) := by decide +kernel
theorem dX5_seen_18 : decode cX5_seen 18 = .ok (.if_icmp .ne 6, 3) := by decide +kernel
theorem dX5_seen_21 : decode cX5_seen 21 = .ok (.bipush (-2), 2) := by decide +kernel
theorem dX5_seen_23 : decode cX5_seen 23 = .ok (.ireturn, 1) := by decide +kernel
theorem dX5_seen_24 : decode cX5_seen 24 = .ok (.aload_n 0, 1) := by decide +kernel
theorem dX5_seen_25 : decode cX5_seen 25 = .ok (.getfield 10, 3) := by decide +kernel
theorem dX5_seen_28 : decode cX5_seen 28 = .ok (.getfield 42, 3) := by decide +kernel
theorem dX5_seen_31 : decode cX5_seen 31 = .ok (.iload_n 1, 1) := by decide +kernel
theorem dX5_seen_32 : decode cX5_seen 32 = .ok (.aaload, 1) := by decide +kernel
theorem dX5_seen_33 : decode cX5_seen 33 = .ok (.getfield 119, 3) := by decide +kernel
theorem dX5_seen_36 : decode cX5_seen 36 = .ok (.astore_n 3, 1) := by decide +kernel
theorem dX5_seen_37 : decode cX5_seen 37 = .ok (.aload_n 3, 1) := by decide +kernel
theorem dX5_seen_38 : decode cX5_seen 38 = .ok (.getfield 128, 3) := by decide +kernel
theorem dX5_seen_41 : decode cX5_seen 41 = .ok (.iload_n 2, 1) := by decide +kernel
theorem dX5_seen_42 : decode cX5_seen 42 = .ok (.invokestatic 131, 3) := by decide +kernel
theorem dX5_seen_45 : decode cX5_seen 45 = .ok (.ifCond .eq 15, 3) := by decide +kernel
theorem dX5_seen_48 : decode cX5_seen 48 = .ok (.aload_n 3, 1) := by decide +kernel
theorem dX5_seen_49 : decode cX5_seen 49 = .ok (.getfield 134, 3) := by decide +kernel
theorem dX5_seen_52 : decode cX5_seen 52 = .ok (.iload_n 2, 1) := by decide +kernel
theorem dX5_seen_53 : decode cX5_seen 53 = .ok (.iaload, 1) := by decide +kernel
theorem dX5_seen_54 : decode cX5_seen 54 = .ok (.ldc 112, 2) := by decide +kernel
theorem dX5_seen_56 : decode cX5_seen 56 = .ok (.iadd, 1) := by decide +kernel
theorem dX5_seen_57 : decode cX5_seen 57 = .ok (.goto 5, 3) := by decide +kernel
theorem dX5_seen_60 : decode cX5_seen 60 = .ok (.bipush (-6), 2) := by decide +kernel
theorem dX5_seen_62 : decode cX5_seen 62 = .ok (.ireturn, 1) := by decide +kernel
theorem dX5_trim_0 : decode cX5_trim 0 = .ok (.iload_n 1, 1) := by decide +kernel
theorem dX5_trim_1 : decode cX5_trim 1 = .ok (.iconst 1, 1) := by decide +kernel
theorem dX5_trim_2 : decode cX5_trim 2 = .ok (.iconst 4, 1) := by decide +kernel
theorem dX5_trim_3 : decode cX5_trim 3 = .ok (.invokestatic 38, 3) := by decide +kernel
theorem dX5_trim_6 : decode cX5_trim 6 = .ok (.ifCond .ne 6, 3) := by decide +kernel
theorem dX5_trim_9 : decode cX5_trim 9 = .ok (.bipush (-2), 2) := by decide +kernel
theorem dX5_trim_11 : decode cX5_trim 11 = .ok (.ireturn, 1) := by decide +kernel
theorem dX5_trim_12 : decode cX5_trim 12 = .ok (.aload_n 0, 1) := by decide +kernel
theorem dX5_trim_13 : decode cX5_trim 13 = .ok (.getfield 30, 3) := by decide +kernel
theorem dX5_trim_16 : decode cX5_trim 16 = .ok (.invokevirtual 138, 3) := by decide +kernel
theorem dX5_trim_19 : decode cX5_trim 19 = .ok (.aload_n 0, 1) := by decide +kernel
theorem dX5_trim_20 : decode cX5_trim 20 = .ok (.getfield 30, 3) := by decide +kernel
theorem dX5_trim_23 : decode cX5_trim 23 = .ok (.iload_n 2, 1) := by decide +kernel
theorem dX5_trim_24 : decode cX5_trim 24 = .ok (.invokevirtual 141, 3) := by decide +kernel
theorem dX5_trim_27 : decode cX5_trim 27 = .ok (.iload_n 1, 1) := by decide +kernel
theorem dX5_trim_28 : decode cX5_trim 28 = .ok (.iconst 2, 1) := by decide +kernel
theorem dX5_trim_29 : decode cX5_trim 29 = .ok (.if_icmp .lt 11, 3) := by decide +kernel
theorem dX5_trim_32 : decode cX5_trim 32 = .ok (.aload_n 0, 1) := by decide +kernel
theorem dX5_trim_33 : decode cX5_trim 33 = .ok (.getfield 30, 3) := by decide +kernel
theorem dX5_trim_36 : decode cX5_trim 36 = .ok (.iload_n 3, 1) := by decide +kernel
theorem dX5_trim_37 : decode cX5_trim 37 = .ok (.invokevirtual 141, 3) := by decide +kernel
theorem dX5_trim_40 : decode cX5_trim 40 = .ok (.iload_n 1, 1) := by decide +kernel
theorem dX5_trim_41 : decode cX5_trim 41 = .ok (.iconst 3, 1) := by decide +kernel
theorem dX5_trim_42 : decode cX5_trim 42 = .ok (.if_icmp .lt 12, 3) := by decide +kernel
theorem dX5_trim_45 : decode cX5_trim 45 = .ok (.aload_n 0, 1) := by decide +kernel
theorem dX5_trim_46 : decode cX5_trim 46 = .ok (.getfield 30, 3) := by decide +kernel
theorem dX5_trim_49 : decode cX5_trim 49 = .ok (.iload 4, 2) := by decide +kernel
theorem dX5_trim_51 : decode cX5_trim 51 = .ok (.invokevirtual 141, 3) := by decide +kernel
theorem dX5_trim_54 : decode cX5_trim 54 = .ok (.iload_n 1, 1) := by decide +kernel
theorem dX5_trim_55 : decode cX5_trim 55 = .ok (.iconst 4, 1) := by decide +kernel
theorem dX5_trim_56 : decode cX5_trim 56 = .ok (.if_icmp .lt 12, 3) := by decide +kernel
theorem dX5_trim_59 : decode cX5_trim 59 = .ok (.aload_n 0, 1) := by decide +kernel
theorem dX5_trim_60 : decode cX5_trim 60 = .ok (.getfield 30, 3) := by decide +kernel
theorem dX5_trim_63 : decode cX5_trim 63 = .ok (.iload 5, 2) := by decide +kernel
theorem dX5_trim_65 : decode cX5_trim 65 = .ok (.invokevirtual 141, 3) := by decide +kernel
theorem dX5_trim_68 : decode cX5_trim 68 = .ok (.aload_n 0, 1) := by decide +kernel
theorem dX5_trim_69 : decode cX5_trim 69 = .ok (.getfield 30, 3) := by decide +kernel
theorem dX5_trim_72 : decode cX5_trim 72 = .ok (.sipush (-5000), 3) := by decide +kernel
theorem dX5_trim_75 : decode cX5_trim 75 = .ok (.sipush 5000, 3) := by decide +kernel
theorem dX5_trim_78 : decode cX5_trim 78 = .ok (.invokevirtual 145, 3) := by decide +kernel
theorem dX5_trim_81 : decode cX5_trim 81 = .ok (.ifCond .ne 6, 3) := by decide +kernel
theorem dX5_trim_84 : decode cX5_trim 84 = .ok (.bipush (-2), 2) := by decide +kernel
theorem dX5_trim_86 : decode cX5_trim 86 = .ok (.ireturn, 1) := by decide +kernel
theorem dX5_trim_87 : decode cX5_trim 87 = .ok (.aload_n 0, 1) := by decide +kernel
theorem dX5_trim_88 : decode cX5_trim 88 = .ok (.getfield 30, 3) := by decide +kernel
theorem dX5_trim_91 : decode cX5_trim 91 = .ok (.invokevirtual 148, 3) := by decide +kernel
theorem dX5_trim_94 : decode cX5_trim 94 = .ok (.ldc 112, 2) := by decide +kernel
theorem dX5_trim_96 : decode cX5_trim 96 = .ok (.iadd, 1) := by decide +kernel
theorem dX5_trim_97 : decode cX5_trim 97 = .ok (.ireturn, 1) := by decide +kernel
theorem dX5_event_0 : decode cX5_event 0 = .ok (.iload_n 2, 1) := by decide +kernel
theorem dX5_event_1 : decode cX5_event 1 = .ok (.iconst 0, 1) := by decide +kernel
theorem dX5_event_2 : decode cX5_event 2 = .ok (.iconst 2, 1) := by decide +kernel
theorem dX5_event_3 : decode cX5_event 3 = .ok (.invokestatic 38, 3) := by decide +kernel
theorem dX5_event_6 : decode cX5_event 6 = .ok (.ifCond .ne 6, 3) := by decide +kernel
theorem dX5_event_9 : decode cX5_event 9 = .ok (.bipush (-2), 2) := by decide +kernel
theorem dX5_event_11 : decode cX5_event 11 = .ok (.ireturn, 1) := by decide +kernel
theorem dX5_event_12 : decode cX5_event 12 = .ok (.iload_n 1, 1) := by decide +kernel
theorem dX5_event_13 : decode cX5_event 13 = .ok (.iconst (-1), 1) := by decide +kernel
theorem dX5_event_14 : decode cX5_event 14 = .ok (.if_icmp .ne 14, 3) := by decide +kernel
theorem dX5_event_17 : decode cX5_event 17 = .ok (.aload_n 0, 1) := by decide +kernel
theorem dX5_event_18 : decode cX5_event 18 = .ok (.getfield 10, 3) := by decide +kernel
theorem dX5_event_21 : decode cX5_event 21 = .ok (.getfield 151, 3) := by decide +kernel
theorem dX5_event_24 : decode cX5_event 24 = .ok (.getfield 155, 3) := by decide +kernel
theorem dX5_event_27 : decode cX5_event 27 = .ok (.ireturn, 1) := by decide +kernel
theorem dX5_event_28 : decode cX5_event 28 = .ok (.aload_n 0, 1) := by decide +kernel
theorem dX5_event_29 : decode cX5_event 29 = .ok (.getfield 10, 3) := by decide +kernel
theorem dX5_event_32 : decode cX5_event 32 = .ok (.getfield 151, 3) := by decide +kernel
theorem dX5_event_35 : decode cX5_event 35 = .ok (.iload_n 1, 1) := by decide +kernel
theorem dX5_event_36 : decode cX5_event 36 = .ok (.invokevirtual 160, 3) := by decide +kernel
theorem dX5_event_39 : decode cX5_event 39 = .ok (.istore_n 3, 1) := by decide +kernel
theorem dX5_event_40 : decode cX5_event 40 = .ok (.iload_n 3, 1) := by decide +kernel
theorem dX5_event_41 : decode cX5_event 41 = .ok (.ifCond .ge 6, 3) := by decide +kernel
theorem dX5_event_44 : decode cX5_event 44 = .ok (.bipush (-6), 2) := by decide +kernel
theorem dX5_event_46 : decode cX5_event 46 = .ok (.ireturn, 1) := by decide +kernel
theorem dX5_event_47 : decode cX5_event 47 = .ok (.iload_n 2, 1) := by decide +kernel
theorem dX5_event_48 : decode cX5_event 48 = .ok (.lookupswitch 54 #[(0, 28), (1, 41)], 28) := by decide +kernel
theorem dX5_event_76 : decode cX5_event 76 = .ok (.aload_n 0, 1) := by decide +kernel
theorem dX5_event_77 : decode cX5_event 77 = .ok (.getfield 10, 3) := by decide +kernel
theorem dX5_event_80 : decode cX5_event 80 = .ok (.getfield 151, 3) := by decide +kernel
theorem dX5_event_83 : decode cX5_event 83 = .ok (.getfield 163, 3) := by decide +kernel
theorem dX5_event_86 : decode cX5_event 86 = .ok (.iload_n 3, 1) := by decide +kernel
theorem dX5_event_87 : decode cX5_event 87 = .ok (.iaload, 1) := by decide +kernel
theorem dX5_event_88 : decode cX5_event 88 = .ok (.ireturn, 1) := by decide +kernel
theorem dX5_event_89 : decode cX5_event 89 = .ok (.aload_n 0, 1) := by decide +kernel
theorem dX5_event_90 : decode cX5_event 90 = .ok (.getfield 10, 3) := by decide +kernel
theorem dX5_event_93 : decode cX5_event 93 = .ok (.getfield 151, 3) := by decide +kernel
theorem dX5_event_96 : decode cX5_event 96 = .ok (.getfield 166, 3) := by decide +kernel
theorem dX5_event_99 : decode cX5_event 99 = .ok (.iload_n 3, 1) := by decide +kernel
theorem dX5_event_100 : decode cX5_event 100 = .ok (.iaload, 1) := by decide +kernel
theorem dX5_event_101 : decode cX5_event 101 = .ok (.ireturn, 1) := by decide +kernel
theorem dX5_event_102 : decode cX5_event 102 = .ok (.aload_n 0, 1) := by decide +kernel
theorem dX5_event_103 : decode cX5_event 103 = .ok (.getfield 10, 3) := by decide +kernel
theorem dX5_event_106 : decode cX5_event 106 = .ok (.getfield 151, 3) := by decide +kernel
theorem dX5_event_109 : decode cX5_event 109 = .ok (.getfield 168, 3) := by decide +kernel
theorem dX5_event_112 : decode cX5_event 112 = .ok (.iload_n 3, 1) := by decide +kernel
theorem dX5_event_113 : decode cX5_event 113 = .ok (.iaload, 1) := by decide +kernel
theorem dX5_event_114 : decode cX5_event 114 = .ok (.ireturn, 1) := by decide +kernel
theorem dX5_spread_0 : decode cX5_spread 0 = .ok (.aload_n 0, 1) := by decide +kernel
theorem dX5_spread_1 : decode cX5_spread 1 = .ok (.getfield 10, 3) := by decide +kernel
theorem dX5_spread_4 : decode cX5_spread 4 = .ok (.aload_n 0, 1) := by decide +kernel
theorem dX5_spread_5 : decode cX5_spread 5 = .ok (.getfield 10, 3) := by decide +kernel
theorem dX5_spread_8 : decode cX5_spread 8 = .ok (.iconst 4, 1) := by decide +kernel
theorem dX5_spread_9 : decode cX5_spread 9 = .ok (.invokevirtual 94, 3) := by decide +kernel
theorem dX5_spread_12 : decode cX5_spread 12 = .ok (.invokevirtual 171, 3) := by decide +kernel
theorem dX5_spread_15 : decode cX5_spread 15 = .ok (.ireturn, 1) := by decide +kernel
theorem dX5_soon_0 : decode cX5_soon 0 = .ok (.aload_n 0, 1) := by decide +kernel
theorem dX5_soon_1 : decode cX5_soon 1 = .ok (.getfield 10, 3) := by decide +kernel
theorem dX5_soon_4 : decode cX5_soon 4 = .ok (.invokevirtual 81, 3) := by decide +kernel
theorem dX5_soon_7 : decode cX5_soon 7 = .ok (.istore_n 1, 1) := by decide +kernel
theorem dX5_soon_8 : decode cX5_soon 8 = .ok (.iload_n 1, 1) := by decide +kernel
theorem dX5_soon_9 : decode cX5_soon 9 = .ok (.ifCond .ne 6, 3) := by decide +kernel
theorem dX5_soon_12 : decode cX5_soon 12 = .ok (.bipush (-6), 2) := by decide +kernel
theorem dX5_soon_14 : decode cX5_soon 14 = .ok (.ireturn, 1) := by decide +kernel
theorem dX5_soon_15 : decode cX5_soon 15 = .ok (.aload_n 0, 1) := by decide +kernel
theorem dX5_soon_16 : decode cX5_soon 16 = .ok (.getfield 16, 3) := by decide +kernel
theorem dX5_soon_19 : decode cX5_soon 19 = .ok (.aload_n 0, 1) := by decide +kernel
theorem dX5_soon_20 : decode cX5_soon 20 = .ok (.getfield 10, 3) := by decide +kernel
theorem dX5_soon_23 : decode cX5_soon 23 = .ok (.invokevirtual 174, 3) := by decide +kernel
theorem dX5_soon_26 : decode cX5_soon 26 = .ok (.iconst 0, 1) := by decide +kernel
theorem dX5_soon_27 : decode cX5_soon 27 = .ok (.istore_n 2, 1) := by decide +kernel
theorem dX5_soon_28 : decode cX5_soon 28 = .ok (.iload_n 2, 1) := by decide +kernel
theorem dX5_soon_29 : decode cX5_soon 29 = .ok (.sipush 200, 3) := by decide +kernel
theorem dX5_soon_32 : decode cX5_soon 32 = .ok (.if_icmp .gt 33, 3) := by decide +kernel
theorem dX5_soon_35 : decode cX5_soon 35 = .ok (.iload_n 1, 1) := by decide +kernel
theorem dX5_soon_36 : decode cX5_soon 36 = .ok (.aload_n 0, 1) := by decide +kernel
theorem dX5_soon_37 : decode cX5_soon 37 = .ok (.getfield 16, 3) := by decide +kernel
theorem dX5_soon_40 : decode cX5_soon 40 = .ok (.iconst 4, 1) := by decide +kernel
theorem dX5_soon_41 : decode cX5_soon 41 = .ok (.invokevirtual 94, 3) := by decide +kernel
theorem dX5_soon_44 : decode cX5_soon 44 = .ok (.invokestatic 178, 3) := by decide +kernel
theorem dX5_soon_47 : decode cX5_soon 47 = .ok (.ifCond .eq 5, 3) := by decide +kernel
theorem dX5_soon_50 : decode cX5_soon 50 = .ok (.iload_n 2, 1) := by decide +kernel
theorem dX5_soon_51 : decode cX5_soon 51 = .ok (.ireturn, 1) := by decide +kernel
theorem dX5_soon_52 : decode cX5_soon 52 = .ok (.aload_n 0, 1) := by decide +kernel
theorem dX5_soon_53 : decode cX5_soon 53 = .ok (.getfield 16, 3) := by decide +kernel
theorem dX5_soon_56 : decode cX5_soon 56 = .ok (.invokevirtual 91, 3) := by decide +kernel
theorem dX5_soon_59 : decode cX5_soon 59 = .ok (.iinc 2 1, 3) := by decide +kernel
theorem dX5_soon_62 : decode cX5_soon 62 = .ok (.goto (-34), 3) := by decide +kernel
theorem dX5_soon_65 : decode cX5_soon 65 = .ok (.bipush (-6), 2) := by decide +kernel
theorem dX5_soon_67 : decode cX5_soon 67 = .ok (.ireturn, 1) := by decide +kernel
theorem dX5_bears_0 : decode cX5_bears 0 = .ok (.iload_n 1, 1) := by decide +kernel
theorem dX5_bears_1 : decode cX5_bears 1 = .ok (.invokestatic 34, 3) := by decide +kernel
theorem dX5_bears_4 : decode cX5_bears 4 = .ok (.ifCond .ne 5, 3) := by decide +kernel
theorem dX5_bears_7 : decode cX5_bears 7 = .ok (.iconst (-1), 1) := by decide +kernel
theorem dX5_bears_8 : decode cX5_bears 8 = .ok (.ireturn, 1) := by decide +kernel
theorem dX5_bears_9 : decode cX5_bears 9 = .ok (.iload_n 2, 1) := by decide +kernel
theorem dX5_bears_10 : decode cX5_bears 10 = .ok (.iconst 1, 1) := by decide +kernel
theorem dX5_bears_11 : decode cX5_bears 11 = .ok (.bipush 40, 2) := by decide +kernel
theorem dX5_bears_13 : decode cX5_bears 13 = .ok (.invokestatic 38, 3) := by decide +kernel
theorem dX5_bears_16 : decode cX5_bears 16 = .ok (.ifCond .eq 14, 3) := by decide +kernel
theorem dX5_bears_19 : decode cX5_bears 19 = .ok (.iload_n 3, 1) := by decide +kernel
theorem dX5_bears_20 : decode cX5_bears 20 = .ok (.iconst 0, 1) := by decide +kernel
theorem dX5_bears_21 : decode cX5_bears 21 = .ok (.sipush 999, 3) := by decide +kernel
theorem dX5_bears_24 : decode cX5_bears 24 = .ok (.invokestatic 38, 3) := by decide +kernel
theorem dX5_bears_27 : decode cX5_bears 27 = .ok (.ifCond .ne 6, 3) := by decide +kernel
theorem dX5_bears_30 : decode cX5_bears 30 = .ok (.bipush (-2), 2) := by decide +kernel
theorem dX5_bears_32 : decode cX5_bears 32 = .ok (.ireturn, 1) := by decide +kernel
theorem dX5_bears_33 : decode cX5_bears 33 = .ok (.sipush 400, 3) := by decide +kernel
theorem dX5_bears_36 : decode cX5_bears 36 = .ok (.istore 4, 2) := by decide +kernel
theorem dX5_bears_38 : decode cX5_bears 38 = .ok (.iload 4, 2) := by decide +kernel
theorem dX5_bears_40 : decode cX5_bears 40 = .ok (.ifCond .lt 52, 3) := by decide +kernel
theorem dX5_bears_43 : decode cX5_bears 43 = .ok (.aload_n 0, 1) := by decide +kernel
theorem dX5_bears_44 : decode cX5_bears 44 = .ok (.getfield 16, 3) := by decide +kernel
theorem dX5_bears_47 : decode cX5_bears 47 = .ok (.aload_n 0, 1) := by decide +kernel
theorem dX5_bears_48 : decode cX5_bears 48 = .ok (.getfield 10, 3) := by decide +kernel
theorem dX5_bears_51 : decode cX5_bears 51 = .ok (.invokevirtual 174, 3) := by decide +kernel
theorem dX5_bears_54 : decode cX5_bears 54 = .ok (.aload_n 0, 1) := by decide +kernel
theorem dX5_bears_55 : decode cX5_bears 55 = .ok (.getfield 16, 3) := by decide +kernel
theorem dX5_bears_58 : decode cX5_bears 58 = .ok (.getfield 42, 3) := by decide +kernel
theorem dX5_bears_61 : decode cX5_bears 61 = .ok (.iload_n 1, 1) := by decide +kernel
theorem dX5_bears_62 : decode cX5_bears 62 = .ok (.aaload, 1) := by decide +kernel
theorem dX5_bears_63 : decode cX5_bears 63 = .ok (.iload 4, 2) := by decide +kernel
theorem dX5_bears_65 : decode cX5_bears 65 = .ok (.putfield 67, 3) := by decide +kernel
theorem dX5_bears_68 : decode cX5_bears 68 = .ok (.aload_n 0, 1) := by decide +kernel
theorem dX5_bears_69 : decode cX5_bears 69 = .ok (.iload_n 1, 1) := by decide +kernel
theorem dX5_bears_70 : decode cX5_bears 70 = .ok (.invokestatic 181, 3) := by decide +kernel
theorem dX5_bears_73 : decode cX5_bears 73 = .ok (.iconst (-1), 1) := by decide +kernel
theorem dX5_bears_74 : decode cX5_bears 74 = .ok (.ixor, 1) := by decide +kernel
theorem dX5_bears_75 : decode cX5_bears 75 = .ok (.iload_n 2, 1) := by decide +kernel
theorem dX5_bears_76 : decode cX5_bears 76 = .ok (.iload_n 3, 1) := by decide +kernel
theorem dX5_bears_77 : decode cX5_bears 77 = .ok (.invokevirtual 184, 3) := by decide +kernel
theorem dX5_bears_80 : decode cX5_bears 80 = .ok (.ifCond .eq 6, 3) := by decide +kernel
theorem dX5_bears_83 : decode cX5_bears 83 = .ok (.iload 4, 2) := by decide +kernel
theorem dX5_bears_85 : decode cX5_bears 85 = .ok (.ireturn, 1) := by decide +kernel
theorem dX5_bears_86 : decode cX5_bears 86 = .ok (.iinc 4 (-10), 3) := by decide +kernel
theorem dX5_bears_89 : decode cX5_bears 89 = .ok (.goto (-51), 3) := by decide +kernel
theorem dX5_bears_92 : decode cX5_bears 92 = .ok (.bipush (-6), 2) := by decide +kernel
theorem dX5_bears_94 : decode cX5_bears 94 = .ok (.ireturn, 1) := by decide +kernel
theorem dX5_image_0 : decode cX5_image 0 = .ok (.iload_n 1, 1) := by decide +kernel
theorem dX5_image_1 : decode cX5_image 1 = .ok (.iconst 0, 1) := by decide +kernel
theorem dX5_image_2 : decode cX5_image 2 = .ok (.iconst 1, 1) := by decide +kernel
theorem dX5_image_3 : decode cX5_image 3 = .ok (.invokestatic 38, 3) := by decide +kernel
theorem dX5_image_6 : decode cX5_image 6 = .ok (.ifCond .ne 6, 3) := by decide +kernel
theorem dX5_image_9 : decode cX5_image 9 = .ok (.bipush (-2), 2) := by decide +kernel
theorem dX5_image_11 : decode cX5_image 11 = .ok (.ireturn, 1) := by decide +kernel
theorem dX5_image_12 : decode cX5_image 12 = .ok (.aload_n 0, 1) := by decide +kernel
theorem dX5_image_13 : decode cX5_image 13 = .ok (.getfield 19, 3) := by decide +kernel
theorem dX5_image_16 : decode cX5_image 16 = .ok (.iload_n 1, 1) := by decide +kernel
theorem dX5_image_17 : decode cX5_image 17 = .ok (.aaload, 1) := by decide +kernel
theorem dX5_image_18 : decode cX5_image 18 = .ok (.aload_n 0, 1) := by decide +kernel
theorem dX5_image_19 : decode cX5_image 19 = .ok (.getfield 10, 3) := by decide +kernel
theorem dX5_image_22 : decode cX5_image 22 = .ok (.invokevirtual 174, 3) := by decide +kernel
theorem dX5_image_25 : decode cX5_image 25 = .ok (.aload_n 0, 1) := by decide +kernel
theorem dX5_image_26 : decode cX5_image 26 = .ok (.dup, 1) := by decide +kernel
theorem dX5_image_27 : decode cX5_image 27 = .ok (.getfield 23, 3) := by decide +kernel
theorem dX5_image_30 : decode cX5_image 30 = .ok (.iload_n 1, 1) := by decide +kernel
theorem dX5_image_31 : decode cX5_image 31 = .ok (.invokestatic 181, 3) := by decide +kernel
theorem dX5_image_34 : decode cX5_image 34 = .ok (.ior, 1) := by decide +kernel
theorem dX5_image_35 : decode cX5_image 35 = .ok (.putfield 23, 3) := by decide +kernel
theorem dX5_image_38 : decode cX5_image 38 = .ok (.iconst 1, 1) := by decide +kernel
theorem dX5_image_39 : decode cX5_image 39 = .ok (.ireturn, 1) := by decide +kernel
theorem dX5_restore_0 : decode cX5_restore 0 = .ok (.iload_n 1, 1) := by decide +kernel
theorem dX5_restore_1 : decode cX5_restore 1 = .ok (.iconst 0, 1) := by decide +kernel
theorem dX5_restore_2 : decode cX5_restore 2 = .ok (.iconst 1, 1) := by decide +kernel
theorem dX5_restore_3 : decode cX5_restore 3 = .ok (.invokestatic 38, 3) := by decide +kernel
theorem dX5_restore_6 : decode cX5_restore 6 = .ok (.ifCond .ne 6, 3) := by decide +kernel
theorem dX5_restore_9 : decode cX5_restore 9 = .ok (.bipush (-2), 2) := by decide +kernel
theorem dX5_restore_11 : decode cX5_restore 11 = .ok (.ireturn, 1) := by decide +kernel
theorem dX5_restore_12 : decode cX5_restore 12 = .ok (.aload_n 0, 1) := by decide +kernel
theorem dX5_restore_13 : decode cX5_restore 13 = .ok (.getfield 23, 3) := by decide +kernel
theorem dX5_restore_16 : decode cX5_restore 16 = .ok (.iload_n 1, 1) := by decide +kernel
theorem dX5_restore_17 : decode cX5_restore 17 = .ok (.invokestatic 131, 3) := by decide +kernel
theorem dX5_restore_20 : decode cX5_restore 20 = .ok (.ifCond .ne 6, 3) := by decide +kernel
theorem dX5_restore_23 : decode cX5_restore 23 = .ok (.bipush (-3), 2) := by decide +kernel
theorem dX5_restore_25 : decode cX5_restore 25 = .ok (.ireturn, 1) := by decide +kernel
theorem dX5_restore_26 : decode cX5_restore 26 = .ok (.aload_n 0, 1) := by decide +kernel
theorem dX5_restore_27 : decode cX5_restore 27 = .ok (.getfield 10, 3) := by decide +kernel
theorem dX5_restore_30 : decode cX5_restore 30 = .ok (.aload_n 0, 1) := by decide +kernel
theorem dX5_restore_31 : decode cX5_restore 31 = .ok (.getfield 19, 3) := by decide +kernel
theorem dX5_restore_34 : decode cX5_restore 34 = .ok (.iload_n 1, 1) := by decide +kernel
theorem dX5_restore_35 : decode cX5_restore 35 = .ok (.aaload, 1) := by decide +kernel
theorem dX5_restore_36 : decode cX5_restore 36 = .ok (.invokevirtual 174, 3) := by decide +kernel
theorem dX5_restore_39 : decode cX5_restore 39 = .ok (.iconst 1, 1) := by decide +kernel
theorem dX5_restore_40 : decode cX5_restore 40 = .ok (.ireturn, 1) := by decide +kernel
theorem dX5_count_0 : decode cX5_count 0 = .ok (.iload_n 1, 1) := by decide +kernel
theorem dX5_count_1 : decode cX5_count 1 = .ok (.tableswitch 87 0 5 #[39, 47, 55, 64, 74, 82], 39) := by decide +kernel
theorem dX5_count_40 : decode cX5_count 40 = .ok (.aload_n 0, 1) := by decide +kernel
theorem dX5_count_41 : decode cX5_count 41 = .ok (.getfield 10, 3) := by decide +kernel
theorem dX5_count_44 : decode cX5_count 44 = .ok (.getfield 187, 3) := by decide +kernel
theorem dX5_count_47 : decode cX5_count 47 = .ok (.ireturn, 1) := by decide +kernel
theorem dX5_count_48 : decode cX5_count 48 = .ok (.aload_n 0, 1) := by decide +kernel
theorem dX5_count_49 : decode cX5_count 49 = .ok (.getfield 10, 3) := by decide +kernel
theorem dX5_count_52 : decode cX5_count 52 = .ok (.getfield 189, 3) := by decide +kernel
theorem dX5_count_55 : decode cX5_count 55 = .ok (.ireturn, 1) := by decide +kernel
theorem dX5_count_56 : decode cX5_count 56 = .ok (.aload_n 0, 1) := by decide +kernel
theorem dX5_count_57 : decode cX5_count 57 = .ok (.getfield 10, 3) := by decide +kernel
theorem dX5_count_60 : decode cX5_count 60 = .ok (.iconst 4, 1) := by decide +kernel
theorem dX5_count_61 : decode cX5_count 61 = .ok (.invokevirtual 94, 3) := by decide +kernel
theorem dX5_count_64 : decode cX5_count 64 = .ok (.ireturn, 1) := by decide +kernel
theorem dX5_count_65 : decode cX5_count 65 = .ok (.aload_n 0, 1) := by decide +kernel
theorem dX5_count_66 : decode cX5_count 66 = .ok (.getfield 10, 3) := by decide +kernel
theorem dX5_count_69 : decode cX5_count 69 = .ok (.bipush 6, 2) := by decide +kernel
theorem dX5_count_71 : decode cX5_count 71 = .ok (.invokevirtual 94, 3) := by decide +kernel
theorem dX5_count_74 : decode cX5_count 74 = .ok (.ireturn, 1) := by decide +kernel
theorem dX5_count_75 : decode cX5_count 75 = .ok (.aload_n 0, 1) := by decide +kernel
theorem dX5_count_76 : decode cX5_count 76 = .ok (.getfield 10, 3) := by decide +kernel
theorem dX5_count_79 : decode cX5_count 79 = .ok (.getfield 70, 3) := by decide +kernel
theorem dX5_count_82 : decode cX5_count 82 = .ok (.ireturn, 1) := by decide +kernel
theorem dX5_count_83 : decode cX5_count 83 = .ok (.aload_n 0, 1) := by decide +kernel
theorem dX5_count_84 : decode cX5_count 84 = .ok (.getfield 23, 3) := by decide +kernel
theorem dX5_count_87 : decode cX5_count 87 = .ok (.ireturn, 1) := by decide +kernel
theorem dX5_count_88 : decode cX5_count 88 = .ok (.bipush (-2), 2) := by decide +kernel
theorem dX5_count_90 : decode cX5_count 90 = .ok (.ireturn, 1) := by decide +kernel
theorem dX5_staysTogether_0 : decode cX5_staysTogether 0 = .ok (.aload_n 0, 1) := by decide +kernel
theorem dX5_staysTogether_1 : decode cX5_staysTogether 1 = .ok (.getfield 16, 3) := by decide +kernel
theorem dX5_staysTogether_4 : decode cX5_staysTogether 4 = .ok (.iconst 4, 1) := by decide +kernel
theorem dX5_staysTogether_5 : decode cX5_staysTogether 5 = .ok (.invokevirtual 94, 3) := by decide +kernel
theorem dX5_staysTogether_8 : decode cX5_staysTogether 8 = .ok (.iload_n 1, 1) := by decide +kernel
theorem dX5_staysTogether_9 : decode cX5_staysTogether 9 = .ok (.iand, 1) := by decide +kernel
theorem dX5_staysTogether_10 : decode cX5_staysTogether 10 = .ok (.istore 4, 2) := by decide +kernel
theorem dX5_staysTogether_12 : decode cX5_staysTogether 12 = .ok (.iconst 0, 1) := by decide +kernel
theorem dX5_staysTogether_13 : decode cX5_staysTogether 13 = .ok (.istore 5, 2) := by decide +kernel
theorem dX5_staysTogether_15 : decode cX5_staysTogether 15 = .ok (.iload 5, 2) := by decide +kernel
theorem dX5_staysTogether_17 : decode cX5_staysTogether 17 = .ok (.iload_n 2, 1) := by decide +kernel
theorem dX5_staysTogether_18 : decode cX5_staysTogether 18 = .ok (.if_icmp .ge 53, 3) := by decide +kernel
theorem dX5_staysTogether_21 : decode cX5_staysTogether 21 = .ok (.aload_n 0, 1) := by decide +kernel
theorem dX5_staysTogether_22 : decode cX5_staysTogether 22 = .ok (.getfield 16, 3) := by decide +kernel
theorem dX5_staysTogether_25 : decode cX5_staysTogether 25 = .ok (.invokevirtual 91, 3) := by decide +kernel
theorem dX5_staysTogether_28 : decode cX5_staysTogether 28 = .ok (.aload_n 0, 1) := by decide +kernel
theorem dX5_staysTogether_29 : decode cX5_staysTogether 29 = .ok (.getfield 16, 3) := by decide +kernel
theorem dX5_staysTogether_32 : decode cX5_staysTogether 32 = .ok (.iconst 4, 1) := by decide +kernel
theorem dX5_staysTogether_33 : decode cX5_staysTogether 33 = .ok (.invokevirtual 94, 3) := by decide +kernel
theorem dX5_staysTogether_36 : decode cX5_staysTogether 36 = .ok (.iload_n 1, 1) := by decide +kernel
theorem dX5_staysTogether_37 : decode cX5_staysTogether 37 = .ok (.iand, 1) := by decide +kernel
theorem dX5_staysTogether_38 : decode cX5_staysTogether 38 = .ok (.istore 6, 2) := by decide +kernel
theorem dX5_staysTogether_40 : decode cX5_staysTogether 40 = .ok (.iload 4, 2) := by decide +kernel
theorem dX5_staysTogether_42 : decode cX5_staysTogether 42 = .ok (.iload 6, 2) := by decide +kernel
theorem dX5_staysTogether_44 : decode cX5_staysTogether 44 = .ok (.invokestatic 178, 3) := by decide +kernel
theorem dX5_staysTogether_47 : decode cX5_staysTogether 47 = .ok (.ifCond .eq 16, 3) := by decide +kernel
theorem dX5_staysTogether_50 : decode cX5_staysTogether 50 = .ok (.aload_n 0, 1) := by decide +kernel
theorem dX5_staysTogether_51 : decode cX5_staysTogether 51 = .ok (.getfield 16, 3) := by decide +kernel
theorem dX5_staysTogether_54 : decode cX5_staysTogether 54 = .ok (.iload 6, 2) := by decide +kernel
theorem dX5_staysTogether_56 : decode cX5_staysTogether 56 = .ok (.invokevirtual 171, 3) := by decide +kernel
theorem dX5_staysTogether_59 : decode cX5_staysTogether 59 = .ok (.iload_n 3, 1) := by decide +kernel
theorem dX5_staysTogether_60 : decode cX5_staysTogether 60 = .ok (.if_icmp .le 5, 3) := by decide +kernel
theorem dX5_staysTogether_63 : decode cX5_staysTogether 63 = .ok (.iconst 0, 1) := by decide +kernel
theorem dX5_staysTogether_64 : decode cX5_staysTogether 64 = .ok (.ireturn, 1) := by decide +kernel
theorem dX5_staysTogether_65 : decode cX5_staysTogether 65 = .ok (.iinc 5 1, 3) := by decide +kernel
theorem dX5_staysTogether_68 : decode cX5_staysTogether 68 = .ok (.goto (-53), 3) := by decide +kernel
theorem dX5_staysTogether_71 : decode cX5_staysTogether 71 = .ok (.iconst 1, 1) := by decide +kernel
theorem dX5_staysTogether_72 : decode cX5_staysTogether 72 = .ok (.ireturn, 1) := by decide +kernel
theorem dX5_isNode_0 : decode cX5_isNode 0 = .ok (.iload_n 0, 1) := by decide +kernel
theorem dX5_isNode_1 : decode cX5_isNode 1 = .ok (.iconst 0, 1) := by decide +kernel
theorem dX5_isNode_2 : decode cX5_isNode 2 = .ok (.iconst 5, 1) := by decide +kernel
theorem dX5_isNode_3 : decode cX5_isNode 3 = .ok (.invokestatic 38, 3) := by decide +kernel
theorem dX5_isNode_6 : decode cX5_isNode 6 = .ok (.ireturn, 1) := by decide +kernel
theorem dX5_isWithin_0 : decode cX5_isWithin 0 = .ok (.iload_n 0, 1) := by decide +kernel
theorem dX5_isWithin_1 : decode cX5_isWithin 1 = .ok (.iload_n 1, 1) := by decide +kernel
theorem dX5_isWithin_2 : decode cX5_isWithin 2 = .ok (.if_icmp .lt 12, 3) := by decide +kernel
theorem dX5_isWithin_5 : decode cX5_isWithin 5 = .ok (.iload_n 0, 1) := by decide +kernel
theorem dX5_isWithin_6 : decode cX5_isWithin 6 = .ok (.iload_n 2, 1) := by decide +kernel
theorem dX5_isWithin_7 : decode cX5_isWithin 7 = .ok (.if_icmp .gt 7, 3) := by decide +kernel
theorem dX5_isWithin_10 : decode cX5_isWithin 10 = .ok (.iconst 1, 1) := by decide +kernel
theorem dX5_isWithin_11 : decode cX5_isWithin 11 = .ok (.goto 4, 3) := by decide +kernel
theorem dX5_isWithin_14 : decode cX5_isWithin 14 = .ok (.iconst 0, 1) := by decide +kernel
theorem dX5_isWithin_15 : decode cX5_isWithin 15 = .ok (.ireturn, 1) := by decide +kernel
theorem dX5_bitOf_0 : decode cX5_bitOf 0 = .ok (.iconst 1, 1) := by decide +kernel
theorem dX5_bitOf_1 : decode cX5_bitOf 1 = .ok (.iload_n 0, 1) := by decide +kernel
theorem dX5_bitOf_2 : decode cX5_bitOf 2 = .ok (.ishl, 1) := by decide +kernel
theorem dX5_bitOf_3 : decode cX5_bitOf 3 = .ok (.ireturn, 1) := by decide +kernel
theorem dX5_isIn_0 : decode cX5_isIn 0 = .ok (.iload_n 0, 1) := by decide +kernel
theorem dX5_isIn_1 : decode cX5_isIn 1 = .ok (.iload_n 1, 1) := by decide +kernel
theorem dX5_isIn_2 : decode cX5_isIn 2 = .ok (.invokestatic 181, 3) := by decide +kernel
theorem dX5_isIn_5 : decode cX5_isIn 5 = .ok (.iand, 1) := by decide +kernel
theorem dX5_isIn_6 : decode cX5_isIn 6 = .ok (.ifCond .eq 7, 3) := by decide +kernel
theorem dX5_isIn_9 : decode cX5_isIn 9 = .ok (.iconst 1, 1) := by decide +kernel
theorem dX5_isIn_10 : decode cX5_isIn 10 = .ok (.goto 4, 3) := by decide +kernel
theorem dX5_isIn_13 : decode cX5_isIn 13 = .ok (.iconst 0, 1) := by decide +kernel
theorem dX5_isIn_14 : decode cX5_isIn 14 = .ok (.ireturn, 1) := by decide +kernel
theorem dX5_areAllIn_0 : decode cX5_areAllIn 0 = .ok (.iload_n 0, 1) := by decide +kernel
theorem dX5_areAllIn_1 : decode cX5_areAllIn 1 = .ok (.iload_n 1, 1) := by decide +kernel
theorem dX5_areAllIn_2 : decode cX5_areAllIn 2 = .ok (.iconst (-1), 1) := by decide +kernel
theorem dX5_areAllIn_3 : decode cX5_areAllIn 3 = .ok (.ixor, 1) := by decide +kernel
theorem dX5_areAllIn_4 : decode cX5_areAllIn 4 = .ok (.iand, 1) := by decide +kernel
theorem dX5_areAllIn_5 : decode cX5_areAllIn 5 = .ok (.ifCond .ne 7, 3) := by decide +kernel
theorem dX5_areAllIn_8 : decode cX5_areAllIn 8 = .ok (.iconst 1, 1) := by decide +kernel
theorem dX5_areAllIn_9 : decode cX5_areAllIn 9 = .ok (.goto 4, 3) := by decide +kernel
theorem dX5_areAllIn_12 : decode cX5_areAllIn 12 = .ok (.iconst 0, 1) := by decide +kernel
theorem dX5_areAllIn_13 : decode cX5_areAllIn 13 = .ok (.ireturn, 1) := by decide +kernel
theorem dJ6_bitCount_0f7a4_0 : decode cJ6_bitCount_0f7a4 0 = .ok (.iload_n 0, 1) := by decide +kernel
theorem dJ6_bitCount_0f7a4_1 : decode cJ6_bitCount_0f7a4 1 = .ok (.iload_n 0, 1) := by decide +kernel
theorem dJ6_bitCount_0f7a4_2 : decode cJ6_bitCount_0f7a4 2 = .ok (.iconst 1, 1) := by decide +kernel
theorem dJ6_bitCount_0f7a4_3 : decode cJ6_bitCount_0f7a4 3 = .ok (.iushr, 1) := by decide +kernel
theorem dJ6_bitCount_0f7a4_4 : decode cJ6_bitCount_0f7a4 4 = .ok (.ldc_w 265, 3) := by decide +kernel
theorem dJ6_bitCount_0f7a4_7 : decode cJ6_bitCount_0f7a4 7 = .ok (.iand, 1) := by decide +kernel
theorem dJ6_bitCount_0f7a4_8 : decode cJ6_bitCount_0f7a4 8 = .ok (.isub, 1) := by decide +kernel
theorem dJ6_bitCount_0f7a4_9 : decode cJ6_bitCount_0f7a4 9 = .ok (.istore_n 0, 1) := by decide +kernel
theorem dJ6_bitCount_0f7a4_10 : decode cJ6_bitCount_0f7a4 10 = .ok (.iload_n 0, 1) := by decide +kernel
theorem dJ6_bitCount_0f7a4_11 : decode cJ6_bitCount_0f7a4 11 = .ok (.ldc_w 266, 3) := by decide +kernel
theorem dJ6_bitCount_0f7a4_14 : decode cJ6_bitCount_0f7a4 14 = .ok (.iand, 1) := by decide +kernel
theorem dJ6_bitCount_0f7a4_15 : decode cJ6_bitCount_0f7a4 15 = .ok (.iload_n 0, 1) := by decide +kernel
theorem dJ6_bitCount_0f7a4_16 : decode cJ6_bitCount_0f7a4 16 = .ok (.iconst 2, 1) := by decide +kernel
theorem dJ6_bitCount_0f7a4_17 : decode cJ6_bitCount_0f7a4 17 = .ok (.iushr, 1) := by decide +kernel
theorem dJ6_bitCount_0f7a4_18 : decode cJ6_bitCount_0f7a4 18 = .ok (.ldc_w 266, 3) := by decide +kernel
theorem dJ6_bitCount_0f7a4_21 : decode cJ6_bitCount_0f7a4 21 = .ok (.iand, 1) := by decide +kernel
theorem dJ6_bitCount_0f7a4_22 : decode cJ6_bitCount_0f7a4 22 = .ok (.iadd, 1) := by decide +kernel
theorem dJ6_bitCount_0f7a4_23 : decode cJ6_bitCount_0f7a4 23 = .ok (.istore_n 0, 1) := by decide +kernel
theorem dJ6_bitCount_0f7a4_24 : decode cJ6_bitCount_0f7a4 24 = .ok (.iload_n 0, 1) := by decide +kernel
theorem dJ6_bitCount_0f7a4_25 : decode cJ6_bitCount_0f7a4 25 = .ok (.iload_n 0, 1) := by decide +kernel
theorem dJ6_bitCount_0f7a4_26 : decode cJ6_bitCount_0f7a4 26 = .ok (.iconst 4, 1) := by decide +kernel
theorem dJ6_bitCount_0f7a4_27 : decode cJ6_bitCount_0f7a4 27 = .ok (.iushr, 1) := by decide +kernel
theorem dJ6_bitCount_0f7a4_28 : decode cJ6_bitCount_0f7a4 28 = .ok (.iadd, 1) := by decide +kernel
theorem dJ6_bitCount_0f7a4_29 : decode cJ6_bitCount_0f7a4 29 = .ok (.ldc_w 267, 3) := by decide +kernel
theorem dJ6_bitCount_0f7a4_32 : decode cJ6_bitCount_0f7a4 32 = .ok (.iand, 1) := by decide +kernel
theorem dJ6_bitCount_0f7a4_33 : decode cJ6_bitCount_0f7a4 33 = .ok (.istore_n 0, 1) := by decide +kernel
theorem dJ6_bitCount_0f7a4_34 : decode cJ6_bitCount_0f7a4 34 = .ok (.iload_n 0, 1) := by decide +kernel
theorem dJ6_bitCount_0f7a4_35 : decode cJ6_bitCount_0f7a4 35 = .ok (.iload_n 0, 1) := by decide +kernel
theorem dJ6_bitCount_0f7a4_36 : decode cJ6_bitCount_0f7a4 36 = .ok (.bipush 8, 2) := by decide +kernel
theorem dJ6_bitCount_0f7a4_38 : decode cJ6_bitCount_0f7a4 38 = .ok (.iushr, 1) := by decide +kernel
theorem dJ6_bitCount_0f7a4_39 : decode cJ6_bitCount_0f7a4 39 = .ok (.iadd, 1) := by decide +kernel
theorem dJ6_bitCount_0f7a4_40 : decode cJ6_bitCount_0f7a4 40 = .ok (.istore_n 0, 1) := by decide +kernel
theorem dJ6_bitCount_0f7a4_41 : decode cJ6_bitCount_0f7a4 41 = .ok (.iload_n 0, 1) := by decide +kernel
theorem dJ6_bitCount_0f7a4_42 : decode cJ6_bitCount_0f7a4 42 = .ok (.iload_n 0, 1) := by decide +kernel
theorem dJ6_bitCount_0f7a4_43 : decode cJ6_bitCount_0f7a4 43 = .ok (.bipush 16, 2) := by decide +kernel
theorem dJ6_bitCount_0f7a4_45 : decode cJ6_bitCount_0f7a4 45 = .ok (.iushr, 1) := by decide +kernel
theorem dJ6_bitCount_0f7a4_46 : decode cJ6_bitCount_0f7a4 46 = .ok (.iadd, 1) := by decide +kernel
theorem dJ6_bitCount_0f7a4_47 : decode cJ6_bitCount_0f7a4 47 = .ok (.istore_n 0, 1) := by decide +kernel
theorem dJ6_bitCount_0f7a4_48 : decode cJ6_bitCount_0f7a4 48 = .ok (.iload_n 0, 1) := by decide +kernel
theorem dJ6_bitCount_0f7a4_49 : decode cJ6_bitCount_0f7a4 49 = .ok (.bipush 63, 2) := by decide +kernel
theorem dJ6_bitCount_0f7a4_51 : decode cJ6_bitCount_0f7a4 51 = .ok (.iand, 1) := by decide +kernel
theorem dJ6_bitCount_0f7a4_52 : decode cJ6_bitCount_0f7a4 52 = .ok (.ireturn, 1) := by decide +kernel
theorem dJ9_abs_0f7a4_0 : decode cJ9_abs_0f7a4 0 = .ok (.iload_n 0, 1) := by decide +kernel
theorem dJ9_abs_0f7a4_1 : decode cJ9_abs_0f7a4 1 = .ok (.ifCond .ge 8, 3) := by decide +kernel
theorem dJ9_abs_0f7a4_4 : decode cJ9_abs_0f7a4 4 = .ok (.iload_n 0, 1) := by decide +kernel
theorem dJ9_abs_0f7a4_5 : decode cJ9_abs_0f7a4 5 = .ok (.ineg, 1) := by decide +kernel
theorem dJ9_abs_0f7a4_6 : decode cJ9_abs_0f7a4 6 = .ok (.goto 4, 3) := by decide +kernel
theorem dJ9_abs_0f7a4_9 : decode cJ9_abs_0f7a4 9 = .ok (.iload_n 0, 1) := by decide +kernel
theorem dJ9_abs_0f7a4_10 : decode cJ9_abs_0f7a4 10 = .ok (.ireturn, 1) := by decide +kernel
theorem dJ9_max_7cf53_0 : decode cJ9_max_7cf53 0 = .ok (.iload_n 0, 1) := by decide +kernel
theorem dJ9_max_7cf53_1 : decode cJ9_max_7cf53 1 = .ok (.iload_n 1, 1) := by decide +kernel
theorem dJ9_max_7cf53_2 : decode cJ9_max_7cf53 2 = .ok (.if_icmp .lt 7, 3) := by decide +kernel
theorem dJ9_max_7cf53_5 : decode cJ9_max_7cf53 5 = .ok (.iload_n 0, 1) := by decide +kernel
theorem dJ9_max_7cf53_6 : decode cJ9_max_7cf53 6 = .ok (.goto 4, 3) := by decide +kernel
theorem dJ9_max_7cf53_9 : decode cJ9_max_7cf53 9 = .ok (.iload_n 1, 1) := by decide +kernel
theorem dJ9_max_7cf53_10 : decode cJ9_max_7cf53 10 = .ok (.ireturn, 1) := by decide +kernel
theorem dJ9_min_7cf53_0 : decode cJ9_min_7cf53 0 = .ok (.iload_n 0, 1) := by decide +kernel
theorem dJ9_min_7cf53_1 : decode cJ9_min_7cf53 1 = .ok (.iload_n 1, 1) := by decide +kernel
theorem dJ9_min_7cf53_2 : decode cJ9_min_7cf53 2 = .ok (.if_icmp .gt 7, 3) := by decide +kernel
theorem dJ9_min_7cf53_5 : decode cJ9_min_7cf53 5 = .ok (.iload_n 0, 1) := by decide +kernel
theorem dJ9_min_7cf53_6 : decode cJ9_min_7cf53 6 = .ok (.goto 4, 3) := by decide +kernel
theorem dJ9_min_7cf53_9 : decode cJ9_min_7cf53 9 = .ok (.iload_n 1, 1) := by decide +kernel
theorem dJ9_min_7cf53_10 : decode cJ9_min_7cf53 10 = .ok (.ireturn, 1) := by decide +kernel
theorem dL_law_0 : decode cL_law 0 = .ok (.new 7, 3) := by decide +kernel
theorem dL_law_3 : decode cL_law 3 = .ok (.dup, 1) := by decide +kernel
theorem dL_law_4 : decode cL_law 4 = .ok (.invokespecial 9, 3) := by decide +kernel
theorem dL_law_7 : decode cL_law 7 = .ok (.astore_n 1, 1) := by decide +kernel
theorem dL_law_8 : decode cL_law 8 = .ok (.new 10, 3) := by decide +kernel
theorem dL_law_11 : decode cL_law 11 = .ok (.dup, 1) := by decide +kernel
theorem dL_law_12 : decode cL_law 12 = .ok (.invokespecial 12, 3) := by decide +kernel
theorem dL_law_15 : decode cL_law 15 = .ok (.astore_n 2, 1) := by decide +kernel
theorem dL_law_16 : decode cL_law 16 = .ok (.iconst 0, 1) := by decide +kernel
theorem dL_law_17 : decode cL_law 17 = .ok (.istore_n 3, 1) := by decide +kernel
theorem dL_law_18 : decode cL_law 18 = .ok (.iload_n 3, 1) := by decide +kernel
theorem dL_law_19 : decode cL_law 19 = .ok (.aload_n 0, 1) := by decide +kernel
theorem dL_law_20 : decode cL_law 20 = .ok (.arraylength, 1) := by decide +kernel
theorem dL_law_21 : decode cL_law 21 = .ok (.bipush 6, 2) := by decide +kernel
theorem dL_law_23 : decode cL_law 23 = .ok (.isub, 1) := by decide +kernel
theorem dL_law_24 : decode cL_law 24 = .ok (.if_icmp .gt 592, 3) := by decide +kernel
theorem dL_law_27 : decode cL_law 27 = .ok (.aload_n 0, 1) := by decide +kernel
theorem dL_law_28 : decode cL_law 28 = .ok (.iload_n 3, 1) := by decide +kernel
theorem dL_law_29 : decode cL_law 29 = .ok (.iaload, 1) := by decide +kernel
theorem dL_law_30 : decode cL_law 30 = .ok (.bipush 15, 2) := by decide +kernel
theorem dL_law_32 : decode cL_law 32 = .ok (.iand, 1) := by decide +kernel
theorem dL_law_33 : decode cL_law 33 = .ok (.tableswitch 577 0 15 #[79, 132, 175, 198, 231, 254, 277, 310, 343, 406, 439, 452, 465, 508, 531, 554], 79) := by decide +kernel
theorem dL_law_112 : decode cL_law 112 = .ok (.aload_n 1, 1) := by decide +kernel
theorem dL_law_113 : decode cL_law 113 = .ok (.aload_n 0, 1) := by decide +kernel
theorem dL_law_114 : decode cL_law 114 = .ok (.iload_n 3, 1) := by decide +kernel
theorem dL_law_115 : decode cL_law 115 = .ok (.iconst 1, 1) := by decide +kernel
theorem dL_law_116 : decode cL_law 116 = .ok (.iadd, 1) := by decide +kernel
theorem dL_law_117 : decode cL_law 117 = .ok (.iaload, 1) := by decide +kernel
theorem dL_law_118 : decode cL_law 118 = .ok (.aload_n 0, 1) := by decide +kernel
theorem dL_law_119 : decode cL_law 119 = .ok (.iload_n 3, 1) := by decide +kernel
theorem dL_law_120 : decode cL_law 120 = .ok (.iconst 2, 1) := by decide +kernel
theorem dL_law_121 : decode cL_law 121 = .ok (.iadd, 1) := by decide +kernel
theorem dL_law_122 : decode cL_law 122 = .ok (.iaload, 1) := by decide +kernel
theorem dL_law_123 : decode cL_law 123 = .ok (.aload_n 0, 1) := by decide +kernel
theorem dL_law_124 : decode cL_law 124 = .ok (.iload_n 3, 1) := by decide +kernel
theorem dL_law_125 : decode cL_law 125 = .ok (.iconst 3, 1) := by decide +kernel
theorem dL_law_126 : decode cL_law 126 = .ok (.iadd, 1) := by decide +kernel
theorem dL_law_127 : decode cL_law 127 = .ok (.iaload, 1) := by decide +kernel
theorem dL_law_128 : decode cL_law 128 = .ok (.aload_n 0, 1) := by decide +kernel
theorem dL_law_129 : decode cL_law 129 = .ok (.iload_n 3, 1) := by decide +kernel
theorem dL_law_130 : decode cL_law 130 = .ok (.iconst 4, 1) := by decide +kernel
theorem dL_law_131 : decode cL_law 131 = .ok (.iadd, 1) := by decide +kernel
theorem dL_law_132 : decode cL_law 132 = .ok (.iaload, 1) := by decide +kernel
theorem dL_law_133 : decode cL_law 133 = .ok (.invokevirtual 13, 3) := by decide +kernel
theorem dL_law_136 : decode cL_law 136 = .ok (.aload_n 2, 1) := by decide +kernel
theorem dL_law_137 : decode cL_law 137 = .ok (.aload_n 0, 1) := by decide +kernel
theorem dL_law_138 : decode cL_law 138 = .ok (.iload_n 3, 1) := by decide +kernel
theorem dL_law_139 : decode cL_law 139 = .ok (.iconst 1, 1) := by decide +kernel
theorem dL_law_140 : decode cL_law 140 = .ok (.iadd, 1) := by decide +kernel
theorem dL_law_141 : decode cL_law 141 = .ok (.iaload, 1) := by decide +kernel
theorem dL_law_142 : decode cL_law 142 = .ok (.aload_n 0, 1) := by decide +kernel
theorem dL_law_143 : decode cL_law 143 = .ok (.iload_n 3, 1) := by decide +kernel
theorem dL_law_144 : decode cL_law 144 = .ok (.iconst 2, 1) := by decide +kernel
theorem dL_law_145 : decode cL_law 145 = .ok (.iadd, 1) := by decide +kernel
theorem dL_law_146 : decode cL_law 146 = .ok (.iaload, 1) := by decide +kernel
theorem dL_law_147 : decode cL_law 147 = .ok (.aload_n 0, 1) := by decide +kernel
theorem dL_law_148 : decode cL_law 148 = .ok (.iload_n 3, 1) := by decide +kernel
theorem dL_law_149 : decode cL_law 149 = .ok (.iconst 3, 1) := by decide +kernel
theorem dL_law_150 : decode cL_law 150 = .ok (.iadd, 1) := by decide +kernel
theorem dL_law_151 : decode cL_law 151 = .ok (.iaload, 1) := by decide +kernel
theorem dL_law_152 : decode cL_law 152 = .ok (.aload_n 0, 1) := by decide +kernel
theorem dL_law_153 : decode cL_law 153 = .ok (.iload_n 3, 1) := by decide +kernel
theorem dL_law_154 : decode cL_law 154 = .ok (.iconst 4, 1) := by decide +kernel
theorem dL_law_155 : decode cL_law 155 = .ok (.iadd, 1) := by decide +kernel
theorem dL_law_156 : decode cL_law 156 = .ok (.iaload, 1) := by decide +kernel
theorem dL_law_157 : decode cL_law 157 = .ok (.invokevirtual 17, 3) := by decide +kernel
theorem dL_law_160 : decode cL_law 160 = .ok (.if_icmp .eq 450, 3) := by decide +kernel
theorem dL_law_163 : decode cL_law 163 = .ok (.iconst 0, 1) := by decide +kernel
theorem dL_law_164 : decode cL_law 164 = .ok (.ireturn, 1) := by decide +kernel
theorem dL_law_165 : decode cL_law 165 = .ok (.aload_n 1, 1) := by decide +kernel
theorem dL_law_166 : decode cL_law 166 = .ok (.aload_n 0, 1) := by decide +kernel
theorem dL_law_167 : decode cL_law 167 = .ok (.iload_n 3, 1) := by decide +kernel
theorem dL_law_168 : decode cL_law 168 = .ok (.iconst 1, 1) := by decide +kernel
theorem dL_law_169 : decode cL_law 169 = .ok (.iadd, 1) := by decide +kernel
theorem dL_law_170 : decode cL_law 170 = .ok (.iaload, 1) := by decide +kernel
theorem dL_law_171 : decode cL_law 171 = .ok (.aload_n 0, 1) := by decide +kernel
theorem dL_law_172 : decode cL_law 172 = .ok (.iload_n 3, 1) := by decide +kernel
theorem dL_law_173 : decode cL_law 173 = .ok (.iconst 2, 1) := by decide +kernel
theorem dL_law_174 : decode cL_law 174 = .ok (.iadd, 1) := by decide +kernel
theorem dL_law_175 : decode cL_law 175 = .ok (.iaload, 1) := by decide +kernel
theorem dL_law_176 : decode cL_law 176 = .ok (.aload_n 0, 1) := by decide +kernel
theorem dL_law_177 : decode cL_law 177 = .ok (.iload_n 3, 1) := by decide +kernel
theorem dL_law_178 : decode cL_law 178 = .ok (.iconst 3, 1) := by decide +kernel
theorem dL_law_179 : decode cL_law 179 = .ok (.iadd, 1) := by decide +kernel
theorem dL_law_180 : decode cL_law 180 = .ok (.iaload, 1) := by decide +kernel
theorem dL_law_181 : decode cL_law 181 = .ok (.invokevirtual 18, 3) := by decide +kernel
theorem dL_law_184 : decode cL_law 184 = .ok (.aload_n 2, 1) := by decide +kernel
theorem dL_law_185 : decode cL_law 185 = .ok (.aload_n 0, 1) := by decide +kernel
theorem dL_law_186 : decode cL_law 186 = .ok (.iload_n 3, 1) := by decide +kernel
theorem dL_law_187 : decode cL_law 187 = .ok (.iconst 1, 1) := by decide +kernel
theorem dL_law_188 : decode cL_law 188 = .ok (.iadd, 1) := by decide +kernel
theorem dL_law_189 : decode cL_law 189 = .ok (.iaload, 1) := by decide +kernel
theorem dL_law_190 : decode cL_law 190 = .ok (.aload_n 0, 1) := by decide +kernel
theorem dL_law_191 : decode cL_law 191 = .ok (.iload_n 3, 1) := by decide +kernel
theorem dL_law_192 : decode cL_law 192 = .ok (.iconst 2, 1) := by decide +kernel
theorem dL_law_193 : decode cL_law 193 = .ok (.iadd, 1) := by decide +kernel
theorem dL_law_194 : decode cL_law 194 = .ok (.iaload, 1) := by decide +kernel
theorem dL_law_195 : decode cL_law 195 = .ok (.aload_n 0, 1) := by decide +kernel
theorem dL_law_196 : decode cL_law 196 = .ok (.iload_n 3, 1) := by decide +kernel
theorem dL_law_197 : decode cL_law 197 = .ok (.iconst 3, 1) := by decide +kernel
theorem dL_law_198 : decode cL_law 198 = .ok (.iadd, 1) := by decide +kernel
theorem dL_law_199 : decode cL_law 199 = .ok (.iaload, 1) := by decide +kernel
theorem dL_law_200 : decode cL_law 200 = .ok (.invokevirtual 22, 3) := by decide +kernel
theorem dL_law_203 : decode cL_law 203 = .ok (.if_icmp .eq 407, 3) := by decide +kernel
theorem dL_law_206 : decode cL_law 206 = .ok (.iconst 0, 1) := by decide +kernel
theorem dL_law_207 : decode cL_law 207 = .ok (.ireturn, 1) := by decide +kernel
theorem dL_law_208 : decode cL_law 208 = .ok (.aload_n 1, 1) := by decide +kernel
theorem dL_law_209 : decode cL_law 209 = .ok (.aload_n 0, 1) := by decide +kernel
theorem dL_law_210 : decode cL_law 210 = .ok (.iload_n 3, 1) := by decide +kernel
theorem dL_law_211 : decode cL_law 211 = .ok (.iconst 1, 1) := by decide +kernel
theorem dL_law_212 : decode cL_law 212 = .ok (.iadd, 1) := by decide +kernel
theorem dL_law_213 : decode cL_law 213 = .ok (.iaload, 1) := by decide +kernel
theorem dL_law_214 : decode cL_law 214 = .ok (.invokevirtual 23, 3) := by decide +kernel
theorem dL_law_217 : decode cL_law 217 = .ok (.aload_n 2, 1) := by decide +kernel
theorem dL_law_218 : decode cL_law 218 = .ok (.aload_n 0, 1) := by decide +kernel
theorem dL_law_219 : decode cL_law 219 = .ok (.iload_n 3, 1) := by decide +kernel
theorem dL_law_220 : decode cL_law 220 = .ok (.iconst 1, 1) := by decide +kernel
theorem dL_law_221 : decode cL_law 221 = .ok (.iadd, 1) := by decide +kernel
theorem dL_law_222 : decode cL_law 222 = .ok (.iaload, 1) := by decide +kernel
theorem dL_law_223 : decode cL_law 223 = .ok (.invokevirtual 27, 3) := by decide +kernel
theorem dL_law_226 : decode cL_law 226 = .ok (.if_icmp .eq 384, 3) := by decide +kernel
theorem dL_law_229 : decode cL_law 229 = .ok (.iconst 0, 1) := by decide +kernel
theorem dL_law_230 : decode cL_law 230 = .ok (.ireturn, 1) := by decide +kernel
theorem dL_law_231 : decode cL_law 231 = .ok (.aload_n 1, 1) := by decide +kernel
theorem dL_law_232 : decode cL_law 232 = .ok (.aload_n 0, 1) := by decide +kernel
theorem dL_law_233 : decode cL_law 233 = .ok (.iload_n 3, 1) := by decide +kernel
theorem dL_law_234 : decode cL_law 234 = .ok (.iconst 1, 1) := by decide +kernel
theorem dL_law_235 : decode cL_law 235 = .ok (.iadd, 1) := by decide +kernel
theorem dL_law_236 : decode cL_law 236 = .ok (.iaload, 1) := by decide +kernel
theorem dL_law_237 : decode cL_law 237 = .ok (.aload_n 0, 1) := by decide +kernel
theorem dL_law_238 : decode cL_law 238 = .ok (.iload_n 3, 1) := by decide +kernel
theorem dL_law_239 : decode cL_law 239 = .ok (.iconst 2, 1) := by decide +kernel
theorem dL_law_240 : decode cL_law 240 = .ok (.iadd, 1) := by decide +kernel
theorem dL_law_241 : decode cL_law 241 = .ok (.iaload, 1) := by decide +kernel
theorem dL_law_242 : decode cL_law 242 = .ok (.invokevirtual 28, 3) := by decide +kernel
theorem dL_law_245 : decode cL_law 245 = .ok (.aload_n 2, 1) := by decide +kernel
theorem dL_law_246 : decode cL_law 246 = .ok (.aload_n 0, 1) := by decide +kernel
theorem dL_law_247 : decode cL_law 247 = .ok (.iload_n 3, 1) := by decide +kernel
theorem dL_law_248 : decode cL_law 248 = .ok (.iconst 1, 1) := by decide +kernel
theorem dL_law_249 : decode cL_law 249 = .ok (.iadd, 1) := by decide +kernel
theorem dL_law_250 : decode cL_law 250 = .ok (.iaload, 1) := by decide +kernel
theorem dL_law_251 : decode cL_law 251 = .ok (.aload_n 0, 1) := by decide +kernel
theorem dL_law_252 : decode cL_law 252 = .ok (.iload_n 3, 1) := by decide +kernel
theorem dL_law_253 : decode cL_law 253 = .ok (.iconst 2, 1) := by decide +kernel
theorem dL_law_254 : decode cL_law 254 = .ok (.iadd, 1) := by decide +kernel
theorem dL_law_255 : decode cL_law 255 = .ok (.iaload, 1) := by decide +kernel
theorem dL_law_256 : decode cL_law 256 = .ok (.invokevirtual 32, 3) := by decide +kernel
theorem dL_law_259 : decode cL_law 259 = .ok (.if_icmp .eq 351, 3) := by decide +kernel
theorem dL_law_262 : decode cL_law 262 = .ok (.iconst 0, 1) := by decide +kernel
theorem dL_law_263 : decode cL_law 263 = .ok (.ireturn, 1) := by decide +kernel
theorem dL_law_264 : decode cL_law 264 = .ok (.aload_n 1, 1) := by decide +kernel
theorem dL_law_265 : decode cL_law 265 = .ok (.aload_n 0, 1) := by decide +kernel
theorem dL_law_266 : decode cL_law 266 = .ok (.iload_n 3, 1) := by decide +kernel
theorem dL_law_267 : decode cL_law 267 = .ok (.iconst 1, 1) := by decide +kernel
theorem dL_law_268 : decode cL_law 268 = .ok (.iadd, 1) := by decide +kernel
theorem dL_law_269 : decode cL_law 269 = .ok (.iaload, 1) := by decide +kernel
theorem dL_law_270 : decode cL_law 270 = .ok (.invokevirtual 33, 3) := by decide +kernel
theorem dL_law_273 : decode cL_law 273 = .ok (.aload_n 2, 1) := by decide +kernel
theorem dL_law_274 : decode cL_law 274 = .ok (.aload_n 0, 1) := by decide +kernel
theorem dL_law_275 : decode cL_law 275 = .ok (.iload_n 3, 1) := by decide +kernel
theorem dL_law_276 : decode cL_law 276 = .ok (.iconst 1, 1) := by decide +kernel
theorem dL_law_277 : decode cL_law 277 = .ok (.iadd, 1) := by decide +kernel
theorem dL_law_278 : decode cL_law 278 = .ok (.iaload, 1) := by decide +kernel
theorem dL_law_279 : decode cL_law 279 = .ok (.invokevirtual 36, 3) := by decide +kernel
theorem dL_law_282 : decode cL_law 282 = .ok (.if_icmp .eq 328, 3) := by decide +kernel
theorem dL_law_285 : decode cL_law 285 = .ok (.iconst 0, 1) := by decide +kernel
theorem dL_law_286 : decode cL_law 286 = .ok (.ireturn, 1) := by decide +kernel
theorem dL_law_287 : decode cL_law 287 = .ok (.aload_n 1, 1) := by decide +kernel
theorem dL_law_288 : decode cL_law 288 = .ok (.aload_n 0, 1) := by decide +kernel
theorem dL_law_289 : decode cL_law 289 = .ok (.iload_n 3, 1) := by decide +kernel
theorem dL_law_290 : decode cL_law 290 = .ok (.iconst 1, 1) := by decide +kernel
theorem dL_law_291 : decode cL_law 291 = .ok (.iadd, 1) := by decide +kernel
theorem dL_law_292 : decode cL_law 292 = .ok (.iaload, 1) := by decide +kernel
theorem dL_law_293 : decode cL_law 293 = .ok (.invokevirtual 37, 3) := by decide +kernel
theorem dL_law_296 : decode cL_law 296 = .ok (.aload_n 2, 1) := by decide +kernel
theorem dL_law_297 : decode cL_law 297 = .ok (.aload_n 0, 1) := by decide +kernel
theorem dL_law_298 : decode cL_law 298 = .ok (.iload_n 3, 1) := by decide +kernel
theorem dL_law_299 : decode cL_law 299 = .ok (.iconst 1, 1) := by decide +kernel
theorem dL_law_300 : decode cL_law 300 = .ok (.iadd, 1) := by decide +kernel
theorem dL_law_301 : decode cL_law 301 = .ok (.iaload, 1) := by decide +kernel
theorem dL_law_302 : decode cL_law 302 = .ok (.invokevirtual 40, 3) := by decide +kernel
theorem dL_law_305 : decode cL_law 305 = .ok (.if_icmp .eq 305, 3) := by decide +kernel
theorem dL_law_308 : decode cL_law 308 = .ok (.iconst 0, 1) := by decide +kernel
theorem dL_law_309 : decode cL_law 309 = .ok (.ireturn, 1) := by decide +kernel
theorem dL_law_310 : decode cL_law 310 = .ok (.aload_n 1, 1) := by decide +kernel
theorem dL_law_311 : decode cL_law 311 = .ok (.aload_n 0, 1) := by decide +kernel
theorem dL_law_312 : decode cL_law 312 = .ok (.iload_n 3, 1) := by decide +kernel
theorem dL_law_313 : decode cL_law 313 = .ok (.iconst 1, 1) := by decide +kernel
theorem dL_law_314 : decode cL_law 314 = .ok (.iadd, 1) := by decide +kernel
theorem dL_law_315 : decode cL_law 315 = .ok (.iaload, 1) := by decide +kernel
theorem dL_law_316 : decode cL_law 316 = .ok (.aload_n 0, 1) := by decide +kernel
theorem dL_law_317 : decode cL_law 317 = .ok (.iload_n 3, 1) := by decide +kernel
theorem dL_law_318 : decode cL_law 318 = .ok (.iconst 2, 1) := by decide +kernel
theorem dL_law_319 : decode cL_law 319 = .ok (.iadd, 1) := by decide +kernel
theorem dL_law_320 : decode cL_law 320 = .ok (.iaload, 1) := by decide +kernel
theorem dL_law_321 : decode cL_law 321 = .ok (.invokevirtual 41, 3) := by decide +kernel
theorem dL_law_324 : decode cL_law 324 = .ok (.aload_n 2, 1) := by decide +kernel
theorem dL_law_325 : decode cL_law 325 = .ok (.aload_n 0, 1) := by decide +kernel
theorem dL_law_326 : decode cL_law 326 = .ok (.iload_n 3, 1) := by decide +kernel
theorem dL_law_327 : decode cL_law 327 = .ok (.iconst 1, 1) := by decide +kernel
theorem dL_law_328 : decode cL_law 328 = .ok (.iadd, 1) := by decide +kernel
theorem dL_law_329 : decode cL_law 329 = .ok (.iaload, 1) := by decide +kernel
theorem dL_law_330 : decode cL_law 330 = .ok (.aload_n 0, 1) := by decide +kernel
theorem dL_law_331 : decode cL_law 331 = .ok (.iload_n 3, 1) := by decide +kernel
theorem dL_law_332 : decode cL_law 332 = .ok (.iconst 2, 1) := by decide +kernel
theorem dL_law_333 : decode cL_law 333 = .ok (.iadd, 1) := by decide +kernel
theorem dL_law_334 : decode cL_law 334 = .ok (.iaload, 1) := by decide +kernel
theorem dL_law_335 : decode cL_law 335 = .ok (.invokevirtual 44, 3) := by decide +kernel
theorem dL_law_338 : decode cL_law 338 = .ok (.if_icmp .eq 272, 3) := by decide +kernel
theorem dL_law_341 : decode cL_law 341 = .ok (.iconst 0, 1) := by decide +kernel
theorem dL_law_342 : decode cL_law 342 = .ok (.ireturn, 1) := by decide +kernel
theorem dL_law_343 : decode cL_law 343 = .ok (.aload_n 1, 1) := by decide +kernel
theorem dL_law_344 : decode cL_law 344 = .ok (.aload_n 0, 1) := by decide +kernel
theorem dL_law_345 : decode cL_law 345 = .ok (.iload_n 3, 1) := by decide +kernel
theorem dL_law_346 : decode cL_law 346 = .ok (.iconst 1, 1) := by decide +kernel
theorem dL_law_347 : decode cL_law 347 = .ok (.iadd, 1) := by decide +kernel
theorem dL_law_348 : decode cL_law 348 = .ok (.iaload, 1) := by decide +kernel
theorem dL_law_349 : decode cL_law 349 = .ok (.aload_n 0, 1) := by decide +kernel
theorem dL_law_350 : decode cL_law 350 = .ok (.iload_n 3, 1) := by decide +kernel
theorem dL_law_351 : decode cL_law 351 = .ok (.iconst 2, 1) := by decide +kernel
theorem dL_law_352 : decode cL_law 352 = .ok (.iadd, 1) := by decide +kernel
theorem dL_law_353 : decode cL_law 353 = .ok (.iaload, 1) := by decide +kernel
theorem dL_law_354 : decode cL_law 354 = .ok (.invokevirtual 45, 3) := by decide +kernel
theorem dL_law_357 : decode cL_law 357 = .ok (.aload_n 2, 1) := by decide +kernel
theorem dL_law_358 : decode cL_law 358 = .ok (.aload_n 0, 1) := by decide +kernel
theorem dL_law_359 : decode cL_law 359 = .ok (.iload_n 3, 1) := by decide +kernel
theorem dL_law_360 : decode cL_law 360 = .ok (.iconst 1, 1) := by decide +kernel
theorem dL_law_361 : decode cL_law 361 = .ok (.iadd, 1) := by decide +kernel
theorem dL_law_362 : decode cL_law 362 = .ok (.iaload, 1) := by decide +kernel
theorem dL_law_363 : decode cL_law 363 = .ok (.aload_n 0, 1) := by decide +kernel
theorem dL_law_364 : decode cL_law 364 = .ok (.iload_n 3, 1) := by decide +kernel
theorem dL_law_365 : decode cL_law 365 = .ok (.iconst 2, 1) := by decide +kernel
theorem dL_law_366 : decode cL_law 366 = .ok (.iadd, 1) := by decide +kernel
theorem dL_law_367 : decode cL_law 367 = .ok (.iaload, 1) := by decide +kernel
theorem dL_law_368 : decode cL_law 368 = .ok (.invokevirtual 48, 3) := by decide +kernel
theorem dL_law_371 : decode cL_law 371 = .ok (.if_icmp .eq 239, 3) := by decide +kernel
theorem dL_law_374 : decode cL_law 374 = .ok (.iconst 0, 1) := by decide +kernel
theorem dL_law_375 : decode cL_law 375 = .ok (.ireturn, 1) := by decide +kernel
theorem dL_law_376 : decode cL_law 376 = .ok (.aload_n 1, 1) := by decide +kernel
theorem dL_law_377 : decode cL_law 377 = .ok (.aload_n 0, 1) := by decide +kernel
theorem dL_law_378 : decode cL_law 378 = .ok (.iload_n 3, 1) := by decide +kernel
theorem dL_law_379 : decode cL_law 379 = .ok (.iconst 1, 1) := by decide +kernel
theorem dL_law_380 : decode cL_law 380 = .ok (.iadd, 1) := by decide +kernel
theorem dL_law_381 : decode cL_law 381 = .ok (.iaload, 1) := by decide +kernel
theorem dL_law_382 : decode cL_law 382 = .ok (.aload_n 0, 1) := by decide +kernel
theorem dL_law_383 : decode cL_law 383 = .ok (.iload_n 3, 1) := by decide +kernel
theorem dL_law_384 : decode cL_law 384 = .ok (.iconst 2, 1) := by decide +kernel
theorem dL_law_385 : decode cL_law 385 = .ok (.iadd, 1) := by decide +kernel
theorem dL_law_386 : decode cL_law 386 = .ok (.iaload, 1) := by decide +kernel
theorem dL_law_387 : decode cL_law 387 = .ok (.aload_n 0, 1) := by decide +kernel
theorem dL_law_388 : decode cL_law 388 = .ok (.iload_n 3, 1) := by decide +kernel
theorem dL_law_389 : decode cL_law 389 = .ok (.iconst 3, 1) := by decide +kernel
theorem dL_law_390 : decode cL_law 390 = .ok (.iadd, 1) := by decide +kernel
theorem dL_law_391 : decode cL_law 391 = .ok (.iaload, 1) := by decide +kernel
theorem dL_law_392 : decode cL_law 392 = .ok (.aload_n 0, 1) := by decide +kernel
theorem dL_law_393 : decode cL_law 393 = .ok (.iload_n 3, 1) := by decide +kernel
theorem dL_law_394 : decode cL_law 394 = .ok (.iconst 4, 1) := by decide +kernel
theorem dL_law_395 : decode cL_law 395 = .ok (.iadd, 1) := by decide +kernel
theorem dL_law_396 : decode cL_law 396 = .ok (.iaload, 1) := by decide +kernel
theorem dL_law_397 : decode cL_law 397 = .ok (.aload_n 0, 1) := by decide +kernel
theorem dL_law_398 : decode cL_law 398 = .ok (.iload_n 3, 1) := by decide +kernel
theorem dL_law_399 : decode cL_law 399 = .ok (.iconst 5, 1) := by decide +kernel
theorem dL_law_400 : decode cL_law 400 = .ok (.iadd, 1) := by decide +kernel
theorem dL_law_401 : decode cL_law 401 = .ok (.iaload, 1) := by decide +kernel
theorem dL_law_402 : decode cL_law 402 = .ok (.invokevirtual 49, 3) := by decide +kernel
theorem dL_law_405 : decode cL_law 405 = .ok (.aload_n 2, 1) := by decide +kernel
theorem dL_law_406 : decode cL_law 406 = .ok (.aload_n 0, 1) := by decide +kernel
theorem dL_law_407 : decode cL_law 407 = .ok (.iload_n 3, 1) := by decide +kernel
theorem dL_law_408 : decode cL_law 408 = .ok (.iconst 1, 1) := by decide +kernel
theorem dL_law_409 : decode cL_law 409 = .ok (.iadd, 1) := by decide +kernel
theorem dL_law_410 : decode cL_law 410 = .ok (.iaload, 1) := by decide +kernel
theorem dL_law_411 : decode cL_law 411 = .ok (.aload_n 0, 1) := by decide +kernel
theorem dL_law_412 : decode cL_law 412 = .ok (.iload_n 3, 1) := by decide +kernel
theorem dL_law_413 : decode cL_law 413 = .ok (.iconst 2, 1) := by decide +kernel
theorem dL_law_414 : decode cL_law 414 = .ok (.iadd, 1) := by decide +kernel
theorem dL_law_415 : decode cL_law 415 = .ok (.iaload, 1) := by decide +kernel
theorem dL_law_416 : decode cL_law 416 = .ok (.aload_n 0, 1) := by decide +kernel
theorem dL_law_417 : decode cL_law 417 = .ok (.iload_n 3, 1) := by decide +kernel
theorem dL_law_418 : decode cL_law 418 = .ok (.iconst 3, 1) := by decide +kernel
theorem dL_law_419 : decode cL_law 419 = .ok (.iadd, 1) := by decide +kernel
theorem dL_law_420 : decode cL_law 420 = .ok (.iaload, 1) := by decide +kernel
theorem dL_law_421 : decode cL_law 421 = .ok (.aload_n 0, 1) := by decide +kernel
theorem dL_law_422 : decode cL_law 422 = .ok (.iload_n 3, 1) := by decide +kernel
theorem dL_law_423 : decode cL_law 423 = .ok (.iconst 4, 1) := by decide +kernel
theorem dL_law_424 : decode cL_law 424 = .ok (.iadd, 1) := by decide +kernel
theorem dL_law_425 : decode cL_law 425 = .ok (.iaload, 1) := by decide +kernel
theorem dL_law_426 : decode cL_law 426 = .ok (.aload_n 0, 1) := by decide +kernel
theorem dL_law_427 : decode cL_law 427 = .ok (.iload_n 3, 1) := by decide +kernel
theorem dL_law_428 : decode cL_law 428 = .ok (.iconst 5, 1) := by decide +kernel
theorem dL_law_429 : decode cL_law 429 = .ok (.iadd, 1) := by decide +kernel
theorem dL_law_430 : decode cL_law 430 = .ok (.iaload, 1) := by decide +kernel
theorem dL_law_431 : decode cL_law 431 = .ok (.invokevirtual 53, 3) := by decide +kernel
theorem dL_law_434 : decode cL_law 434 = .ok (.if_icmp .eq 176, 3) := by decide +kernel
theorem dL_law_437 : decode cL_law 437 = .ok (.iconst 0, 1) := by decide +kernel
theorem dL_law_438 : decode cL_law 438 = .ok (.ireturn, 1) := by decide +kernel
theorem dL_law_439 : decode cL_law 439 = .ok (.aload_n 1, 1) := by decide +kernel
theorem dL_law_440 : decode cL_law 440 = .ok (.aload_n 0, 1) := by decide +kernel
theorem dL_law_441 : decode cL_law 441 = .ok (.iload_n 3, 1) := by decide +kernel
theorem dL_law_442 : decode cL_law 442 = .ok (.iconst 1, 1) := by decide +kernel
theorem dL_law_443 : decode cL_law 443 = .ok (.iadd, 1) := by decide +kernel
theorem dL_law_444 : decode cL_law 444 = .ok (.iaload, 1) := by decide +kernel
theorem dL_law_445 : decode cL_law 445 = .ok (.aload_n 0, 1) := by decide +kernel
theorem dL_law_446 : decode cL_law 446 = .ok (.iload_n 3, 1) := by decide +kernel
theorem dL_law_447 : decode cL_law 447 = .ok (.iconst 2, 1) := by decide +kernel
theorem dL_law_448 : decode cL_law 448 = .ok (.iadd, 1) := by decide +kernel
theorem dL_law_449 : decode cL_law 449 = .ok (.iaload, 1) := by decide +kernel
theorem dL_law_450 : decode cL_law 450 = .ok (.invokevirtual 54, 3) := by decide +kernel
theorem dL_law_453 : decode cL_law 453 = .ok (.aload_n 2, 1) := by decide +kernel
theorem dL_law_454 : decode cL_law 454 = .ok (.aload_n 0, 1) := by decide +kernel
theorem dL_law_455 : decode cL_law 455 = .ok (.iload_n 3, 1) := by decide +kernel
theorem dL_law_456 : decode cL_law 456 = .ok (.iconst 1, 1) := by decide +kernel
theorem dL_law_457 : decode cL_law 457 = .ok (.iadd, 1) := by decide +kernel
theorem dL_law_458 : decode cL_law 458 = .ok (.iaload, 1) := by decide +kernel
theorem dL_law_459 : decode cL_law 459 = .ok (.aload_n 0, 1) := by decide +kernel
theorem dL_law_460 : decode cL_law 460 = .ok (.iload_n 3, 1) := by decide +kernel
theorem dL_law_461 : decode cL_law 461 = .ok (.iconst 2, 1) := by decide +kernel
theorem dL_law_462 : decode cL_law 462 = .ok (.iadd, 1) := by decide +kernel
theorem dL_law_463 : decode cL_law 463 = .ok (.iaload, 1) := by decide +kernel
theorem dL_law_464 : decode cL_law 464 = .ok (.invokevirtual 57, 3) := by decide +kernel
theorem dL_law_467 : decode cL_law 467 = .ok (.if_icmp .eq 143, 3) := by decide +kernel
theorem dL_law_470 : decode cL_law 470 = .ok (.iconst 0, 1) := by decide +kernel
theorem dL_law_471 : decode cL_law 471 = .ok (.ireturn, 1) := by decide +kernel
theorem dL_law_472 : decode cL_law 472 = .ok (.aload_n 1, 1) := by decide +kernel
theorem dL_law_473 : decode cL_law 473 = .ok (.invokevirtual 58, 3) := by decide +kernel
theorem dL_law_476 : decode cL_law 476 = .ok (.aload_n 2, 1) := by decide +kernel
theorem dL_law_477 : decode cL_law 477 = .ok (.invokevirtual 62, 3) := by decide +kernel
theorem dL_law_480 : decode cL_law 480 = .ok (.if_icmp .eq 130, 3) := by decide +kernel
theorem dL_law_483 : decode cL_law 483 = .ok (.iconst 0, 1) := by decide +kernel
theorem dL_law_484 : decode cL_law 484 = .ok (.ireturn, 1) := by decide +kernel
theorem dL_law_485 : decode cL_law 485 = .ok (.aload_n 1, 1) := by decide +kernel
theorem dL_law_486 : decode cL_law 486 = .ok (.invokevirtual 63, 3) := by decide +kernel
theorem dL_law_489 : decode cL_law 489 = .ok (.aload_n 2, 1) := by decide +kernel
theorem dL_law_490 : decode cL_law 490 = .ok (.invokevirtual 66, 3) := by decide +kernel
theorem dL_law_493 : decode cL_law 493 = .ok (.if_icmp .eq 117, 3) := by decide +kernel
theorem dL_law_496 : decode cL_law 496 = .ok (.iconst 0, 1) := by decide +kernel
theorem dL_law_497 : decode cL_law 497 = .ok (.ireturn, 1) := by decide +kernel
theorem dL_law_498 : decode cL_law 498 = .ok (.aload_n 1, 1) := by decide +kernel
theorem dL_law_499 : decode cL_law 499 = .ok (.aload_n 0, 1) := by decide +kernel
theorem dL_law_500 : decode cL_law 500 = .ok (.iload_n 3, 1) := by decide +kernel
theorem dL_law_501 : decode cL_law 501 = .ok (.iconst 1, 1) := by decide +kernel
theorem dL_law_502 : decode cL_law 502 = .ok (.iadd, 1) := by decide +kernel
theorem dL_law_503 : decode cL_law 503 = .ok (.iaload, 1) := by decide +kernel
theorem dL_law_504 : decode cL_law 504 = .ok (.aload_n 0, 1) := by decide +kernel
theorem dL_law_505 : decode cL_law 505 = .ok (.iload_n 3, 1) := by decide +kernel
theorem dL_law_506 : decode cL_law 506 = .ok (.iconst 2, 1) := by decide +kernel
theorem dL_law_507 : decode cL_law 507 = .ok (.iadd, 1) := by decide +kernel
theorem dL_law_508 : decode cL_law 508 = .ok (.iaload, 1) := by decide +kernel
theorem dL_law_509 : decode cL_law 509 = .ok (.aload_n 0, 1) := by decide +kernel
theorem dL_law_510 : decode cL_law 510 = .ok (.iload_n 3, 1) := by decide +kernel
theorem dL_law_511 : decode cL_law 511 = .ok (.iconst 3, 1) := by decide +kernel
theorem dL_law_512 : decode cL_law 512 = .ok (.iadd, 1) := by decide +kernel
theorem dL_law_513 : decode cL_law 513 = .ok (.iaload, 1) := by decide +kernel
theorem dL_law_514 : decode cL_law 514 = .ok (.invokevirtual 67, 3) := by decide +kernel
theorem dL_law_517 : decode cL_law 517 = .ok (.aload_n 2, 1) := by decide +kernel
theorem dL_law_518 : decode cL_law 518 = .ok (.aload_n 0, 1) := by decide +kernel
theorem dL_law_519 : decode cL_law 519 = .ok (.iload_n 3, 1) := by decide +kernel
theorem dL_law_520 : decode cL_law 520 = .ok (.iconst 1, 1) := by decide +kernel
theorem dL_law_521 : decode cL_law 521 = .ok (.iadd, 1) := by decide +kernel
theorem dL_law_522 : decode cL_law 522 = .ok (.iaload, 1) := by decide +kernel
theorem dL_law_523 : decode cL_law 523 = .ok (.aload_n 0, 1) := by decide +kernel
theorem dL_law_524 : decode cL_law 524 = .ok (.iload_n 3, 1) := by decide +kernel
theorem dL_law_525 : decode cL_law 525 = .ok (.iconst 2, 1) := by decide +kernel
theorem dL_law_526 : decode cL_law 526 = .ok (.iadd, 1) := by decide +kernel
theorem dL_law_527 : decode cL_law 527 = .ok (.iaload, 1) := by decide +kernel
theorem dL_law_528 : decode cL_law 528 = .ok (.aload_n 0, 1) := by decide +kernel
theorem dL_law_529 : decode cL_law 529 = .ok (.iload_n 3, 1) := by decide +kernel
theorem dL_law_530 : decode cL_law 530 = .ok (.iconst 3, 1) := by decide +kernel
theorem dL_law_531 : decode cL_law 531 = .ok (.iadd, 1) := by decide +kernel
theorem dL_law_532 : decode cL_law 532 = .ok (.iaload, 1) := by decide +kernel
theorem dL_law_533 : decode cL_law 533 = .ok (.invokevirtual 70, 3) := by decide +kernel
theorem dL_law_536 : decode cL_law 536 = .ok (.if_icmp .eq 74, 3) := by decide +kernel
theorem dL_law_539 : decode cL_law 539 = .ok (.iconst 0, 1) := by decide +kernel
theorem dL_law_540 : decode cL_law 540 = .ok (.ireturn, 1) := by decide +kernel
theorem dL_law_541 : decode cL_law 541 = .ok (.aload_n 1, 1) := by decide +kernel
theorem dL_law_542 : decode cL_law 542 = .ok (.aload_n 0, 1) := by decide +kernel
theorem dL_law_543 : decode cL_law 543 = .ok (.iload_n 3, 1) := by decide +kernel
theorem dL_law_544 : decode cL_law 544 = .ok (.iconst 1, 1) := by decide +kernel
theorem dL_law_545 : decode cL_law 545 = .ok (.iadd, 1) := by decide +kernel
theorem dL_law_546 : decode cL_law 546 = .ok (.iaload, 1) := by decide +kernel
theorem dL_law_547 : decode cL_law 547 = .ok (.invokevirtual 71, 3) := by decide +kernel
theorem dL_law_550 : decode cL_law 550 = .ok (.aload_n 2, 1) := by decide +kernel
theorem dL_law_551 : decode cL_law 551 = .ok (.aload_n 0, 1) := by decide +kernel
theorem dL_law_552 : decode cL_law 552 = .ok (.iload_n 3, 1) := by decide +kernel
theorem dL_law_553 : decode cL_law 553 = .ok (.iconst 1, 1) := by decide +kernel
theorem dL_law_554 : decode cL_law 554 = .ok (.iadd, 1) := by decide +kernel
theorem dL_law_555 : decode cL_law 555 = .ok (.iaload, 1) := by decide +kernel
theorem dL_law_556 : decode cL_law 556 = .ok (.invokevirtual 74, 3) := by decide +kernel
theorem dL_law_559 : decode cL_law 559 = .ok (.if_icmp .eq 51, 3) := by decide +kernel
theorem dL_law_562 : decode cL_law 562 = .ok (.iconst 0, 1) := by decide +kernel
theorem dL_law_563 : decode cL_law 563 = .ok (.ireturn, 1) := by decide +kernel
theorem dL_law_564 : decode cL_law 564 = .ok (.aload_n 1, 1) := by decide +kernel
theorem dL_law_565 : decode cL_law 565 = .ok (.aload_n 0, 1) := by decide +kernel
theorem dL_law_566 : decode cL_law 566 = .ok (.iload_n 3, 1) := by decide +kernel
theorem dL_law_567 : decode cL_law 567 = .ok (.iconst 1, 1) := by decide +kernel
theorem dL_law_568 : decode cL_law 568 = .ok (.iadd, 1) := by decide +kernel
theorem dL_law_569 : decode cL_law 569 = .ok (.iaload, 1) := by decide +kernel
theorem dL_law_570 : decode cL_law 570 = .ok (.invokevirtual 75, 3) := by decide +kernel
theorem dL_law_573 : decode cL_law 573 = .ok (.aload_n 2, 1) := by decide +kernel
theorem dL_law_574 : decode cL_law 574 = .ok (.aload_n 0, 1) := by decide +kernel
theorem dL_law_575 : decode cL_law 575 = .ok (.iload_n 3, 1) := by decide +kernel
theorem dL_law_576 : decode cL_law 576 = .ok (.iconst 1, 1) := by decide +kernel
theorem dL_law_577 : decode cL_law 577 = .ok (.iadd, 1) := by decide +kernel
theorem dL_law_578 : decode cL_law 578 = .ok (.iaload, 1) := by decide +kernel
theorem dL_law_579 : decode cL_law 579 = .ok (.invokevirtual 78, 3) := by decide +kernel
theorem dL_law_582 : decode cL_law 582 = .ok (.if_icmp .eq 28, 3) := by decide +kernel
theorem dL_law_585 : decode cL_law 585 = .ok (.iconst 0, 1) := by decide +kernel
theorem dL_law_586 : decode cL_law 586 = .ok (.ireturn, 1) := by decide +kernel
theorem dL_law_587 : decode cL_law 587 = .ok (.aload_n 1, 1) := by decide +kernel
theorem dL_law_588 : decode cL_law 588 = .ok (.aload_n 0, 1) := by decide +kernel
theorem dL_law_589 : decode cL_law 589 = .ok (.iload_n 3, 1) := by decide +kernel
theorem dL_law_590 : decode cL_law 590 = .ok (.iconst 1, 1) := by decide +kernel
theorem dL_law_591 : decode cL_law 591 = .ok (.iadd, 1) := by decide +kernel
theorem dL_law_592 : decode cL_law 592 = .ok (.iaload, 1) := by decide +kernel
theorem dL_law_593 : decode cL_law 593 = .ok (.invokevirtual 79, 3) := by decide +kernel
theorem dL_law_596 : decode cL_law 596 = .ok (.aload_n 2, 1) := by decide +kernel
theorem dL_law_597 : decode cL_law 597 = .ok (.aload_n 0, 1) := by decide +kernel
theorem dL_law_598 : decode cL_law 598 = .ok (.iload_n 3, 1) := by decide +kernel
theorem dL_law_599 : decode cL_law 599 = .ok (.iconst 1, 1) := by decide +kernel
theorem dL_law_600 : decode cL_law 600 = .ok (.iadd, 1) := by decide +kernel
theorem dL_law_601 : decode cL_law 601 = .ok (.iaload, 1) := by decide +kernel
theorem dL_law_602 : decode cL_law 602 = .ok (.invokevirtual 82, 3) := by decide +kernel
theorem dL_law_605 : decode cL_law 605 = .ok (.if_icmp .eq 5, 3) := by decide +kernel
theorem dL_law_608 : decode cL_law 608 = .ok (.iconst 0, 1) := by decide +kernel
theorem dL_law_609 : decode cL_law 609 = .ok (.ireturn, 1) := by decide +kernel
theorem dL_law_610 : decode cL_law 610 = .ok (.iinc 3 6, 3) := by decide +kernel
theorem dL_law_613 : decode cL_law 613 = .ok (.goto (-595), 3) := by decide +kernel
theorem dL_law_616 : decode cL_law 616 = .ok (.iconst 1, 1) := by decide +kernel
theorem dL_law_617 : decode cL_law 617 = .ok (.ireturn, 1) := by decide +kernel
end
section
theorem dX6_init_0 : decode cX6_init 0 = .ok (.aload_n 0, 1) := by decide +kernel
theorem dX6_init_1 : decode cX6_init 1 = .ok (.invokespecial 1, 3) := by decide +kernel
theorem dX6_init_4 : decode cX6_init 4 = .ok (.aload_n 0, 1) := by decide +kernel
theorem dX6_init_5 : decode cX6_init 5 = .ok (.sipush 256, 3) := by decide +kernel
theorem dX6_init_8 : decode cX6_init 8 = .ok (.newarray .int, 2) := by decide +kernel
theorem dX6_init_10 : decode cX6_init 10 = .ok (.putfield 7, 3) := by decide +kernel
theorem dX6_init_13 : decode cX6_init 13 = .ok (.aload_n 0, 1) := by decide +kernel
theorem dX6_init_14 : decode cX6_init 14 = .ok (.sipush 768, 3) := by decide +kernel
theorem dX6_init_17 : decode cX6_init 17 = .ok (.newarray .int, 2) := by decide +kernel
theorem dX6_init_19 : decode cX6_init 19 = .ok (.putfield 13, 3) := by decide +kernel
theorem dX6_init_22 : decode cX6_init 22 = .ok (.aload_n 0, 1) := by decide +kernel
theorem dX6_init_23 : decode cX6_init 23 = .ok (.iconst 2, 1) := by decide +kernel
theorem dX6_init_24 : decode cX6_init 24 = .ok (.newarray .boolean, 2) := by decide +kernel
theorem dX6_init_26 : decode cX6_init 26 = .ok (.putfield 16, 3) := by decide +kernel
theorem dX6_init_29 : decode cX6_init 29 = .ok (.aload_n 0, 1) := by decide +kernel
theorem dX6_init_30 : decode cX6_init 30 = .ok (.bipush 8, 2) := by decide +kernel
theorem dX6_init_32 : decode cX6_init 32 = .ok (.newarray .int, 2) := by decide +kernel
theorem dX6_init_34 : decode cX6_init 34 = .ok (.putfield 20, 3) := by decide +kernel
theorem dX6_init_37 : decode cX6_init 37 = .ok (.aload_n 0, 1) := by decide +kernel
theorem dX6_init_38 : decode cX6_init 38 = .ok (.bipush 6, 2) := by decide +kernel
theorem dX6_init_40 : decode cX6_init 40 = .ok (.newarray .boolean, 2) := by decide +kernel
theorem dX6_init_42 : decode cX6_init 42 = .ok (.putfield 23, 3) := by decide +kernel
theorem dX6_init_45 : decode cX6_init 45 = .ok (.aload_n 0, 1) := by decide +kernel
theorem dX6_init_46 : decode cX6_init 46 = .ok (.bipush 6, 2) := by decide +kernel
theorem dX6_init_48 : decode cX6_init 48 = .ok (.newarray .boolean, 2) := by decide +kernel
theorem dX6_init_50 : decode cX6_init 50 = .ok (.putfield 26, 3) := by decide +kernel
theorem dX6_init_53 : decode cX6_init 53 = .ok (.aload_n 0, 1) := by decide +kernel
theorem dX6_init_54 : decode cX6_init 54 = .ok (.bipush 6, 2) := by decide +kernel
theorem dX6_init_56 : decode cX6_init 56 = .ok (.newarray .boolean, 2) := by decide +kernel
theorem dX6_init_58 : decode cX6_init 58 = .ok (.putfield 29, 3) := by decide +kernel
theorem dX6_init_61 : decode cX6_init 61 = .ok (.aload_n 0, 1) := by decide +kernel
theorem dX6_init_62 : decode cX6_init 62 = .ok (.bipush 6, 2) := by decide +kernel
theorem dX6_init_64 : decode cX6_init 64 = .ok (.newarray .boolean, 2) := by decide +kernel
theorem dX6_init_66 : decode cX6_init 66 = .ok (.putfield 32, 3) := by decide +kernel
theorem dX6_init_69 : decode cX6_init 69 = .ok (.aload_n 0, 1) := by decide +kernel
theorem dX6_init_70 : decode cX6_init 70 = .ok (.bipush 6, 2) := by decide +kernel
theorem dX6_init_72 : decode cX6_init 72 = .ok (.newarray .int, 2) := by decide +kernel
theorem dX6_init_74 : decode cX6_init 74 = .ok (.putfield 35, 3) := by decide +kernel
theorem dX6_init_77 : decode cX6_init 77 = .ok (.aload_n 0, 1) := by decide +kernel
theorem dX6_init_78 : decode cX6_init 78 = .ok (.bipush 6, 2) := by decide +kernel
theorem dX6_init_80 : decode cX6_init 80 = .ok (.newarray .int, 2) := by decide +kernel
theorem dX6_init_82 : decode cX6_init 82 = .ok (.putfield 38, 3) := by decide +kernel
theorem dX6_init_85 : decode cX6_init 85 = .ok (.aload_n 0, 1) := by decide +kernel
theorem dX6_init_86 : decode cX6_init 86 = .ok (.bipush 6, 2) := by decide +kernel
theorem dX6_init_88 : decode cX6_init 88 = .ok (.newarray .int, 2) := by decide +kernel
theorem dX6_init_90 : decode cX6_init 90 = .ok (.putfield 41, 3) := by decide +kernel
theorem dX6_init_93 : decode cX6_init 93 = .ok (.aload_n 0, 1) := by decide +kernel
theorem dX6_init_94 : decode cX6_init 94 = .ok (.bipush 36, 2) := by decide +kernel
theorem dX6_init_96 : decode cX6_init 96 = .ok (.newarray .int, 2) := by decide +kernel
theorem dX6_init_98 : decode cX6_init 98 = .ok (.putfield 44, 3) := by decide +kernel
theorem dX6_init_101 : decode cX6_init 101 = .ok (.aload_n 0, 1) := by decide +kernel
theorem dX6_init_102 : decode cX6_init 102 = .ok (.bipush 6, 2) := by decide +kernel
theorem dX6_init_104 : decode cX6_init 104 = .ok (.newarray .int, 2) := by decide +kernel
theorem dX6_init_106 : decode cX6_init 106 = .ok (.putfield 47, 3) := by decide +kernel
theorem dX6_init_109 : decode cX6_init 109 = .ok (.iconst 0, 1) := by decide +kernel
theorem dX6_init_110 : decode cX6_init 110 = .ok (.istore_n 1, 1) := by decide +kernel
theorem dX6_init_111 : decode cX6_init 111 = .ok (.iload_n 1, 1) := by decide +kernel
theorem dX6_init_112 : decode cX6_init 112 = .ok (.bipush 6, 2) := by decide +kernel
theorem dX6_init_114 : decode cX6_init 114 = .ok (.if_icmp .ge 60, 3) := by decide +kernel
theorem dX6_init_117 : decode cX6_init 117 = .ok (.aload_n 0, 1) := by decide +kernel
theorem dX6_init_118 : decode cX6_init 118 = .ok (.getfield 7, 3) := by decide +kernel
theorem dX6_init_121 : decode cX6_init 121 = .ok (.iconst 0, 1) := by decide +kernel
theorem dX6_init_122 : decode cX6_init 122 = .ok (.iload_n 1, 1) := by decide +kernel
theorem dX6_init_123 : decode cX6_init 123 = .ok (.iadd, 1) := by decide +kernel
theorem dX6_init_124 : decode cX6_init 124 = .ok (.iload_n 1, 1) := by decide +kernel
theorem dX6_init_125 : decode cX6_init 125 = .ok (.iconst 3, 1) := by decide +kernel
theorem dX6_init_126 : decode cX6_init 126 = .ok (.if_icmp .ge 7, 3) := by decide +kernel
theorem dX6_init_129 : decode cX6_init 129 = .ok (.iconst 1, 1) := by decide +kernel
theorem dX6_init_130 : decode cX6_init 130 = .ok (.goto 4, 3) := by decide +kernel
theorem dX6_init_133 : decode cX6_init 133 = .ok (.iconst 2, 1) := by decide +kernel
theorem dX6_init_134 : decode cX6_init 134 = .ok (.iastore, 1) := by decide +kernel
theorem dX6_init_135 : decode cX6_init 135 = .ok (.aload_n 0, 1) := by decide +kernel
theorem dX6_init_136 : decode cX6_init 136 = .ok (.getfield 7, 3) := by decide +kernel
theorem dX6_init_139 : decode cX6_init 139 = .ok (.bipush 6, 2) := by decide +kernel
theorem dX6_init_141 : decode cX6_init 141 = .ok (.iload_n 1, 1) := by decide +kernel
theorem dX6_init_142 : decode cX6_init 142 = .ok (.iadd, 1) := by decide +kernel
theorem dX6_init_143 : decode cX6_init 143 = .ok (.iload_n 1, 1) := by decide +kernel
theorem dX6_init_144 : decode cX6_init 144 = .ok (.iconst 1, 1) := by decide +kernel
theorem dX6_init_145 : decode cX6_init 145 = .ok (.iadd, 1) := by decide +kernel
theorem dX6_init_146 : decode cX6_init 146 = .ok (.iastore, 1) := by decide +kernel
theorem dX6_init_147 : decode cX6_init 147 = .ok (.aload_n 0, 1) := by decide +kernel
theorem dX6_init_148 : decode cX6_init 148 = .ok (.getfield 7, 3) := by decide +kernel
theorem dX6_init_151 : decode cX6_init 151 = .ok (.bipush 12, 2) := by decide +kernel
theorem dX6_init_153 : decode cX6_init 153 = .ok (.iload_n 1, 1) := by decide +kernel
theorem dX6_init_154 : decode cX6_init 154 = .ok (.iadd, 1) := by decide +kernel
theorem dX6_init_155 : decode cX6_init 155 = .ok (.iconst 3, 1) := by decide +kernel
theorem dX6_init_156 : decode cX6_init 156 = .ok (.iastore, 1) := by decide +kernel
theorem dX6_init_157 : decode cX6_init 157 = .ok (.aload_n 0, 1) := by decide +kernel
theorem dX6_init_158 : decode cX6_init 158 = .ok (.getfield 7, 3) := by decide +kernel
theorem dX6_init_161 : decode cX6_init 161 = .ok (.bipush 78, 2) := by decide +kernel
theorem dX6_init_163 : decode cX6_init 163 = .ok (.iload_n 1, 1) := by decide +kernel
theorem dX6_init_164 : decode cX6_init 164 = .ok (.iadd, 1) := by decide +kernel
theorem dX6_init_165 : decode cX6_init 165 = .ok (.bipush (-6), 2) := by decide +kernel
theorem dX6_init_167 : decode cX6_init 167 = .ok (.iastore, 1) := by decide +kernel
theorem dX6_init_168 : decode cX6_init 168 = .ok (.iinc 1 1, 3) := by decide +kernel
theorem dX6_init_171 : decode cX6_init 171 = .ok (.goto (-60), 3) := by decide +kernel
theorem dX6_init_174 : decode cX6_init 174 = .ok (.aload_n 0, 1) := by decide +kernel
theorem dX6_init_175 : decode cX6_init 175 = .ok (.getfield 7, 3) := by decide +kernel
theorem dX6_init_178 : decode cX6_init 178 = .ok (.sipush 132, 3) := by decide +kernel
theorem dX6_init_181 : decode cX6_init 181 = .ok (.bipush 100, 2) := by decide +kernel
theorem dX6_init_183 : decode cX6_init 183 = .ok (.iastore, 1) := by decide +kernel
theorem dX6_init_184 : decode cX6_init 184 = .ok (.return_, 1) := by decide +kernel
theorem dX6_in_0 : decode cX6_in 0 = .ok (.iload_n 0, 1) := by decide +kernel
theorem dX6_in_1 : decode cX6_in 1 = .ok (.iload_n 1, 1) := by decide +kernel
theorem dX6_in_2 : decode cX6_in 2 = .ok (.if_icmp .lt 12, 3) := by decide +kernel
theorem dX6_in_5 : decode cX6_in 5 = .ok (.iload_n 0, 1) := by decide +kernel
theorem dX6_in_6 : decode cX6_in 6 = .ok (.iload_n 2, 1) := by decide +kernel
theorem dX6_in_7 : decode cX6_in 7 = .ok (.if_icmp .gt 7, 3) := by decide +kernel
theorem dX6_in_10 : decode cX6_in 10 = .ok (.iconst 1, 1) := by decide +kernel
theorem dX6_in_11 : decode cX6_in 11 = .ok (.goto 4, 3) := by decide +kernel
theorem dX6_in_14 : decode cX6_in 14 = .ok (.iconst 0, 1) := by decide +kernel
theorem dX6_in_15 : decode cX6_in 15 = .ok (.ireturn, 1) := by decide +kernel
theorem dX6_isNode_0 : decode cX6_isNode 0 = .ok (.iload_n 0, 1) := by decide +kernel
theorem dX6_isNode_1 : decode cX6_isNode 1 = .ok (.iconst 0, 1) := by decide +kernel
theorem dX6_isNode_2 : decode cX6_isNode 2 = .ok (.iconst 5, 1) := by decide +kernel
theorem dX6_isNode_3 : decode cX6_isNode 3 = .ok (.invokestatic 50, 3) := by decide +kernel
theorem dX6_isNode_6 : decode cX6_isNode 6 = .ok (.ireturn, 1) := by decide +kernel
theorem dX6_is_0 : decode cX6_is 0 = .ok (.aload_n 0, 1) := by decide +kernel
theorem dX6_is_1 : decode cX6_is 1 = .ok (.getfield 7, 3) := by decide +kernel
theorem dX6_is_4 : decode cX6_is 4 = .ok (.bipush 30, 2) := by decide +kernel
theorem dX6_is_6 : decode cX6_is 6 = .ok (.iload_n 1, 1) := by decide +kernel
theorem dX6_is_7 : decode cX6_is 7 = .ok (.iadd, 1) := by decide +kernel
theorem dX6_is_8 : decode cX6_is 8 = .ok (.iaload, 1) := by decide +kernel
theorem dX6_is_9 : decode cX6_is 9 = .ok (.iload_n 2, 1) := by decide +kernel
theorem dX6_is_10 : decode cX6_is 10 = .ok (.if_icmp .ne 7, 3) := by decide +kernel
theorem dX6_is_13 : decode cX6_is 13 = .ok (.iconst 1, 1) := by decide +kernel
theorem dX6_is_14 : decode cX6_is 14 = .ok (.goto 4, 3) := by decide +kernel
theorem dX6_is_17 : decode cX6_is 17 = .ok (.iconst 0, 1) := by decide +kernel
theorem dX6_is_18 : decode cX6_is 18 = .ok (.ireturn, 1) := by decide +kernel
theorem dX6_isOut_0 : decode cX6_isOut 0 = .ok (.aload_n 0, 1) := by decide +kernel
theorem dX6_isOut_1 : decode cX6_isOut 1 = .ok (.iload_n 1, 1) := by decide +kernel
theorem dX6_isOut_2 : decode cX6_isOut 2 = .ok (.iconst 0, 1) := by decide +kernel
theorem dX6_isOut_3 : decode cX6_isOut 3 = .ok (.invokevirtual 54, 3) := by decide +kernel
theorem dX6_isOut_6 : decode cX6_isOut 6 = .ok (.ifCond .ne 13, 3) := by decide +kernel
theorem dX6_isOut_9 : decode cX6_isOut 9 = .ok (.aload_n 0, 1) := by decide +kernel
theorem dX6_isOut_10 : decode cX6_isOut 10 = .ok (.iload_n 1, 1) := by decide +kernel
theorem dX6_isOut_11 : decode cX6_isOut 11 = .ok (.bipush 6, 2) := by decide +kernel
theorem dX6_isOut_13 : decode cX6_isOut 13 = .ok (.invokevirtual 54, 3) := by decide +kernel
theorem dX6_isOut_16 : decode cX6_isOut 16 = .ok (.ifCond .eq 7, 3) := by decide +kernel
theorem dX6_isOut_19 : decode cX6_isOut 19 = .ok (.iconst 1, 1) := by decide +kernel
theorem dX6_isOut_20 : decode cX6_isOut 20 = .ok (.goto 4, 3) := by decide +kernel
theorem dX6_isOut_23 : decode cX6_isOut 23 = .ok (.iconst 0, 1) := by decide +kernel
theorem dX6_isOut_24 : decode cX6_isOut 24 = .ok (.ireturn, 1) := by decide +kernel
theorem dX6_plain_0 : decode cX6_plain 0 = .ok (.iload_n 0, 1) := by decide +kernel
theorem dX6_plain_1 : decode cX6_plain 1 = .ok (.ifCond .ge 8, 3) := by decide +kernel
theorem dX6_plain_4 : decode cX6_plain 4 = .ok (.iload_n 0, 1) := by decide +kernel
theorem dX6_plain_5 : decode cX6_plain 5 = .ok (.ineg, 1) := by decide +kernel
theorem dX6_plain_6 : decode cX6_plain 6 = .ok (.goto 4, 3) := by decide +kernel
theorem dX6_plain_9 : decode cX6_plain 9 = .ok (.iload_n 0, 1) := by decide +kernel
theorem dX6_plain_10 : decode cX6_plain 10 = .ok (.ireturn, 1) := by decide +kernel
theorem dX6_isTaken_0 : decode cX6_isTaken 0 = .ok (.iconst 0, 1) := by decide +kernel
theorem dX6_isTaken_1 : decode cX6_isTaken 1 = .ok (.istore_n 3, 1) := by decide +kernel
theorem dX6_isTaken_2 : decode cX6_isTaken 2 = .ok (.iconst 0, 1) := by decide +kernel
theorem dX6_isTaken_3 : decode cX6_isTaken 3 = .ok (.istore 4, 2) := by decide +kernel
theorem dX6_isTaken_5 : decode cX6_isTaken 5 = .ok (.iload 4, 2) := by decide +kernel
theorem dX6_isTaken_7 : decode cX6_isTaken 7 = .ok (.bipush 6, 2) := by decide +kernel
theorem dX6_isTaken_9 : decode cX6_isTaken 9 = .ok (.if_icmp .ge 39, 3) := by decide +kernel
theorem dX6_isTaken_12 : decode cX6_isTaken 12 = .ok (.iload_n 3, 1) := by decide +kernel
theorem dX6_isTaken_13 : decode cX6_isTaken 13 = .ok (.ifCond .ne 23, 3) := by decide +kernel
theorem dX6_isTaken_16 : decode cX6_isTaken 16 = .ok (.iload 4, 2) := by decide +kernel
theorem dX6_isTaken_18 : decode cX6_isTaken 18 = .ok (.iload_n 2, 1) := by decide +kernel
theorem dX6_isTaken_19 : decode cX6_isTaken 19 = .ok (.if_icmp .eq 21, 3) := by decide +kernel
theorem dX6_isTaken_22 : decode cX6_isTaken 22 = .ok (.aload_n 0, 1) := by decide +kernel
theorem dX6_isTaken_23 : decode cX6_isTaken 23 = .ok (.getfield 7, 3) := by decide +kernel
theorem dX6_isTaken_26 : decode cX6_isTaken 26 = .ok (.bipush 6, 2) := by decide +kernel
theorem dX6_isTaken_28 : decode cX6_isTaken 28 = .ok (.iload 4, 2) := by decide +kernel
theorem dX6_isTaken_30 : decode cX6_isTaken 30 = .ok (.iadd, 1) := by decide +kernel
theorem dX6_isTaken_31 : decode cX6_isTaken 31 = .ok (.iaload, 1) := by decide +kernel
theorem dX6_isTaken_32 : decode cX6_isTaken 32 = .ok (.iload_n 1, 1) := by decide +kernel
theorem dX6_isTaken_33 : decode cX6_isTaken 33 = .ok (.if_icmp .ne 7, 3) := by decide +kernel
theorem dX6_isTaken_36 : decode cX6_isTaken 36 = .ok (.iconst 1, 1) := by decide +kernel
theorem dX6_isTaken_37 : decode cX6_isTaken 37 = .ok (.goto 4, 3) := by decide +kernel
theorem dX6_isTaken_40 : decode cX6_isTaken 40 = .ok (.iconst 0, 1) := by decide +kernel
theorem dX6_isTaken_41 : decode cX6_isTaken 41 = .ok (.istore_n 3, 1) := by decide +kernel
theorem dX6_isTaken_42 : decode cX6_isTaken 42 = .ok (.iinc 4 1, 3) := by decide +kernel
theorem dX6_isTaken_45 : decode cX6_isTaken 45 = .ok (.goto (-40), 3) := by decide +kernel
theorem dX6_isTaken_48 : decode cX6_isTaken 48 = .ok (.iload_n 3, 1) := by decide +kernel
theorem dX6_isTaken_49 : decode cX6_isTaken 49 = .ok (.ireturn, 1) := by decide +kernel
theorem dX6_node_0 : decode cX6_node 0 = .ok (.iload_n 1, 1) := by decide +kernel
theorem dX6_node_1 : decode cX6_node 1 = .ok (.invokestatic 58, 3) := by decide +kernel
theorem dX6_node_4 : decode cX6_node 4 = .ok (.ifCond .ne 5, 3) := by decide +kernel
theorem dX6_node_7 : decode cX6_node 7 = .ok (.iconst (-1), 1) := by decide +kernel
theorem dX6_node_8 : decode cX6_node 8 = .ok (.ireturn, 1) := by decide +kernel
theorem dX6_node_9 : decode cX6_node 9 = .ok (.iload_n 2, 1) := by decide +kernel
theorem dX6_node_10 : decode cX6_node 10 = .ok (.iconst 1, 1) := by decide +kernel
theorem dX6_node_11 : decode cX6_node 11 = .ok (.iconst 2, 1) := by decide +kernel
theorem dX6_node_12 : decode cX6_node 12 = .ok (.invokestatic 50, 3) := by decide +kernel
theorem dX6_node_15 : decode cX6_node 15 = .ok (.ifCond .eq 24, 3) := by decide +kernel
theorem dX6_node_18 : decode cX6_node 18 = .ok (.iload_n 3, 1) := by decide +kernel
theorem dX6_node_19 : decode cX6_node 19 = .ok (.iconst 1, 1) := by decide +kernel
theorem dX6_node_20 : decode cX6_node 20 = .ok (.bipush 9, 2) := by decide +kernel
theorem dX6_node_22 : decode cX6_node 22 = .ok (.invokestatic 50, 3) := by decide +kernel
theorem dX6_node_25 : decode cX6_node 25 = .ok (.ifCond .eq 14, 3) := by decide +kernel
theorem dX6_node_28 : decode cX6_node 28 = .ok (.iload 4, 2) := by decide +kernel
theorem dX6_node_30 : decode cX6_node 30 = .ok (.iconst 1, 1) := by decide +kernel
theorem dX6_node_31 : decode cX6_node 31 = .ok (.bipush 9, 2) := by decide +kernel
theorem dX6_node_33 : decode cX6_node 33 = .ok (.invokestatic 50, 3) := by decide +kernel
theorem dX6_node_36 : decode cX6_node 36 = .ok (.ifCond .ne 6, 3) := by decide +kernel
theorem dX6_node_39 : decode cX6_node 39 = .ok (.bipush (-2), 2) := by decide +kernel
theorem dX6_node_41 : decode cX6_node 41 = .ok (.ireturn, 1) := by decide +kernel
theorem dX6_node_42 : decode cX6_node 42 = .ok (.aload_n 0, 1) := by decide +kernel
theorem dX6_node_43 : decode cX6_node 43 = .ok (.iload_n 1, 1) := by decide +kernel
theorem dX6_node_44 : decode cX6_node 44 = .ok (.iconst 0, 1) := by decide +kernel
theorem dX6_node_45 : decode cX6_node 45 = .ok (.invokevirtual 54, 3) := by decide +kernel
theorem dX6_node_48 : decode cX6_node 48 = .ok (.ifCond .eq 12, 3) := by decide +kernel
theorem dX6_node_51 : decode cX6_node 51 = .ok (.aload_n 0, 1) := by decide +kernel
theorem dX6_node_52 : decode cX6_node 52 = .ok (.iload_n 3, 1) := by decide +kernel
theorem dX6_node_53 : decode cX6_node 53 = .ok (.iload_n 1, 1) := by decide +kernel
theorem dX6_node_54 : decode cX6_node 54 = .ok (.invokevirtual 62, 3) := by decide +kernel
theorem dX6_node_57 : decode cX6_node 57 = .ok (.ifCond .eq 6, 3) := by decide +kernel
theorem dX6_node_60 : decode cX6_node 60 = .ok (.bipush (-3), 2) := by decide +kernel
theorem dX6_node_62 : decode cX6_node 62 = .ok (.ireturn, 1) := by decide +kernel
theorem dX6_node_63 : decode cX6_node 63 = .ok (.aload_n 0, 1) := by decide +kernel
theorem dX6_node_64 : decode cX6_node 64 = .ok (.getfield 7, 3) := by decide +kernel
theorem dX6_node_67 : decode cX6_node 67 = .ok (.bipush 6, 2) := by decide +kernel
theorem dX6_node_69 : decode cX6_node 69 = .ok (.iload_n 1, 1) := by decide +kernel
theorem dX6_node_70 : decode cX6_node 70 = .ok (.iadd, 1) := by decide +kernel
theorem dX6_node_71 : decode cX6_node 71 = .ok (.iaload, 1) := by decide +kernel
theorem dX6_node_72 : decode cX6_node 72 = .ok (.istore 5, 2) := by decide +kernel
theorem dX6_node_74 : decode cX6_node 74 = .ok (.aload_n 0, 1) := by decide +kernel
theorem dX6_node_75 : decode cX6_node 75 = .ok (.getfield 7, 3) := by decide +kernel
theorem dX6_node_78 : decode cX6_node 78 = .ok (.iconst 0, 1) := by decide +kernel
theorem dX6_node_79 : decode cX6_node 79 = .ok (.iload_n 1, 1) := by decide +kernel
theorem dX6_node_80 : decode cX6_node 80 = .ok (.iadd, 1) := by decide +kernel
theorem dX6_node_81 : decode cX6_node 81 = .ok (.iload_n 2, 1) := by decide +kernel
theorem dX6_node_82 : decode cX6_node 82 = .ok (.iastore, 1) := by decide +kernel
theorem dX6_node_83 : decode cX6_node 83 = .ok (.aload_n 0, 1) := by decide +kernel
theorem dX6_node_84 : decode cX6_node 84 = .ok (.getfield 7, 3) := by decide +kernel
theorem dX6_node_87 : decode cX6_node 87 = .ok (.bipush 6, 2) := by decide +kernel
theorem dX6_node_89 : decode cX6_node 89 = .ok (.iload_n 1, 1) := by decide +kernel
theorem dX6_node_90 : decode cX6_node 90 = .ok (.iadd, 1) := by decide +kernel
theorem dX6_node_91 : decode cX6_node 91 = .ok (.iload_n 3, 1) := by decide +kernel
theorem dX6_node_92 : decode cX6_node 92 = .ok (.iastore, 1) := by decide +kernel
theorem dX6_node_93 : decode cX6_node 93 = .ok (.aload_n 0, 1) := by decide +kernel
theorem dX6_node_94 : decode cX6_node 94 = .ok (.getfield 7, 3) := by decide +kernel
theorem dX6_node_97 : decode cX6_node 97 = .ok (.bipush 12, 2) := by decide +kernel
theorem dX6_node_99 : decode cX6_node 99 = .ok (.iload_n 1, 1) := by decide +kernel
theorem dX6_node_100 : decode cX6_node 100 = .ok (.iadd, 1) := by decide +kernel
theorem dX6_node_101 : decode cX6_node 101 = .ok (.iload 4, 2) := by decide +kernel
theorem dX6_node_103 : decode cX6_node 103 = .ok (.iastore, 1) := by decide +kernel
theorem dX6_node_104 : decode cX6_node 104 = .ok (.iload 5, 2) := by decide +kernel
theorem dX6_node_106 : decode cX6_node 106 = .ok (.ireturn, 1) := by decide +kernel
theorem dX6_clock_0 : decode cX6_clock 0 = .ok (.iload_n 1, 1) := by decide +kernel
theorem dX6_clock_1 : decode cX6_clock 1 = .ok (.invokestatic 58, 3) := by decide +kernel
theorem dX6_clock_4 : decode cX6_clock 4 = .ok (.ifCond .ne 5, 3) := by decide +kernel
theorem dX6_clock_7 : decode cX6_clock 7 = .ok (.iconst (-1), 1) := by decide +kernel
theorem dX6_clock_8 : decode cX6_clock 8 = .ok (.ireturn, 1) := by decide +kernel
theorem dX6_clock_9 : decode cX6_clock 9 = .ok (.iload_n 2, 1) := by decide +kernel
theorem dX6_clock_10 : decode cX6_clock 10 = .ok (.iconst 0, 1) := by decide +kernel
theorem dX6_clock_11 : decode cX6_clock 11 = .ok (.iconst 1, 1) := by decide +kernel
theorem dX6_clock_12 : decode cX6_clock 12 = .ok (.invokestatic 50, 3) := by decide +kernel
theorem dX6_clock_15 : decode cX6_clock 15 = .ok (.ifCond .eq 34, 3) := by decide +kernel
theorem dX6_clock_18 : decode cX6_clock 18 = .ok (.iload_n 3, 1) := by decide +kernel
theorem dX6_clock_19 : decode cX6_clock 19 = .ok (.iload_n 2, 1) := by decide +kernel
theorem dX6_clock_20 : decode cX6_clock 20 = .ok (.ifCond .ne 8, 3) := by decide +kernel
theorem dX6_clock_23 : decode cX6_clock 23 = .ok (.bipush (-50), 2) := by decide +kernel
theorem dX6_clock_25 : decode cX6_clock 25 = .ok (.goto 6, 3) := by decide +kernel
theorem dX6_clock_28 : decode cX6_clock 28 = .ok (.sipush (-400), 3) := by decide +kernel
theorem dX6_clock_31 : decode cX6_clock 31 = .ok (.iload_n 2, 1) := by decide +kernel
theorem dX6_clock_32 : decode cX6_clock 32 = .ok (.ifCond .ne 8, 3) := by decide +kernel
theorem dX6_clock_35 : decode cX6_clock 35 = .ok (.bipush 50, 2) := by decide +kernel
theorem dX6_clock_37 : decode cX6_clock 37 = .ok (.goto 6, 3) := by decide +kernel
theorem dX6_clock_40 : decode cX6_clock 40 = .ok (.sipush 400, 3) := by decide +kernel
theorem dX6_clock_43 : decode cX6_clock 43 = .ok (.invokestatic 50, 3) := by decide +kernel
theorem dX6_clock_46 : decode cX6_clock 46 = .ok (.ifCond .ne 6, 3) := by decide +kernel
theorem dX6_clock_49 : decode cX6_clock 49 = .ok (.bipush (-2), 2) := by decide +kernel
theorem dX6_clock_51 : decode cX6_clock 51 = .ok (.ireturn, 1) := by decide +kernel
theorem dX6_clock_52 : decode cX6_clock 52 = .ok (.aload_n 0, 1) := by decide +kernel
theorem dX6_clock_53 : decode cX6_clock 53 = .ok (.getfield 7, 3) := by decide +kernel
theorem dX6_clock_56 : decode cX6_clock 56 = .ok (.bipush 18, 2) := by decide +kernel
theorem dX6_clock_58 : decode cX6_clock 58 = .ok (.bipush 6, 2) := by decide +kernel
theorem dX6_clock_60 : decode cX6_clock 60 = .ok (.iload_n 2, 1) := by decide +kernel
theorem dX6_clock_61 : decode cX6_clock 61 = .ok (.imul, 1) := by decide +kernel
theorem dX6_clock_62 : decode cX6_clock 62 = .ok (.iadd, 1) := by decide +kernel
theorem dX6_clock_63 : decode cX6_clock 63 = .ok (.iload_n 1, 1) := by decide +kernel
theorem dX6_clock_64 : decode cX6_clock 64 = .ok (.iadd, 1) := by decide +kernel
theorem dX6_clock_65 : decode cX6_clock 65 = .ok (.iaload, 1) := by decide +kernel
theorem dX6_clock_66 : decode cX6_clock 66 = .ok (.istore 4, 2) := by decide +kernel
theorem dX6_clock_68 : decode cX6_clock 68 = .ok (.aload_n 0, 1) := by decide +kernel
theorem dX6_clock_69 : decode cX6_clock 69 = .ok (.getfield 7, 3) := by decide +kernel
theorem dX6_clock_72 : decode cX6_clock 72 = .ok (.bipush 18, 2) := by decide +kernel
theorem dX6_clock_74 : decode cX6_clock 74 = .ok (.bipush 6, 2) := by decide +kernel
theorem dX6_clock_76 : decode cX6_clock 76 = .ok (.iload_n 2, 1) := by decide +kernel
theorem dX6_clock_77 : decode cX6_clock 77 = .ok (.imul, 1) := by decide +kernel
theorem dX6_clock_78 : decode cX6_clock 78 = .ok (.iadd, 1) := by decide +kernel
theorem dX6_clock_79 : decode cX6_clock 79 = .ok (.iload_n 1, 1) := by decide +kernel
theorem dX6_clock_80 : decode cX6_clock 80 = .ok (.iadd, 1) := by decide +kernel
theorem dX6_clock_81 : decode cX6_clock 81 = .ok (.iload_n 3, 1) := by decide +kernel
theorem dX6_clock_82 : decode cX6_clock 82 = .ok (.iastore, 1) := by decide +kernel
theorem dX6_clock_83 : decode cX6_clock 83 = .ok (.iload 4, 2) := by decide +kernel
theorem dX6_clock_85 : decode cX6_clock 85 = .ok (.sipush 1000, 3) := by decide +kernel
theorem dX6_clock_88 : decode cX6_clock 88 = .ok (.iadd, 1) := by decide +kernel
theorem dX6_clock_89 : decode cX6_clock 89 = .ok (.ireturn, 1) := by decide +kernel
theorem dX6_bound_0 : decode cX6_bound 0 = .ok (.iload_n 1, 1) := by decide +kernel
theorem dX6_bound_1 : decode cX6_bound 1 = .ok (.iconst 0, 1) := by decide +kernel
theorem dX6_bound_2 : decode cX6_bound 2 = .ok (.sipush 500, 3) := by decide +kernel
theorem dX6_bound_5 : decode cX6_bound 5 = .ok (.invokestatic 50, 3) := by decide +kernel
theorem dX6_bound_8 : decode cX6_bound 8 = .ok (.ifCond .ne 6, 3) := by decide +kernel
theorem dX6_bound_11 : decode cX6_bound 11 = .ok (.bipush (-2), 2) := by decide +kernel
theorem dX6_bound_13 : decode cX6_bound 13 = .ok (.ireturn, 1) := by decide +kernel
theorem dX6_bound_14 : decode cX6_bound 14 = .ok (.aload_n 0, 1) := by decide +kernel
theorem dX6_bound_15 : decode cX6_bound 15 = .ok (.getfield 7, 3) := by decide +kernel
theorem dX6_bound_18 : decode cX6_bound 18 = .ok (.sipush 132, 3) := by decide +kernel
theorem dX6_bound_21 : decode cX6_bound 21 = .ok (.iaload, 1) := by decide +kernel
theorem dX6_bound_22 : decode cX6_bound 22 = .ok (.istore_n 2, 1) := by decide +kernel
theorem dX6_bound_23 : decode cX6_bound 23 = .ok (.aload_n 0, 1) := by decide +kernel
theorem dX6_bound_24 : decode cX6_bound 24 = .ok (.getfield 7, 3) := by decide +kernel
theorem dX6_bound_27 : decode cX6_bound 27 = .ok (.sipush 132, 3) := by decide +kernel
theorem dX6_bound_30 : decode cX6_bound 30 = .ok (.iload_n 1, 1) := by decide +kernel
theorem dX6_bound_31 : decode cX6_bound 31 = .ok (.iastore, 1) := by decide +kernel
theorem dX6_bound_32 : decode cX6_bound 32 = .ok (.iload_n 2, 1) := by decide +kernel
theorem dX6_bound_33 : decode cX6_bound 33 = .ok (.ireturn, 1) := by decide +kernel
theorem dX6_begin_0 : decode cX6_begin 0 = .ok (.aload_n 0, 1) := by decide +kernel
theorem dX6_begin_1 : decode cX6_begin 1 = .ok (.getfield 7, 3) := by decide +kernel
theorem dX6_begin_4 : decode cX6_begin 4 = .ok (.bipush 30, 2) := by decide +kernel
theorem dX6_begin_6 : decode cX6_begin 6 = .ok (.iload_n 1, 1) := by decide +kernel
theorem dX6_begin_7 : decode cX6_begin 7 = .ok (.iadd, 1) := by decide +kernel
theorem dX6_begin_8 : decode cX6_begin 8 = .ok (.iload_n 2, 1) := by decide +kernel
theorem dX6_begin_9 : decode cX6_begin 9 = .ok (.iastore, 1) := by decide +kernel
theorem dX6_begin_10 : decode cX6_begin 10 = .ok (.aload_n 0, 1) := by decide +kernel
theorem dX6_begin_11 : decode cX6_begin 11 = .ok (.getfield 7, 3) := by decide +kernel
theorem dX6_begin_14 : decode cX6_begin 14 = .ok (.bipush 36, 2) := by decide +kernel
theorem dX6_begin_16 : decode cX6_begin 16 = .ok (.iload_n 1, 1) := by decide +kernel
theorem dX6_begin_17 : decode cX6_begin 17 = .ok (.iadd, 1) := by decide +kernel
theorem dX6_begin_18 : decode cX6_begin 18 = .ok (.iconst 0, 1) := by decide +kernel
theorem dX6_begin_19 : decode cX6_begin 19 = .ok (.iastore, 1) := by decide +kernel
theorem dX6_begin_20 : decode cX6_begin 20 = .ok (.aload_n 0, 1) := by decide +kernel
theorem dX6_begin_21 : decode cX6_begin 21 = .ok (.getfield 7, 3) := by decide +kernel
theorem dX6_begin_24 : decode cX6_begin 24 = .ok (.bipush 42, 2) := by decide +kernel
theorem dX6_begin_26 : decode cX6_begin 26 = .ok (.iload_n 1, 1) := by decide +kernel
theorem dX6_begin_27 : decode cX6_begin 27 = .ok (.iadd, 1) := by decide +kernel
theorem dX6_begin_28 : decode cX6_begin 28 = .ok (.iconst 0, 1) := by decide +kernel
theorem dX6_begin_29 : decode cX6_begin 29 = .ok (.iastore, 1) := by decide +kernel
theorem dX6_begin_30 : decode cX6_begin 30 = .ok (.aload_n 0, 1) := by decide +kernel
theorem dX6_begin_31 : decode cX6_begin 31 = .ok (.getfield 7, 3) := by decide +kernel
theorem dX6_begin_34 : decode cX6_begin 34 = .ok (.bipush 48, 2) := by decide +kernel
theorem dX6_begin_36 : decode cX6_begin 36 = .ok (.iload_n 1, 1) := by decide +kernel
theorem dX6_begin_37 : decode cX6_begin 37 = .ok (.iadd, 1) := by decide +kernel
theorem dX6_begin_38 : decode cX6_begin 38 = .ok (.iconst 0, 1) := by decide +kernel
theorem dX6_begin_39 : decode cX6_begin 39 = .ok (.iastore, 1) := by decide +kernel
theorem dX6_begin_40 : decode cX6_begin 40 = .ok (.aload_n 0, 1) := by decide +kernel
theorem dX6_begin_41 : decode cX6_begin 41 = .ok (.getfield 7, 3) := by decide +kernel
theorem dX6_begin_44 : decode cX6_begin 44 = .ok (.bipush 54, 2) := by decide +kernel
theorem dX6_begin_46 : decode cX6_begin 46 = .ok (.iload_n 1, 1) := by decide +kernel
theorem dX6_begin_47 : decode cX6_begin 47 = .ok (.iadd, 1) := by decide +kernel
theorem dX6_begin_48 : decode cX6_begin 48 = .ok (.iconst 0, 1) := by decide +kernel
theorem dX6_begin_49 : decode cX6_begin 49 = .ok (.iastore, 1) := by decide +kernel
theorem dX6_begin_50 : decode cX6_begin 50 = .ok (.return_, 1) := by decide +kernel
theorem dX6_wake_0 : decode cX6_wake 0 = .ok (.iload_n 1, 1) := by decide +kernel
theorem dX6_wake_1 : decode cX6_wake 1 = .ok (.invokestatic 58, 3) := by decide +kernel
theorem dX6_wake_4 : decode cX6_wake 4 = .ok (.ifCond .ne 5, 3) := by decide +kernel
theorem dX6_wake_7 : decode cX6_wake 7 = .ok (.iconst (-1), 1) := by decide +kernel
theorem dX6_wake_8 : decode cX6_wake 8 = .ok (.ireturn, 1) := by decide +kernel
theorem dX6_wake_9 : decode cX6_wake 9 = .ok (.iload_n 2, 1) := by decide +kernel
theorem dX6_wake_10 : decode cX6_wake 10 = .ok (.sipush (-500), 3) := by decide +kernel
theorem dX6_wake_13 : decode cX6_wake 13 = .ok (.sipush 500, 3) := by decide +kernel
theorem dX6_wake_16 : decode cX6_wake 16 = .ok (.invokestatic 50, 3) := by decide +kernel
theorem dX6_wake_19 : decode cX6_wake 19 = .ok (.ifCond .ne 6, 3) := by decide +kernel
theorem dX6_wake_22 : decode cX6_wake 22 = .ok (.bipush (-2), 2) := by decide +kernel
theorem dX6_wake_24 : decode cX6_wake 24 = .ok (.ireturn, 1) := by decide +kernel
theorem dX6_wake_25 : decode cX6_wake 25 = .ok (.aload_n 0, 1) := by decide +kernel
theorem dX6_wake_26 : decode cX6_wake 26 = .ok (.iload_n 1, 1) := by decide +kernel
theorem dX6_wake_27 : decode cX6_wake 27 = .ok (.invokevirtual 65, 3) := by decide +kernel
theorem dX6_wake_30 : decode cX6_wake 30 = .ok (.ifCond .ne 6, 3) := by decide +kernel
theorem dX6_wake_33 : decode cX6_wake 33 = .ok (.bipush (-3), 2) := by decide +kernel
theorem dX6_wake_35 : decode cX6_wake 35 = .ok (.ireturn, 1) := by decide +kernel
theorem dX6_wake_36 : decode cX6_wake 36 = .ok (.aload_n 0, 1) := by decide +kernel
theorem dX6_wake_37 : decode cX6_wake 37 = .ok (.iload_n 1, 1) := by decide +kernel
theorem dX6_wake_38 : decode cX6_wake 38 = .ok (.iconst 1, 1) := by decide +kernel
theorem dX6_wake_39 : decode cX6_wake 39 = .ok (.invokevirtual 68, 3) := by decide +kernel
theorem dX6_wake_42 : decode cX6_wake 42 = .ok (.aload_n 0, 1) := by decide +kernel
theorem dX6_wake_43 : decode cX6_wake 43 = .ok (.getfield 7, 3) := by decide +kernel
theorem dX6_wake_46 : decode cX6_wake 46 = .ok (.bipush 60, 2) := by decide +kernel
theorem dX6_wake_48 : decode cX6_wake 48 = .ok (.iload_n 1, 1) := by decide +kernel
theorem dX6_wake_49 : decode cX6_wake 49 = .ok (.iadd, 1) := by decide +kernel
theorem dX6_wake_50 : decode cX6_wake 50 = .ok (.iload_n 2, 1) := by decide +kernel
theorem dX6_wake_51 : decode cX6_wake 51 = .ok (.iastore, 1) := by decide +kernel
theorem dX6_wake_52 : decode cX6_wake 52 = .ok (.aload_n 0, 1) := by decide +kernel
theorem dX6_wake_53 : decode cX6_wake 53 = .ok (.getfield 7, 3) := by decide +kernel
theorem dX6_wake_56 : decode cX6_wake 56 = .ok (.bipush 66, 2) := by decide +kernel
theorem dX6_wake_58 : decode cX6_wake 58 = .ok (.iload_n 1, 1) := by decide +kernel
theorem dX6_wake_59 : decode cX6_wake 59 = .ok (.iadd, 1) := by decide +kernel
theorem dX6_wake_60 : decode cX6_wake 60 = .ok (.iconst 0, 1) := by decide +kernel
theorem dX6_wake_61 : decode cX6_wake 61 = .ok (.iastore, 1) := by decide +kernel
theorem dX6_wake_62 : decode cX6_wake 62 = .ok (.aload_n 0, 1) := by decide +kernel
theorem dX6_wake_63 : decode cX6_wake 63 = .ok (.getfield 7, 3) := by decide +kernel
theorem dX6_wake_66 : decode cX6_wake 66 = .ok (.bipush 72, 2) := by decide +kernel
theorem dX6_wake_68 : decode cX6_wake 68 = .ok (.iload_n 1, 1) := by decide +kernel
theorem dX6_wake_69 : decode cX6_wake 69 = .ok (.iadd, 1) := by decide +kernel
theorem dX6_wake_70 : decode cX6_wake 70 = .ok (.iconst 0, 1) := by decide +kernel
theorem dX6_wake_71 : decode cX6_wake 71 = .ok (.iastore, 1) := by decide +kernel
theorem dX6_wake_72 : decode cX6_wake 72 = .ok (.iconst 0, 1) := by decide +kernel
theorem dX6_wake_73 : decode cX6_wake 73 = .ok (.istore_n 3, 1) := by decide +kernel
theorem dX6_wake_74 : decode cX6_wake 74 = .ok (.iconst 0, 1) := by decide +kernel
theorem dX6_wake_75 : decode cX6_wake 75 = .ok (.istore 4, 2) := by decide +kernel
theorem dX6_wake_77 : decode cX6_wake 77 = .ok (.iload 4, 2) := by decide +kernel
theorem dX6_wake_79 : decode cX6_wake 79 = .ok (.bipush 6, 2) := by decide +kernel
theorem dX6_wake_81 : decode cX6_wake 81 = .ok (.if_icmp .ge 26, 3) := by decide +kernel
theorem dX6_wake_84 : decode cX6_wake 84 = .ok (.iload_n 3, 1) := by decide +kernel
theorem dX6_wake_85 : decode cX6_wake 85 = .ok (.aload_n 0, 1) := by decide +kernel
theorem dX6_wake_86 : decode cX6_wake 86 = .ok (.iload 4, 2) := by decide +kernel
theorem dX6_wake_88 : decode cX6_wake 88 = .ok (.invokevirtual 65, 3) := by decide +kernel
theorem dX6_wake_91 : decode cX6_wake 91 = .ok (.ifCond .eq 7, 3) := by decide +kernel
theorem dX6_wake_94 : decode cX6_wake 94 = .ok (.iconst 0, 1) := by decide +kernel
theorem dX6_wake_95 : decode cX6_wake 95 = .ok (.goto 4, 3) := by decide +kernel
theorem dX6_wake_98 : decode cX6_wake 98 = .ok (.iconst 1, 1) := by decide +kernel
theorem dX6_wake_99 : decode cX6_wake 99 = .ok (.iadd, 1) := by decide +kernel
theorem dX6_wake_100 : decode cX6_wake 100 = .ok (.istore_n 3, 1) := by decide +kernel
theorem dX6_wake_101 : decode cX6_wake 101 = .ok (.iinc 4 1, 3) := by decide +kernel
theorem dX6_wake_104 : decode cX6_wake 104 = .ok (.goto (-27), 3) := by decide +kernel
theorem dX6_wake_107 : decode cX6_wake 107 = .ok (.iload_n 3, 1) := by decide +kernel
theorem dX6_wake_108 : decode cX6_wake 108 = .ok (.ireturn, 1) := by decide +kernel
theorem dX6_off_0 : decode cX6_off 0 = .ok (.iload_n 1, 1) := by decide +kernel
theorem dX6_off_1 : decode cX6_off 1 = .ok (.invokestatic 58, 3) := by decide +kernel
theorem dX6_off_4 : decode cX6_off 4 = .ok (.ifCond .ne 5, 3) := by decide +kernel
theorem dX6_off_7 : decode cX6_off 7 = .ok (.iconst (-1), 1) := by decide +kernel
theorem dX6_off_8 : decode cX6_off 8 = .ok (.ireturn, 1) := by decide +kernel
theorem dX6_off_9 : decode cX6_off 9 = .ok (.aload_n 0, 1) := by decide +kernel
theorem dX6_off_10 : decode cX6_off 10 = .ok (.getfield 7, 3) := by decide +kernel
theorem dX6_off_13 : decode cX6_off 13 = .ok (.bipush 30, 2) := by decide +kernel
theorem dX6_off_15 : decode cX6_off 15 = .ok (.iload_n 1, 1) := by decide +kernel
theorem dX6_off_16 : decode cX6_off 16 = .ok (.iadd, 1) := by decide +kernel
theorem dX6_off_17 : decode cX6_off 17 = .ok (.iaload, 1) := by decide +kernel
theorem dX6_off_18 : decode cX6_off 18 = .ok (.istore_n 2, 1) := by decide +kernel
theorem dX6_off_19 : decode cX6_off 19 = .ok (.aload_n 0, 1) := by decide +kernel
theorem dX6_off_20 : decode cX6_off 20 = .ok (.iload_n 1, 1) := by decide +kernel
theorem dX6_off_21 : decode cX6_off 21 = .ok (.iconst 0, 1) := by decide +kernel
theorem dX6_off_22 : decode cX6_off 22 = .ok (.invokevirtual 68, 3) := by decide +kernel
theorem dX6_off_25 : decode cX6_off 25 = .ok (.aload_n 0, 1) := by decide +kernel
theorem dX6_off_26 : decode cX6_off 26 = .ok (.getfield 7, 3) := by decide +kernel
theorem dX6_off_29 : decode cX6_off 29 = .ok (.bipush 60, 2) := by decide +kernel
theorem dX6_off_31 : decode cX6_off 31 = .ok (.iload_n 1, 1) := by decide +kernel
theorem dX6_off_32 : decode cX6_off 32 = .ok (.iadd, 1) := by decide +kernel
theorem dX6_off_33 : decode cX6_off 33 = .ok (.iconst 0, 1) := by decide +kernel
theorem dX6_off_34 : decode cX6_off 34 = .ok (.iastore, 1) := by decide +kernel
theorem dX6_off_35 : decode cX6_off 35 = .ok (.aload_n 0, 1) := by decide +kernel
theorem dX6_off_36 : decode cX6_off 36 = .ok (.getfield 7, 3) := by decide +kernel
theorem dX6_off_39 : decode cX6_off 39 = .ok (.bipush 66, 2) := by decide +kernel
theorem dX6_off_41 : decode cX6_off 41 = .ok (.iload_n 1, 1) := by decide +kernel
theorem dX6_off_42 : decode cX6_off 42 = .ok (.iadd, 1) := by decide +kernel
theorem dX6_off_43 : decode cX6_off 43 = .ok (.iconst 0, 1) := by decide +kernel
theorem dX6_off_44 : decode cX6_off 44 = .ok (.iastore, 1) := by decide +kernel
theorem dX6_off_45 : decode cX6_off 45 = .ok (.aload_n 0, 1) := by decide +kernel
theorem dX6_off_46 : decode cX6_off 46 = .ok (.getfield 7, 3) := by decide +kernel
theorem dX6_off_49 : decode cX6_off 49 = .ok (.bipush 72, 2) := by decide +kernel
theorem dX6_off_51 : decode cX6_off 51 = .ok (.iload_n 1, 1) := by decide +kernel
theorem dX6_off_52 : decode cX6_off 52 = .ok (.iadd, 1) := by decide +kernel
theorem dX6_off_53 : decode cX6_off 53 = .ok (.iconst 0, 1) := by decide +kernel
theorem dX6_off_54 : decode cX6_off 54 = .ok (.iastore, 1) := by decide +kernel
theorem dX6_off_55 : decode cX6_off 55 = .ok (.iload_n 2, 1) := by decide +kernel
theorem dX6_off_56 : decode cX6_off 56 = .ok (.ireturn, 1) := by decide +kernel
theorem dX6_lay_0 : decode cX6_lay 0 = .ok (.aload_n 0, 1) := by decide +kernel
theorem dX6_lay_1 : decode cX6_lay 1 = .ok (.getfield 72, 3) := by decide +kernel
theorem dX6_lay_4 : decode cX6_lay 4 = .ok (.istore_n 2, 1) := by decide +kernel
theorem dX6_lay_5 : decode cX6_lay 5 = .ok (.iload_n 2, 1) := by decide +kernel
theorem dX6_lay_6 : decode cX6_lay 6 = .ok (.ifCond .le 35, 3) := by decide +kernel
theorem dX6_lay_9 : decode cX6_lay 9 = .ok (.aload_n 0, 1) := by decide +kernel
theorem dX6_lay_10 : decode cX6_lay 10 = .ok (.getfield 20, 3) := by decide +kernel
theorem dX6_lay_13 : decode cX6_lay 13 = .ok (.iload_n 2, 1) := by decide +kernel
theorem dX6_lay_14 : decode cX6_lay 14 = .ok (.iconst 1, 1) := by decide +kernel
theorem dX6_lay_15 : decode cX6_lay 15 = .ok (.isub, 1) := by decide +kernel
theorem dX6_lay_16 : decode cX6_lay 16 = .ok (.iaload, 1) := by decide +kernel
theorem dX6_lay_17 : decode cX6_lay 17 = .ok (.iload_n 1, 1) := by decide +kernel
theorem dX6_lay_18 : decode cX6_lay 18 = .ok (.if_icmp .le 23, 3) := by decide +kernel
theorem dX6_lay_21 : decode cX6_lay 21 = .ok (.aload_n 0, 1) := by decide +kernel
theorem dX6_lay_22 : decode cX6_lay 22 = .ok (.getfield 20, 3) := by decide +kernel
theorem dX6_lay_25 : decode cX6_lay 25 = .ok (.iload_n 2, 1) := by decide +kernel
theorem dX6_lay_26 : decode cX6_lay 26 = .ok (.aload_n 0, 1) := by decide +kernel
theorem dX6_lay_27 : decode cX6_lay 27 = .ok (.getfield 20, 3) := by decide +kernel
theorem dX6_lay_30 : decode cX6_lay 30 = .ok (.iload_n 2, 1) := by decide +kernel
theorem dX6_lay_31 : decode cX6_lay 31 = .ok (.iconst 1, 1) := by decide +kernel
theorem dX6_lay_32 : decode cX6_lay 32 = .ok (.isub, 1) := by decide +kernel
theorem dX6_lay_33 : decode cX6_lay 33 = .ok (.iaload, 1) := by decide +kernel
theorem dX6_lay_34 : decode cX6_lay 34 = .ok (.iastore, 1) := by decide +kernel
theorem dX6_lay_35 : decode cX6_lay 35 = .ok (.iinc 2 (-1), 3) := by decide +kernel
theorem dX6_lay_38 : decode cX6_lay 38 = .ok (.goto (-33), 3) := by decide +kernel
theorem dX6_lay_41 : decode cX6_lay 41 = .ok (.aload_n 0, 1) := by decide +kernel
theorem dX6_lay_42 : decode cX6_lay 42 = .ok (.getfield 20, 3) := by decide +kernel
theorem dX6_lay_45 : decode cX6_lay 45 = .ok (.iload_n 2, 1) := by decide +kernel
theorem dX6_lay_46 : decode cX6_lay 46 = .ok (.iload_n 1, 1) := by decide +kernel
theorem dX6_lay_47 : decode cX6_lay 47 = .ok (.iastore, 1) := by decide +kernel
theorem dX6_lay_48 : decode cX6_lay 48 = .ok (.aload_n 0, 1) := by decide +kernel
theorem dX6_lay_49 : decode cX6_lay 49 = .ok (.dup, 1) := by decide +kernel
theorem dX6_lay_50 : decode cX6_lay 50 = .ok (.getfield 72, 3) := by decide +kernel
theorem dX6_lay_53 : decode cX6_lay 53 = .ok (.iconst 1, 1) := by decide +kernel
theorem dX6_lay_54 : decode cX6_lay 54 = .ok (.iadd, 1) := by decide +kernel
theorem dX6_lay_55 : decode cX6_lay 55 = .ok (.putfield 72, 3) := by decide +kernel
theorem dX6_lay_58 : decode cX6_lay 58 = .ok (.return_, 1) := by decide +kernel
theorem dX6_trimmed_0 : decode cX6_trimmed 0 = .ok (.aload_n 0, 1) := by decide +kernel
theorem dX6_trimmed_1 : decode cX6_trimmed 1 = .ok (.getfield 72, 3) := by decide +kernel
theorem dX6_trimmed_4 : decode cX6_trimmed 4 = .ok (.iconst 3, 1) := by decide +kernel
theorem dX6_trimmed_5 : decode cX6_trimmed 5 = .ok (.if_icmp .lt 7, 3) := by decide +kernel
theorem dX6_trimmed_8 : decode cX6_trimmed 8 = .ok (.iconst 1, 1) := by decide +kernel
theorem dX6_trimmed_9 : decode cX6_trimmed 9 = .ok (.goto 4, 3) := by decide +kernel
theorem dX6_trimmed_12 : decode cX6_trimmed 12 = .ok (.iconst 0, 1) := by decide +kernel
theorem dX6_trimmed_13 : decode cX6_trimmed 13 = .ok (.istore_n 1, 1) := by decide +kernel
theorem dX6_trimmed_14 : decode cX6_trimmed 14 = .ok (.aload_n 0, 1) := by decide +kernel
theorem dX6_trimmed_15 : decode cX6_trimmed 15 = .ok (.getfield 20, 3) := by decide +kernel
theorem dX6_trimmed_18 : decode cX6_trimmed 18 = .ok (.iload_n 1, 1) := by decide +kernel
theorem dX6_trimmed_19 : decode cX6_trimmed 19 = .ok (.iaload, 1) := by decide +kernel
theorem dX6_trimmed_20 : decode cX6_trimmed 20 = .ok (.aload_n 0, 1) := by decide +kernel
theorem dX6_trimmed_21 : decode cX6_trimmed 21 = .ok (.getfield 20, 3) := by decide +kernel
theorem dX6_trimmed_24 : decode cX6_trimmed 24 = .ok (.aload_n 0, 1) := by decide +kernel
theorem dX6_trimmed_25 : decode cX6_trimmed 25 = .ok (.getfield 72, 3) := by decide +kernel
theorem dX6_trimmed_28 : decode cX6_trimmed 28 = .ok (.iconst 1, 1) := by decide +kernel
theorem dX6_trimmed_29 : decode cX6_trimmed 29 = .ok (.isub, 1) := by decide +kernel
theorem dX6_trimmed_30 : decode cX6_trimmed 30 = .ok (.iload_n 1, 1) := by decide +kernel
theorem dX6_trimmed_31 : decode cX6_trimmed 31 = .ok (.isub, 1) := by decide +kernel
theorem dX6_trimmed_32 : decode cX6_trimmed 32 = .ok (.iaload, 1) := by decide +kernel
theorem dX6_trimmed_33 : decode cX6_trimmed 33 = .ok (.iadd, 1) := by decide +kernel
theorem dX6_trimmed_34 : decode cX6_trimmed 34 = .ok (.iconst 2, 1) := by decide +kernel
theorem dX6_trimmed_35 : decode cX6_trimmed 35 = .ok (.idiv, 1) := by decide +kernel
theorem dX6_trimmed_36 : decode cX6_trimmed 36 = .ok (.ireturn, 1) := by decide +kernel
theorem dX6_isFirst_0 : decode cX6_isFirst 0 = .ok (.aload_n 0, 1) := by decide +kernel
theorem dX6_isFirst_1 : decode cX6_isFirst 1 = .ok (.iload_n 1, 1) := by decide +kernel
theorem dX6_isFirst_2 : decode cX6_isFirst 2 = .ok (.iconst 2, 1) := by decide +kernel
theorem dX6_isFirst_3 : decode cX6_isFirst 3 = .ok (.invokevirtual 54, 3) := by decide +kernel
theorem dX6_isFirst_6 : decode cX6_isFirst 6 = .ok (.ifCond .eq 20, 3) := by decide +kernel
theorem dX6_isFirst_9 : decode cX6_isFirst 9 = .ok (.aload_n 0, 1) := by decide +kernel
theorem dX6_isFirst_10 : decode cX6_isFirst 10 = .ok (.getfield 7, 3) := by decide +kernel
theorem dX6_isFirst_13 : decode cX6_isFirst 13 = .ok (.bipush 36, 2) := by decide +kernel
theorem dX6_isFirst_15 : decode cX6_isFirst 15 = .ok (.iload_n 1, 1) := by decide +kernel
theorem dX6_isFirst_16 : decode cX6_isFirst 16 = .ok (.iadd, 1) := by decide +kernel
theorem dX6_isFirst_17 : decode cX6_isFirst 17 = .ok (.iaload, 1) := by decide +kernel
theorem dX6_isFirst_18 : decode cX6_isFirst 18 = .ok (.iconst 1, 1) := by decide +kernel
theorem dX6_isFirst_19 : decode cX6_isFirst 19 = .ok (.if_icmp .ne 7, 3) := by decide +kernel
theorem dX6_isFirst_22 : decode cX6_isFirst 22 = .ok (.iconst 1, 1) := by decide +kernel
theorem dX6_isFirst_23 : decode cX6_isFirst 23 = .ok (.goto 4, 3) := by decide +kernel
theorem dX6_isFirst_26 : decode cX6_isFirst 26 = .ok (.iconst 0, 1) := by decide +kernel
theorem dX6_isFirst_27 : decode cX6_isFirst 27 = .ok (.ireturn, 1) := by decide +kernel
theorem dX6_laySenders_0 : decode cX6_laySenders 0 = .ok (.iconst 0, 1) := by decide +kernel
theorem dX6_laySenders_1 : decode cX6_laySenders 1 = .ok (.istore_n 1, 1) := by decide +kernel
theorem dX6_laySenders_2 : decode cX6_laySenders 2 = .ok (.iload_n 1, 1) := by decide +kernel
theorem dX6_laySenders_3 : decode cX6_laySenders 3 = .ok (.bipush 6, 2) := by decide +kernel
theorem dX6_laySenders_5 : decode cX6_laySenders 5 = .ok (.if_icmp .ge 99, 3) := by decide +kernel
theorem dX6_laySenders_8 : decode cX6_laySenders 8 = .ok (.aload_n 0, 1) := by decide +kernel
theorem dX6_laySenders_9 : decode cX6_laySenders 9 = .ok (.getfield 23, 3) := by decide +kernel
theorem dX6_laySenders_12 : decode cX6_laySenders 12 = .ok (.iload_n 1, 1) := by decide +kernel
theorem dX6_laySenders_13 : decode cX6_laySenders 13 = .ok (.aload_n 0, 1) := by decide +kernel
theorem dX6_laySenders_14 : decode cX6_laySenders 14 = .ok (.iload_n 1, 1) := by decide +kernel
theorem dX6_laySenders_15 : decode cX6_laySenders 15 = .ok (.iconst 2, 1) := by decide +kernel
theorem dX6_laySenders_16 : decode cX6_laySenders 16 = .ok (.invokevirtual 54, 3) := by decide +kernel
theorem dX6_laySenders_19 : decode cX6_laySenders 19 = .ok (.ifCond .eq 16, 3) := by decide +kernel
theorem dX6_laySenders_22 : decode cX6_laySenders 22 = .ok (.aload_n 0, 1) := by decide +kernel
theorem dX6_laySenders_23 : decode cX6_laySenders 23 = .ok (.getfield 7, 3) := by decide +kernel
theorem dX6_laySenders_26 : decode cX6_laySenders 26 = .ok (.bipush 36, 2) := by decide +kernel
theorem dX6_laySenders_28 : decode cX6_laySenders 28 = .ok (.iload_n 1, 1) := by decide +kernel
theorem dX6_laySenders_29 : decode cX6_laySenders 29 = .ok (.iadd, 1) := by decide +kernel
theorem dX6_laySenders_30 : decode cX6_laySenders 30 = .ok (.iaload, 1) := by decide +kernel
theorem dX6_laySenders_31 : decode cX6_laySenders 31 = .ok (.iconst 1, 1) := by decide +kernel
theorem dX6_laySenders_32 : decode cX6_laySenders 32 = .ok (.if_icmp .ge 21, 3) := by decide +kernel
theorem dX6_laySenders_35 : decode cX6_laySenders 35 = .ok (.aload_n 0, 1) := by decide +kernel
theorem dX6_laySenders_36 : decode cX6_laySenders 36 = .ok (.iload_n 1, 1) := by decide +kernel
theorem dX6_laySenders_37 : decode cX6_laySenders 37 = .ok (.iconst 3, 1) := by decide +kernel
theorem dX6_laySenders_38 : decode cX6_laySenders 38 = .ok (.invokevirtual 54, 3) := by decide +kernel
theorem dX6_laySenders_41 : decode cX6_laySenders 41 = .ok (.ifCond .ne 12, 3) := by decide +kernel
theorem dX6_laySenders_44 : decode cX6_laySenders 44 = .ok (.aload_n 0, 1) := by decide +kernel
theorem dX6_laySenders_45 : decode cX6_laySenders 45 = .ok (.iload_n 1, 1) := by decide +kernel
theorem dX6_laySenders_46 : decode cX6_laySenders 46 = .ok (.iconst 4, 1) := by decide +kernel
theorem dX6_laySenders_47 : decode cX6_laySenders 47 = .ok (.invokevirtual 54, 3) := by decide +kernel
theorem dX6_laySenders_50 : decode cX6_laySenders 50 = .ok (.ifCond .eq 7, 3) := by decide +kernel
theorem dX6_laySenders_53 : decode cX6_laySenders 53 = .ok (.iconst 1, 1) := by decide +kernel
theorem dX6_laySenders_54 : decode cX6_laySenders 54 = .ok (.goto 4, 3) := by decide +kernel
theorem dX6_laySenders_57 : decode cX6_laySenders 57 = .ok (.iconst 0, 1) := by decide +kernel
theorem dX6_laySenders_58 : decode cX6_laySenders 58 = .ok (.bastore, 1) := by decide +kernel
theorem dX6_laySenders_59 : decode cX6_laySenders 59 = .ok (.aload_n 0, 1) := by decide +kernel
theorem dX6_laySenders_60 : decode cX6_laySenders 60 = .ok (.getfield 26, 3) := by decide +kernel
theorem dX6_laySenders_63 : decode cX6_laySenders 63 = .ok (.iload_n 1, 1) := by decide +kernel
theorem dX6_laySenders_64 : decode cX6_laySenders 64 = .ok (.aload_n 0, 1) := by decide +kernel
theorem dX6_laySenders_65 : decode cX6_laySenders 65 = .ok (.iload_n 1, 1) := by decide +kernel
theorem dX6_laySenders_66 : decode cX6_laySenders 66 = .ok (.iconst 2, 1) := by decide +kernel
theorem dX6_laySenders_67 : decode cX6_laySenders 67 = .ok (.invokevirtual 54, 3) := by decide +kernel
theorem dX6_laySenders_70 : decode cX6_laySenders 70 = .ok (.ifCond .eq 19, 3) := by decide +kernel
theorem dX6_laySenders_73 : decode cX6_laySenders 73 = .ok (.aload_n 0, 1) := by decide +kernel
theorem dX6_laySenders_74 : decode cX6_laySenders 74 = .ok (.getfield 7, 3) := by decide +kernel
theorem dX6_laySenders_77 : decode cX6_laySenders 77 = .ok (.bipush 36, 2) := by decide +kernel
theorem dX6_laySenders_79 : decode cX6_laySenders 79 = .ok (.iload_n 1, 1) := by decide +kernel
theorem dX6_laySenders_80 : decode cX6_laySenders 80 = .ok (.iadd, 1) := by decide +kernel
theorem dX6_laySenders_81 : decode cX6_laySenders 81 = .ok (.iaload, 1) := by decide +kernel
theorem dX6_laySenders_82 : decode cX6_laySenders 82 = .ok (.ifCond .ne 7, 3) := by decide +kernel
theorem dX6_laySenders_85 : decode cX6_laySenders 85 = .ok (.iconst 1, 1) := by decide +kernel
theorem dX6_laySenders_86 : decode cX6_laySenders 86 = .ok (.goto 4, 3) := by decide +kernel
theorem dX6_laySenders_89 : decode cX6_laySenders 89 = .ok (.iconst 0, 1) := by decide +kernel
theorem dX6_laySenders_90 : decode cX6_laySenders 90 = .ok (.bastore, 1) := by decide +kernel
theorem dX6_laySenders_91 : decode cX6_laySenders 91 = .ok (.aload_n 0, 1) := by decide +kernel
theorem dX6_laySenders_92 : decode cX6_laySenders 92 = .ok (.getfield 32, 3) := by decide +kernel
theorem dX6_laySenders_95 : decode cX6_laySenders 95 = .ok (.iload_n 1, 1) := by decide +kernel
theorem dX6_laySenders_96 : decode cX6_laySenders 96 = .ok (.iconst 0, 1) := by decide +kernel
theorem dX6_laySenders_97 : decode cX6_laySenders 97 = .ok (.bastore, 1) := by decide +kernel
theorem dX6_laySenders_98 : decode cX6_laySenders 98 = .ok (.iinc 1 1, 3) := by decide +kernel
theorem dX6_laySenders_101 : decode cX6_laySenders 101 = .ok (.goto (-99), 3) := by decide +kernel
theorem dX6_laySenders_104 : decode cX6_laySenders 104 = .ok (.iconst 0, 1) := by decide +kernel
theorem dX6_laySenders_105 : decode cX6_laySenders 105 = .ok (.istore_n 1, 1) := by decide +kernel
theorem dX6_laySenders_106 : decode cX6_laySenders 106 = .ok (.iload_n 1, 1) := by decide +kernel
theorem dX6_laySenders_107 : decode cX6_laySenders 107 = .ok (.bipush 6, 2) := by decide +kernel
theorem dX6_laySenders_109 : decode cX6_laySenders 109 = .ok (.if_icmp .ge 36, 3) := by decide +kernel
theorem dX6_laySenders_112 : decode cX6_laySenders 112 = .ok (.aload_n 0, 1) := by decide +kernel
theorem dX6_laySenders_113 : decode cX6_laySenders 113 = .ok (.getfield 29, 3) := by decide +kernel
theorem dX6_laySenders_116 : decode cX6_laySenders 116 = .ok (.iload_n 1, 1) := by decide +kernel
theorem dX6_laySenders_117 : decode cX6_laySenders 117 = .ok (.aload_n 0, 1) := by decide +kernel
theorem dX6_laySenders_118 : decode cX6_laySenders 118 = .ok (.iload_n 1, 1) := by decide +kernel
theorem dX6_laySenders_119 : decode cX6_laySenders 119 = .ok (.invokevirtual 76, 3) := by decide +kernel
theorem dX6_laySenders_122 : decode cX6_laySenders 122 = .ok (.ifCond .eq 15, 3) := by decide +kernel
theorem dX6_laySenders_125 : decode cX6_laySenders 125 = .ok (.aload_n 0, 1) := by decide +kernel
theorem dX6_laySenders_126 : decode cX6_laySenders 126 = .ok (.iload_n 1, 1) := by decide +kernel
theorem dX6_laySenders_127 : decode cX6_laySenders 127 = .ok (.invokevirtual 79, 3) := by decide +kernel
theorem dX6_laySenders_130 : decode cX6_laySenders 130 = .ok (.ifCond .eq 7, 3) := by decide +kernel
theorem dX6_laySenders_133 : decode cX6_laySenders 133 = .ok (.iconst 1, 1) := by decide +kernel
theorem dX6_laySenders_134 : decode cX6_laySenders 134 = .ok (.goto 4, 3) := by decide +kernel
theorem dX6_laySenders_137 : decode cX6_laySenders 137 = .ok (.iconst 0, 1) := by decide +kernel
theorem dX6_laySenders_138 : decode cX6_laySenders 138 = .ok (.bastore, 1) := by decide +kernel
theorem dX6_laySenders_139 : decode cX6_laySenders 139 = .ok (.iinc 1 1, 3) := by decide +kernel
theorem dX6_laySenders_142 : decode cX6_laySenders 142 = .ok (.goto (-36), 3) := by decide +kernel
theorem dX6_laySenders_145 : decode cX6_laySenders 145 = .ok (.iconst 0, 1) := by decide +kernel
theorem dX6_laySenders_146 : decode cX6_laySenders 146 = .ok (.istore_n 1, 1) := by decide +kernel
theorem dX6_laySenders_147 : decode cX6_laySenders 147 = .ok (.iload_n 1, 1) := by decide +kernel
theorem dX6_laySenders_148 : decode cX6_laySenders 148 = .ok (.bipush 6, 2) := by decide +kernel
theorem dX6_laySenders_150 : decode cX6_laySenders 150 = .ok (.if_icmp .ge 38, 3) := by decide +kernel
theorem dX6_laySenders_153 : decode cX6_laySenders 153 = .ok (.aload_n 0, 1) := by decide +kernel
theorem dX6_laySenders_154 : decode cX6_laySenders 154 = .ok (.getfield 29, 3) := by decide +kernel
theorem dX6_laySenders_157 : decode cX6_laySenders 157 = .ok (.iload_n 1, 1) := by decide +kernel
theorem dX6_laySenders_158 : decode cX6_laySenders 158 = .ok (.baload, 1) := by decide +kernel
theorem dX6_laySenders_159 : decode cX6_laySenders 159 = .ok (.ifCond .eq 23, 3) := by decide +kernel
theorem dX6_laySenders_162 : decode cX6_laySenders 162 = .ok (.aload_n 0, 1) := by decide +kernel
theorem dX6_laySenders_163 : decode cX6_laySenders 163 = .ok (.getfield 23, 3) := by decide +kernel
theorem dX6_laySenders_166 : decode cX6_laySenders 166 = .ok (.iload_n 1, 1) := by decide +kernel
theorem dX6_laySenders_167 : decode cX6_laySenders 167 = .ok (.iconst 0, 1) := by decide +kernel
theorem dX6_laySenders_168 : decode cX6_laySenders 168 = .ok (.bastore, 1) := by decide +kernel
theorem dX6_laySenders_169 : decode cX6_laySenders 169 = .ok (.aload_n 0, 1) := by decide +kernel
theorem dX6_laySenders_170 : decode cX6_laySenders 170 = .ok (.iload_n 1, 1) := by decide +kernel
theorem dX6_laySenders_171 : decode cX6_laySenders 171 = .ok (.iconst 1, 1) := by decide +kernel
theorem dX6_laySenders_172 : decode cX6_laySenders 172 = .ok (.invokevirtual 68, 3) := by decide +kernel
theorem dX6_laySenders_175 : decode cX6_laySenders 175 = .ok (.aload_n 0, 1) := by decide +kernel
theorem dX6_laySenders_176 : decode cX6_laySenders 176 = .ok (.getfield 32, 3) := by decide +kernel
theorem dX6_laySenders_179 : decode cX6_laySenders 179 = .ok (.iload_n 1, 1) := by decide +kernel
theorem dX6_laySenders_180 : decode cX6_laySenders 180 = .ok (.iconst 1, 1) := by decide +kernel
theorem dX6_laySenders_181 : decode cX6_laySenders 181 = .ok (.bastore, 1) := by decide +kernel
theorem dX6_laySenders_182 : decode cX6_laySenders 182 = .ok (.iinc 1 1, 3) := by decide +kernel
theorem dX6_laySenders_185 : decode cX6_laySenders 185 = .ok (.goto (-38), 3) := by decide +kernel
theorem dX6_laySenders_188 : decode cX6_laySenders 188 = .ok (.return_, 1) := by decide +kernel
theorem dX6_givesWay_0 : decode cX6_givesWay 0 = .ok (.iconst 0, 1) := by decide +kernel
theorem dX6_givesWay_1 : decode cX6_givesWay 1 = .ok (.istore_n 2, 1) := by decide +kernel
theorem dX6_givesWay_2 : decode cX6_givesWay 2 = .ok (.iconst 0, 1) := by decide +kernel
theorem dX6_givesWay_3 : decode cX6_givesWay 3 = .ok (.istore_n 3, 1) := by decide +kernel
theorem dX6_givesWay_4 : decode cX6_givesWay 4 = .ok (.iload_n 3, 1) := by decide +kernel
theorem dX6_givesWay_5 : decode cX6_givesWay 5 = .ok (.bipush 6, 2) := by decide +kernel
theorem dX6_givesWay_7 : decode cX6_givesWay 7 = .ok (.if_icmp .ge 62, 3) := by decide +kernel
theorem dX6_givesWay_10 : decode cX6_givesWay 10 = .ok (.iload_n 2, 1) := by decide +kernel
theorem dX6_givesWay_11 : decode cX6_givesWay 11 = .ok (.ifCond .ne 46, 3) := by decide +kernel
theorem dX6_givesWay_14 : decode cX6_givesWay 14 = .ok (.iload_n 3, 1) := by decide +kernel
theorem dX6_givesWay_15 : decode cX6_givesWay 15 = .ok (.iload_n 1, 1) := by decide +kernel
theorem dX6_givesWay_16 : decode cX6_givesWay 16 = .ok (.if_icmp .eq 45, 3) := by decide +kernel
theorem dX6_givesWay_19 : decode cX6_givesWay 19 = .ok (.aload_n 0, 1) := by decide +kernel
theorem dX6_givesWay_20 : decode cX6_givesWay 20 = .ok (.getfield 23, 3) := by decide +kernel
theorem dX6_givesWay_23 : decode cX6_givesWay 23 = .ok (.iload_n 3, 1) := by decide +kernel
theorem dX6_givesWay_24 : decode cX6_givesWay 24 = .ok (.baload, 1) := by decide +kernel
theorem dX6_givesWay_25 : decode cX6_givesWay 25 = .ok (.ifCond .eq 36, 3) := by decide +kernel
theorem dX6_givesWay_28 : decode cX6_givesWay 28 = .ok (.aload_n 0, 1) := by decide +kernel
theorem dX6_givesWay_29 : decode cX6_givesWay 29 = .ok (.iload_n 3, 1) := by decide +kernel
theorem dX6_givesWay_30 : decode cX6_givesWay 30 = .ok (.invokevirtual 76, 3) := by decide +kernel
theorem dX6_givesWay_33 : decode cX6_givesWay 33 = .ok (.ifCond .eq 24, 3) := by decide +kernel
theorem dX6_givesWay_36 : decode cX6_givesWay 36 = .ok (.aload_n 0, 1) := by decide +kernel
theorem dX6_givesWay_37 : decode cX6_givesWay 37 = .ok (.getfield 7, 3) := by decide +kernel
theorem dX6_givesWay_40 : decode cX6_givesWay 40 = .ok (.bipush 6, 2) := by decide +kernel
theorem dX6_givesWay_42 : decode cX6_givesWay 42 = .ok (.iload_n 3, 1) := by decide +kernel
theorem dX6_givesWay_43 : decode cX6_givesWay 43 = .ok (.iadd, 1) := by decide +kernel
theorem dX6_givesWay_44 : decode cX6_givesWay 44 = .ok (.iaload, 1) := by decide +kernel
theorem dX6_givesWay_45 : decode cX6_givesWay 45 = .ok (.aload_n 0, 1) := by decide +kernel
theorem dX6_givesWay_46 : decode cX6_givesWay 46 = .ok (.getfield 7, 3) := by decide +kernel
theorem dX6_givesWay_49 : decode cX6_givesWay 49 = .ok (.bipush 6, 2) := by decide +kernel
theorem dX6_givesWay_51 : decode cX6_givesWay 51 = .ok (.iload_n 1, 1) := by decide +kernel
theorem dX6_givesWay_52 : decode cX6_givesWay 52 = .ok (.iadd, 1) := by decide +kernel
theorem dX6_givesWay_53 : decode cX6_givesWay 53 = .ok (.iaload, 1) := by decide +kernel
theorem dX6_givesWay_54 : decode cX6_givesWay 54 = .ok (.if_icmp .ge 7, 3) := by decide +kernel
theorem dX6_givesWay_57 : decode cX6_givesWay 57 = .ok (.iconst 1, 1) := by decide +kernel
theorem dX6_givesWay_58 : decode cX6_givesWay 58 = .ok (.goto 4, 3) := by decide +kernel
theorem dX6_givesWay_61 : decode cX6_givesWay 61 = .ok (.iconst 0, 1) := by decide +kernel
theorem dX6_givesWay_62 : decode cX6_givesWay 62 = .ok (.istore_n 2, 1) := by decide +kernel
theorem dX6_givesWay_63 : decode cX6_givesWay 63 = .ok (.iinc 3 1, 3) := by decide +kernel
theorem dX6_givesWay_66 : decode cX6_givesWay 66 = .ok (.goto (-62), 3) := by decide +kernel
theorem dX6_givesWay_69 : decode cX6_givesWay 69 = .ok (.iload_n 2, 1) := by decide +kernel
theorem dX6_givesWay_70 : decode cX6_givesWay 70 = .ok (.ireturn, 1) := by decide +kernel
theorem dX6_hear_0 : decode cX6_hear 0 = .ok (.aload_n 0, 1) := by decide +kernel
theorem dX6_hear_1 : decode cX6_hear 1 = .ok (.getfield 35, 3) := by decide +kernel
theorem dX6_hear_4 : decode cX6_hear 4 = .ok (.iload_n 1, 1) := by decide +kernel
theorem dX6_hear_5 : decode cX6_hear 5 = .ok (.iconst 0, 1) := by decide +kernel
theorem dX6_hear_6 : decode cX6_hear 6 = .ok (.iastore, 1) := by decide +kernel
theorem dX6_hear_7 : decode cX6_hear 7 = .ok (.aload_n 0, 1) := by decide +kernel
theorem dX6_hear_8 : decode cX6_hear 8 = .ok (.getfield 38, 3) := by decide +kernel
theorem dX6_hear_11 : decode cX6_hear 11 = .ok (.iload_n 1, 1) := by decide +kernel
theorem dX6_hear_12 : decode cX6_hear 12 = .ok (.iconst 0, 1) := by decide +kernel
theorem dX6_hear_13 : decode cX6_hear 13 = .ok (.iastore, 1) := by decide +kernel
theorem dX6_hear_14 : decode cX6_hear 14 = .ok (.aload_n 0, 1) := by decide +kernel
theorem dX6_hear_15 : decode cX6_hear 15 = .ok (.getfield 41, 3) := by decide +kernel
theorem dX6_hear_18 : decode cX6_hear 18 = .ok (.iload_n 1, 1) := by decide +kernel
theorem dX6_hear_19 : decode cX6_hear 19 = .ok (.bipush (-6), 2) := by decide +kernel
theorem dX6_hear_21 : decode cX6_hear 21 = .ok (.iastore, 1) := by decide +kernel
theorem dX6_hear_22 : decode cX6_hear 22 = .ok (.iconst 0, 1) := by decide +kernel
theorem dX6_hear_23 : decode cX6_hear 23 = .ok (.istore_n 2, 1) := by decide +kernel
theorem dX6_hear_24 : decode cX6_hear 24 = .ok (.iload_n 2, 1) := by decide +kernel
theorem dX6_hear_25 : decode cX6_hear 25 = .ok (.bipush 6, 2) := by decide +kernel
theorem dX6_hear_27 : decode cX6_hear 27 = .ok (.if_icmp .ge 156, 3) := by decide +kernel
theorem dX6_hear_30 : decode cX6_hear 30 = .ok (.aload_n 0, 1) := by decide +kernel
theorem dX6_hear_31 : decode cX6_hear 31 = .ok (.iload_n 1, 1) := by decide +kernel
theorem dX6_hear_32 : decode cX6_hear 32 = .ok (.invokevirtual 65, 3) := by decide +kernel
theorem dX6_hear_35 : decode cX6_hear 35 = .ok (.ifCond .ne 148, 3) := by decide +kernel
theorem dX6_hear_38 : decode cX6_hear 38 = .ok (.iload_n 2, 1) := by decide +kernel
theorem dX6_hear_39 : decode cX6_hear 39 = .ok (.iload_n 1, 1) := by decide +kernel
theorem dX6_hear_40 : decode cX6_hear 40 = .ok (.if_icmp .eq 137, 3) := by decide +kernel
theorem dX6_hear_43 : decode cX6_hear 43 = .ok (.aload_n 0, 1) := by decide +kernel
theorem dX6_hear_44 : decode cX6_hear 44 = .ok (.getfield 23, 3) := by decide +kernel
theorem dX6_hear_47 : decode cX6_hear 47 = .ok (.iload_n 2, 1) := by decide +kernel
theorem dX6_hear_48 : decode cX6_hear 48 = .ok (.baload, 1) := by decide +kernel
theorem dX6_hear_49 : decode cX6_hear 49 = .ok (.ifCond .eq 128, 3) := by decide +kernel
theorem dX6_hear_52 : decode cX6_hear 52 = .ok (.aload_n 0, 1) := by decide +kernel
theorem dX6_hear_53 : decode cX6_hear 53 = .ok (.getfield 35, 3) := by decide +kernel
theorem dX6_hear_56 : decode cX6_hear 56 = .ok (.iload_n 1, 1) := by decide +kernel
theorem dX6_hear_57 : decode cX6_hear 57 = .ok (.dup2, 1) := by decide +kernel
theorem dX6_hear_58 : decode cX6_hear 58 = .ok (.iaload, 1) := by decide +kernel
theorem dX6_hear_59 : decode cX6_hear 59 = .ok (.iconst 1, 1) := by decide +kernel
theorem dX6_hear_60 : decode cX6_hear 60 = .ok (.iload_n 2, 1) := by decide +kernel
theorem dX6_hear_61 : decode cX6_hear 61 = .ok (.ishl, 1) := by decide +kernel
theorem dX6_hear_62 : decode cX6_hear 62 = .ok (.ior, 1) := by decide +kernel
theorem dX6_hear_63 : decode cX6_hear 63 = .ok (.iastore, 1) := by decide +kernel
theorem dX6_hear_64 : decode cX6_hear 64 = .ok (.aload_n 0, 1) := by decide +kernel
theorem dX6_hear_65 : decode cX6_hear 65 = .ok (.getfield 44, 3) := by decide +kernel
theorem dX6_hear_68 : decode cX6_hear 68 = .ok (.bipush 6, 2) := by decide +kernel
theorem dX6_hear_70 : decode cX6_hear 70 = .ok (.iload_n 1, 1) := by decide +kernel
theorem dX6_hear_71 : decode cX6_hear 71 = .ok (.imul, 1) := by decide +kernel
theorem dX6_hear_72 : decode cX6_hear 72 = .ok (.iload_n 2, 1) := by decide +kernel
theorem dX6_hear_73 : decode cX6_hear 73 = .ok (.iadd, 1) := by decide +kernel
theorem dX6_hear_74 : decode cX6_hear 74 = .ok (.aload_n 0, 1) := by decide +kernel
theorem dX6_hear_75 : decode cX6_hear 75 = .ok (.getfield 7, 3) := by decide +kernel
theorem dX6_hear_78 : decode cX6_hear 78 = .ok (.bipush 60, 2) := by decide +kernel
theorem dX6_hear_80 : decode cX6_hear 80 = .ok (.iload_n 2, 1) := by decide +kernel
theorem dX6_hear_81 : decode cX6_hear 81 = .ok (.iadd, 1) := by decide +kernel
theorem dX6_hear_82 : decode cX6_hear 82 = .ok (.iaload, 1) := by decide +kernel
theorem dX6_hear_83 : decode cX6_hear 83 = .ok (.aload_n 0, 1) := by decide +kernel
theorem dX6_hear_84 : decode cX6_hear 84 = .ok (.getfield 7, 3) := by decide +kernel
theorem dX6_hear_87 : decode cX6_hear 87 = .ok (.bipush 24, 2) := by decide +kernel
theorem dX6_hear_89 : decode cX6_hear 89 = .ok (.iload_n 2, 1) := by decide +kernel
theorem dX6_hear_90 : decode cX6_hear 90 = .ok (.iadd, 1) := by decide +kernel
theorem dX6_hear_91 : decode cX6_hear 91 = .ok (.iaload, 1) := by decide +kernel
theorem dX6_hear_92 : decode cX6_hear 92 = .ok (.iadd, 1) := by decide +kernel
theorem dX6_hear_93 : decode cX6_hear 93 = .ok (.aload_n 0, 1) := by decide +kernel
theorem dX6_hear_94 : decode cX6_hear 94 = .ok (.getfield 7, 3) := by decide +kernel
theorem dX6_hear_97 : decode cX6_hear 97 = .ok (.bipush 60, 2) := by decide +kernel
theorem dX6_hear_99 : decode cX6_hear 99 = .ok (.iload_n 1, 1) := by decide +kernel
theorem dX6_hear_100 : decode cX6_hear 100 = .ok (.iadd, 1) := by decide +kernel
theorem dX6_hear_101 : decode cX6_hear 101 = .ok (.iaload, 1) := by decide +kernel
theorem dX6_hear_102 : decode cX6_hear 102 = .ok (.isub, 1) := by decide +kernel
theorem dX6_hear_103 : decode cX6_hear 103 = .ok (.iastore, 1) := by decide +kernel
theorem dX6_hear_104 : decode cX6_hear 104 = .ok (.aload_n 0, 1) := by decide +kernel
theorem dX6_hear_105 : decode cX6_hear 105 = .ok (.getfield 7, 3) := by decide +kernel
theorem dX6_hear_108 : decode cX6_hear 108 = .ok (.iconst 0, 1) := by decide +kernel
theorem dX6_hear_109 : decode cX6_hear 109 = .ok (.iload_n 2, 1) := by decide +kernel
theorem dX6_hear_110 : decode cX6_hear 110 = .ok (.iadd, 1) := by decide +kernel
theorem dX6_hear_111 : decode cX6_hear 111 = .ok (.iaload, 1) := by decide +kernel
theorem dX6_hear_112 : decode cX6_hear 112 = .ok (.iconst 1, 1) := by decide +kernel
theorem dX6_hear_113 : decode cX6_hear 113 = .ok (.if_icmp .ne 64, 3) := by decide +kernel
theorem dX6_hear_116 : decode cX6_hear 116 = .ok (.aload_n 0, 1) := by decide +kernel
theorem dX6_hear_117 : decode cX6_hear 117 = .ok (.getfield 38, 3) := by decide +kernel
theorem dX6_hear_120 : decode cX6_hear 120 = .ok (.iload_n 1, 1) := by decide +kernel
theorem dX6_hear_121 : decode cX6_hear 121 = .ok (.dup2, 1) := by decide +kernel
theorem dX6_hear_122 : decode cX6_hear 122 = .ok (.iaload, 1) := by decide +kernel
theorem dX6_hear_123 : decode cX6_hear 123 = .ok (.iconst 1, 1) := by decide +kernel
theorem dX6_hear_124 : decode cX6_hear 124 = .ok (.iadd, 1) := by decide +kernel
theorem dX6_hear_125 : decode cX6_hear 125 = .ok (.iastore, 1) := by decide +kernel
theorem dX6_hear_126 : decode cX6_hear 126 = .ok (.aload_n 0, 1) := by decide +kernel
theorem dX6_hear_127 : decode cX6_hear 127 = .ok (.getfield 41, 3) := by decide +kernel
theorem dX6_hear_130 : decode cX6_hear 130 = .ok (.iload_n 1, 1) := by decide +kernel
theorem dX6_hear_131 : decode cX6_hear 131 = .ok (.aload_n 0, 1) := by decide +kernel
theorem dX6_hear_132 : decode cX6_hear 132 = .ok (.getfield 41, 3) := by decide +kernel
theorem dX6_hear_135 : decode cX6_hear 135 = .ok (.iload_n 1, 1) := by decide +kernel
theorem dX6_hear_136 : decode cX6_hear 136 = .ok (.iaload, 1) := by decide +kernel
theorem dX6_hear_137 : decode cX6_hear 137 = .ok (.ifCond .lt 29, 3) := by decide +kernel
theorem dX6_hear_140 : decode cX6_hear 140 = .ok (.aload_n 0, 1) := by decide +kernel
theorem dX6_hear_141 : decode cX6_hear 141 = .ok (.getfield 7, 3) := by decide +kernel
theorem dX6_hear_144 : decode cX6_hear 144 = .ok (.bipush 6, 2) := by decide +kernel
theorem dX6_hear_146 : decode cX6_hear 146 = .ok (.iload_n 2, 1) := by decide +kernel
theorem dX6_hear_147 : decode cX6_hear 147 = .ok (.iadd, 1) := by decide +kernel
theorem dX6_hear_148 : decode cX6_hear 148 = .ok (.iaload, 1) := by decide +kernel
theorem dX6_hear_149 : decode cX6_hear 149 = .ok (.aload_n 0, 1) := by decide +kernel
theorem dX6_hear_150 : decode cX6_hear 150 = .ok (.getfield 7, 3) := by decide +kernel
theorem dX6_hear_153 : decode cX6_hear 153 = .ok (.bipush 6, 2) := by decide +kernel
theorem dX6_hear_155 : decode cX6_hear 155 = .ok (.aload_n 0, 1) := by decide +kernel
theorem dX6_hear_156 : decode cX6_hear 156 = .ok (.getfield 41, 3) := by decide +kernel
theorem dX6_hear_159 : decode cX6_hear 159 = .ok (.iload_n 1, 1) := by decide +kernel
theorem dX6_hear_160 : decode cX6_hear 160 = .ok (.iaload, 1) := by decide +kernel
theorem dX6_hear_161 : decode cX6_hear 161 = .ok (.iadd, 1) := by decide +kernel
theorem dX6_hear_162 : decode cX6_hear 162 = .ok (.iaload, 1) := by decide +kernel
theorem dX6_hear_163 : decode cX6_hear 163 = .ok (.if_icmp .ge 7, 3) := by decide +kernel
theorem dX6_hear_166 : decode cX6_hear 166 = .ok (.iload_n 2, 1) := by decide +kernel
theorem dX6_hear_167 : decode cX6_hear 167 = .ok (.goto 9, 3) := by decide +kernel
theorem dX6_hear_170 : decode cX6_hear 170 = .ok (.aload_n 0, 1) := by decide +kernel
theorem dX6_hear_171 : decode cX6_hear 171 = .ok (.getfield 41, 3) := by decide +kernel
theorem dX6_hear_174 : decode cX6_hear 174 = .ok (.iload_n 1, 1) := by decide +kernel
theorem dX6_hear_175 : decode cX6_hear 175 = .ok (.iaload, 1) := by decide +kernel
theorem dX6_hear_176 : decode cX6_hear 176 = .ok (.iastore, 1) := by decide +kernel
theorem dX6_hear_177 : decode cX6_hear 177 = .ok (.iinc 2 1, 3) := by decide +kernel
theorem dX6_hear_180 : decode cX6_hear 180 = .ok (.goto (-156), 3) := by decide +kernel
theorem dX6_hear_183 : decode cX6_hear 183 = .ok (.return_, 1) := by decide +kernel
theorem dX6_keepEvent_0 : decode cX6_keepEvent 0 = .ok (.aload_n 0, 1) := by decide +kernel
theorem dX6_keepEvent_1 : decode cX6_keepEvent 1 = .ok (.getfield 7, 3) := by decide +kernel
theorem dX6_keepEvent_4 : decode cX6_keepEvent 4 = .ok (.sipush 135, 3) := by decide +kernel
theorem dX6_keepEvent_7 : decode cX6_keepEvent 7 = .ok (.iaload, 1) := by decide +kernel
theorem dX6_keepEvent_8 : decode cX6_keepEvent 8 = .ok (.bipush 40, 2) := by decide +kernel
theorem dX6_keepEvent_10 : decode cX6_keepEvent 10 = .ok (.if_icmp .ne 49, 3) := by decide +kernel
theorem dX6_keepEvent_13 : decode cX6_keepEvent 13 = .ok (.iconst 0, 1) := by decide +kernel
theorem dX6_keepEvent_14 : decode cX6_keepEvent 14 = .ok (.istore_n 2, 1) := by decide +kernel
theorem dX6_keepEvent_15 : decode cX6_keepEvent 15 = .ok (.iload_n 2, 1) := by decide +kernel
theorem dX6_keepEvent_16 : decode cX6_keepEvent 16 = .ok (.bipush 117, 2) := by decide +kernel
theorem dX6_keepEvent_18 : decode cX6_keepEvent 18 = .ok (.if_icmp .ge 29, 3) := by decide +kernel
theorem dX6_keepEvent_21 : decode cX6_keepEvent 21 = .ok (.aload_n 0, 1) := by decide +kernel
theorem dX6_keepEvent_22 : decode cX6_keepEvent 22 = .ok (.getfield 7, 3) := by decide +kernel
theorem dX6_keepEvent_25 : decode cX6_keepEvent 25 = .ok (.sipush 136, 3) := by decide +kernel
theorem dX6_keepEvent_28 : decode cX6_keepEvent 28 = .ok (.iload_n 2, 1) := by decide +kernel
theorem dX6_keepEvent_29 : decode cX6_keepEvent 29 = .ok (.iadd, 1) := by decide +kernel
theorem dX6_keepEvent_30 : decode cX6_keepEvent 30 = .ok (.aload_n 0, 1) := by decide +kernel
theorem dX6_keepEvent_31 : decode cX6_keepEvent 31 = .ok (.getfield 7, 3) := by decide +kernel
theorem dX6_keepEvent_34 : decode cX6_keepEvent 34 = .ok (.sipush 139, 3) := by decide +kernel
theorem dX6_keepEvent_37 : decode cX6_keepEvent 37 = .ok (.iload_n 2, 1) := by decide +kernel
theorem dX6_keepEvent_38 : decode cX6_keepEvent 38 = .ok (.iadd, 1) := by decide +kernel
theorem dX6_keepEvent_39 : decode cX6_keepEvent 39 = .ok (.iaload, 1) := by decide +kernel
theorem dX6_keepEvent_40 : decode cX6_keepEvent 40 = .ok (.iastore, 1) := by decide +kernel
theorem dX6_keepEvent_41 : decode cX6_keepEvent 41 = .ok (.iinc 2 1, 3) := by decide +kernel
theorem dX6_keepEvent_44 : decode cX6_keepEvent 44 = .ok (.goto (-29), 3) := by decide +kernel
theorem dX6_keepEvent_47 : decode cX6_keepEvent 47 = .ok (.aload_n 0, 1) := by decide +kernel
theorem dX6_keepEvent_48 : decode cX6_keepEvent 48 = .ok (.getfield 7, 3) := by decide +kernel
theorem dX6_keepEvent_51 : decode cX6_keepEvent 51 = .ok (.sipush 135, 3) := by decide +kernel
theorem dX6_keepEvent_54 : decode cX6_keepEvent 54 = .ok (.dup2, 1) := by decide +kernel
theorem dX6_keepEvent_55 : decode cX6_keepEvent 55 = .ok (.iaload, 1) := by decide +kernel
theorem dX6_keepEvent_56 : decode cX6_keepEvent 56 = .ok (.iconst 1, 1) := by decide +kernel
theorem dX6_keepEvent_57 : decode cX6_keepEvent 57 = .ok (.isub, 1) := by decide +kernel
theorem dX6_keepEvent_58 : decode cX6_keepEvent 58 = .ok (.iastore, 1) := by decide +kernel
theorem dX6_keepEvent_59 : decode cX6_keepEvent 59 = .ok (.sipush 136, 3) := by decide +kernel
theorem dX6_keepEvent_62 : decode cX6_keepEvent 62 = .ok (.iconst 3, 1) := by decide +kernel
theorem dX6_keepEvent_63 : decode cX6_keepEvent 63 = .ok (.aload_n 0, 1) := by decide +kernel
theorem dX6_keepEvent_64 : decode cX6_keepEvent 64 = .ok (.getfield 7, 3) := by decide +kernel
theorem dX6_keepEvent_67 : decode cX6_keepEvent 67 = .ok (.sipush 135, 3) := by decide +kernel
theorem dX6_keepEvent_70 : decode cX6_keepEvent 70 = .ok (.iaload, 1) := by decide +kernel
theorem dX6_keepEvent_71 : decode cX6_keepEvent 71 = .ok (.imul, 1) := by decide +kernel
theorem dX6_keepEvent_72 : decode cX6_keepEvent 72 = .ok (.iadd, 1) := by decide +kernel
theorem dX6_keepEvent_73 : decode cX6_keepEvent 73 = .ok (.istore_n 2, 1) := by decide +kernel
theorem dX6_keepEvent_74 : decode cX6_keepEvent 74 = .ok (.aload_n 0, 1) := by decide +kernel
theorem dX6_keepEvent_75 : decode cX6_keepEvent 75 = .ok (.getfield 7, 3) := by decide +kernel
theorem dX6_keepEvent_78 : decode cX6_keepEvent 78 = .ok (.iload_n 2, 1) := by decide +kernel
theorem dX6_keepEvent_79 : decode cX6_keepEvent 79 = .ok (.aload_n 0, 1) := by decide +kernel
theorem dX6_keepEvent_80 : decode cX6_keepEvent 80 = .ok (.getfield 7, 3) := by decide +kernel
theorem dX6_keepEvent_83 : decode cX6_keepEvent 83 = .ok (.sipush 133, 3) := by decide +kernel
theorem dX6_keepEvent_86 : decode cX6_keepEvent 86 = .ok (.iaload, 1) := by decide +kernel
theorem dX6_keepEvent_87 : decode cX6_keepEvent 87 = .ok (.iastore, 1) := by decide +kernel
theorem dX6_keepEvent_88 : decode cX6_keepEvent 88 = .ok (.aload_n 0, 1) := by decide +kernel
theorem dX6_keepEvent_89 : decode cX6_keepEvent 89 = .ok (.getfield 7, 3) := by decide +kernel
theorem dX6_keepEvent_92 : decode cX6_keepEvent 92 = .ok (.iload_n 2, 1) := by decide +kernel
theorem dX6_keepEvent_93 : decode cX6_keepEvent 93 = .ok (.iconst 1, 1) := by decide +kernel
theorem dX6_keepEvent_94 : decode cX6_keepEvent 94 = .ok (.iadd, 1) := by decide +kernel
theorem dX6_keepEvent_95 : decode cX6_keepEvent 95 = .ok (.iload_n 1, 1) := by decide +kernel
theorem dX6_keepEvent_96 : decode cX6_keepEvent 96 = .ok (.iastore, 1) := by decide +kernel
theorem dX6_keepEvent_97 : decode cX6_keepEvent 97 = .ok (.aload_n 0, 1) := by decide +kernel
theorem dX6_keepEvent_98 : decode cX6_keepEvent 98 = .ok (.getfield 7, 3) := by decide +kernel
theorem dX6_keepEvent_101 : decode cX6_keepEvent 101 = .ok (.iload_n 2, 1) := by decide +kernel
theorem dX6_keepEvent_102 : decode cX6_keepEvent 102 = .ok (.iconst 2, 1) := by decide +kernel
theorem dX6_keepEvent_103 : decode cX6_keepEvent 103 = .ok (.iadd, 1) := by decide +kernel
theorem dX6_keepEvent_104 : decode cX6_keepEvent 104 = .ok (.aload_n 0, 1) := by decide +kernel
theorem dX6_keepEvent_105 : decode cX6_keepEvent 105 = .ok (.getfield 7, 3) := by decide +kernel
theorem dX6_keepEvent_108 : decode cX6_keepEvent 108 = .ok (.bipush 30, 2) := by decide +kernel
theorem dX6_keepEvent_110 : decode cX6_keepEvent 110 = .ok (.iload_n 1, 1) := by decide +kernel
theorem dX6_keepEvent_111 : decode cX6_keepEvent 111 = .ok (.iadd, 1) := by decide +kernel
theorem dX6_keepEvent_112 : decode cX6_keepEvent 112 = .ok (.iaload, 1) := by decide +kernel
theorem dX6_keepEvent_113 : decode cX6_keepEvent 113 = .ok (.iastore, 1) := by decide +kernel
theorem dX6_keepEvent_114 : decode cX6_keepEvent 114 = .ok (.aload_n 0, 1) := by decide +kernel
theorem dX6_keepEvent_115 : decode cX6_keepEvent 115 = .ok (.getfield 7, 3) := by decide +kernel
theorem dX6_keepEvent_118 : decode cX6_keepEvent 118 = .ok (.sipush 135, 3) := by decide +kernel
theorem dX6_keepEvent_121 : decode cX6_keepEvent 121 = .ok (.dup2, 1) := by decide +kernel
theorem dX6_keepEvent_122 : decode cX6_keepEvent 122 = .ok (.iaload, 1) := by decide +kernel
theorem dX6_keepEvent_123 : decode cX6_keepEvent 123 = .ok (.iconst 1, 1) := by decide +kernel
theorem dX6_keepEvent_124 : decode cX6_keepEvent 124 = .ok (.iadd, 1) := by decide +kernel
theorem dX6_keepEvent_125 : decode cX6_keepEvent 125 = .ok (.iastore, 1) := by decide +kernel
theorem dX6_keepEvent_126 : decode cX6_keepEvent 126 = .ok (.return_, 1) := by decide +kernel
theorem dX6_become_0 : decode cX6_become 0 = .ok (.aload_n 0, 1) := by decide +kernel
theorem dX6_become_1 : decode cX6_become 1 = .ok (.iload_n 1, 1) := by decide +kernel
theorem dX6_become_2 : decode cX6_become 2 = .ok (.iload_n 2, 1) := by decide +kernel
theorem dX6_become_3 : decode cX6_become 3 = .ok (.invokevirtual 68, 3) := by decide +kernel
theorem dX6_become_6 : decode cX6_become 6 = .ok (.aload_n 0, 1) := by decide +kernel
theorem dX6_become_7 : decode cX6_become 7 = .ok (.getfield 32, 3) := by decide +kernel
theorem dX6_become_10 : decode cX6_become 10 = .ok (.iload_n 1, 1) := by decide +kernel
theorem dX6_become_11 : decode cX6_become 11 = .ok (.iconst 1, 1) := by decide +kernel
theorem dX6_become_12 : decode cX6_become 12 = .ok (.bastore, 1) := by decide +kernel
theorem dX6_become_13 : decode cX6_become 13 = .ok (.aload_n 0, 1) := by decide +kernel
theorem dX6_become_14 : decode cX6_become 14 = .ok (.iload_n 1, 1) := by decide +kernel
theorem dX6_become_15 : decode cX6_become 15 = .ok (.invokevirtual 82, 3) := by decide +kernel
theorem dX6_become_18 : decode cX6_become 18 = .ok (.return_, 1) := by decide +kernel
theorem dX6_otherSign_0 : decode cX6_otherSign 0 = .ok (.iconst 0, 1) := by decide +kernel
theorem dX6_otherSign_1 : decode cX6_otherSign 1 = .ok (.istore_n 2, 1) := by decide +kernel
theorem dX6_otherSign_2 : decode cX6_otherSign 2 = .ok (.iconst 0, 1) := by decide +kernel
theorem dX6_otherSign_3 : decode cX6_otherSign 3 = .ok (.istore_n 3, 1) := by decide +kernel
theorem dX6_otherSign_4 : decode cX6_otherSign 4 = .ok (.iload_n 3, 1) := by decide +kernel
theorem dX6_otherSign_5 : decode cX6_otherSign 5 = .ok (.bipush 6, 2) := by decide +kernel
theorem dX6_otherSign_7 : decode cX6_otherSign 7 = .ok (.if_icmp .ge 33, 3) := by decide +kernel
theorem dX6_otherSign_10 : decode cX6_otherSign 10 = .ok (.iload_n 2, 1) := by decide +kernel
theorem dX6_otherSign_11 : decode cX6_otherSign 11 = .ok (.ifCond .ne 17, 3) := by decide +kernel
theorem dX6_otherSign_14 : decode cX6_otherSign 14 = .ok (.iload_n 3, 1) := by decide +kernel
theorem dX6_otherSign_15 : decode cX6_otherSign 15 = .ok (.iload_n 1, 1) := by decide +kernel
theorem dX6_otherSign_16 : decode cX6_otherSign 16 = .ok (.if_icmp .eq 16, 3) := by decide +kernel
theorem dX6_otherSign_19 : decode cX6_otherSign 19 = .ok (.aload_n 0, 1) := by decide +kernel
theorem dX6_otherSign_20 : decode cX6_otherSign 20 = .ok (.getfield 26, 3) := by decide +kernel
theorem dX6_otherSign_23 : decode cX6_otherSign 23 = .ok (.iload_n 3, 1) := by decide +kernel
theorem dX6_otherSign_24 : decode cX6_otherSign 24 = .ok (.baload, 1) := by decide +kernel
theorem dX6_otherSign_25 : decode cX6_otherSign 25 = .ok (.ifCond .eq 7, 3) := by decide +kernel
theorem dX6_otherSign_28 : decode cX6_otherSign 28 = .ok (.iconst 1, 1) := by decide +kernel
theorem dX6_otherSign_29 : decode cX6_otherSign 29 = .ok (.goto 4, 3) := by decide +kernel
theorem dX6_otherSign_32 : decode cX6_otherSign 32 = .ok (.iconst 0, 1) := by decide +kernel
theorem dX6_otherSign_33 : decode cX6_otherSign 33 = .ok (.istore_n 2, 1) := by decide +kernel
theorem dX6_otherSign_34 : decode cX6_otherSign 34 = .ok (.iinc 3 1, 3) := by decide +kernel
theorem dX6_otherSign_37 : decode cX6_otherSign 37 = .ok (.goto (-33), 3) := by decide +kernel
theorem dX6_otherSign_40 : decode cX6_otherSign 40 = .ok (.iload_n 2, 1) := by decide +kernel
theorem dX6_otherSign_41 : decode cX6_otherSign 41 = .ok (.ireturn, 1) := by decide +kernel
theorem dX6_follow_0 : decode cX6_follow 0 = .ok (.aload_n 0, 1) := by decide +kernel
theorem dX6_follow_1 : decode cX6_follow 1 = .ok (.iload_n 1, 1) := by decide +kernel
theorem dX6_follow_2 : decode cX6_follow 2 = .ok (.iload_n 2, 1) := by decide +kernel
theorem dX6_follow_3 : decode cX6_follow 3 = .ok (.invokevirtual 86, 3) := by decide +kernel
theorem dX6_follow_6 : decode cX6_follow 6 = .ok (.aload_n 0, 1) := by decide +kernel
theorem dX6_follow_7 : decode cX6_follow 7 = .ok (.getfield 41, 3) := by decide +kernel
theorem dX6_follow_10 : decode cX6_follow 10 = .ok (.iload_n 1, 1) := by decide +kernel
theorem dX6_follow_11 : decode cX6_follow 11 = .ok (.iaload, 1) := by decide +kernel
theorem dX6_follow_12 : decode cX6_follow 12 = .ok (.istore_n 3, 1) := by decide +kernel
theorem dX6_follow_13 : decode cX6_follow 13 = .ok (.aload_n 0, 1) := by decide +kernel
theorem dX6_follow_14 : decode cX6_follow 14 = .ok (.getfield 7, 3) := by decide +kernel
theorem dX6_follow_17 : decode cX6_follow 17 = .ok (.bipush 60, 2) := by decide +kernel
theorem dX6_follow_19 : decode cX6_follow 19 = .ok (.iload_n 1, 1) := by decide +kernel
theorem dX6_follow_20 : decode cX6_follow 20 = .ok (.iadd, 1) := by decide +kernel
theorem dX6_follow_21 : decode cX6_follow 21 = .ok (.dup2, 1) := by decide +kernel
theorem dX6_follow_22 : decode cX6_follow 22 = .ok (.iaload, 1) := by decide +kernel
theorem dX6_follow_23 : decode cX6_follow 23 = .ok (.aload_n 0, 1) := by decide +kernel
theorem dX6_follow_24 : decode cX6_follow 24 = .ok (.getfield 44, 3) := by decide +kernel
theorem dX6_follow_27 : decode cX6_follow 27 = .ok (.bipush 6, 2) := by decide +kernel
theorem dX6_follow_29 : decode cX6_follow 29 = .ok (.iload_n 1, 1) := by decide +kernel
theorem dX6_follow_30 : decode cX6_follow 30 = .ok (.imul, 1) := by decide +kernel
theorem dX6_follow_31 : decode cX6_follow 31 = .ok (.iload_n 3, 1) := by decide +kernel
theorem dX6_follow_32 : decode cX6_follow 32 = .ok (.iadd, 1) := by decide +kernel
theorem dX6_follow_33 : decode cX6_follow 33 = .ok (.iaload, 1) := by decide +kernel
theorem dX6_follow_34 : decode cX6_follow 34 = .ok (.iadd, 1) := by decide +kernel
theorem dX6_follow_35 : decode cX6_follow 35 = .ok (.iastore, 1) := by decide +kernel
theorem dX6_follow_36 : decode cX6_follow 36 = .ok (.aload_n 0, 1) := by decide +kernel
theorem dX6_follow_37 : decode cX6_follow 37 = .ok (.getfield 7, 3) := by decide +kernel
theorem dX6_follow_40 : decode cX6_follow 40 = .ok (.bipush 66, 2) := by decide +kernel
theorem dX6_follow_42 : decode cX6_follow 42 = .ok (.iload_n 1, 1) := by decide +kernel
theorem dX6_follow_43 : decode cX6_follow 43 = .ok (.iadd, 1) := by decide +kernel
theorem dX6_follow_44 : decode cX6_follow 44 = .ok (.aload_n 0, 1) := by decide +kernel
theorem dX6_follow_45 : decode cX6_follow 45 = .ok (.getfield 7, 3) := by decide +kernel
theorem dX6_follow_48 : decode cX6_follow 48 = .ok (.bipush 18, 2) := by decide +kernel
theorem dX6_follow_50 : decode cX6_follow 50 = .ok (.iload_n 3, 1) := by decide +kernel
theorem dX6_follow_51 : decode cX6_follow 51 = .ok (.iadd, 1) := by decide +kernel
theorem dX6_follow_52 : decode cX6_follow 52 = .ok (.iaload, 1) := by decide +kernel
theorem dX6_follow_53 : decode cX6_follow 53 = .ok (.aload_n 0, 1) := by decide +kernel
theorem dX6_follow_54 : decode cX6_follow 54 = .ok (.getfield 47, 3) := by decide +kernel
theorem dX6_follow_57 : decode cX6_follow 57 = .ok (.iload_n 3, 1) := by decide +kernel
theorem dX6_follow_58 : decode cX6_follow 58 = .ok (.iaload, 1) := by decide +kernel
theorem dX6_follow_59 : decode cX6_follow 59 = .ok (.iadd, 1) := by decide +kernel
theorem dX6_follow_60 : decode cX6_follow 60 = .ok (.aload_n 0, 1) := by decide +kernel
theorem dX6_follow_61 : decode cX6_follow 61 = .ok (.getfield 7, 3) := by decide +kernel
theorem dX6_follow_64 : decode cX6_follow 64 = .ok (.bipush 18, 2) := by decide +kernel
theorem dX6_follow_66 : decode cX6_follow 66 = .ok (.iload_n 1, 1) := by decide +kernel
theorem dX6_follow_67 : decode cX6_follow 67 = .ok (.iadd, 1) := by decide +kernel
theorem dX6_follow_68 : decode cX6_follow 68 = .ok (.iaload, 1) := by decide +kernel
theorem dX6_follow_69 : decode cX6_follow 69 = .ok (.isub, 1) := by decide +kernel
theorem dX6_follow_70 : decode cX6_follow 70 = .ok (.iastore, 1) := by decide +kernel
theorem dX6_follow_71 : decode cX6_follow 71 = .ok (.return_, 1) := by decide +kernel
theorem dX6_listen_0 : decode cX6_listen 0 = .ok (.aload_n 0, 1) := by decide +kernel
theorem dX6_listen_1 : decode cX6_listen 1 = .ok (.getfield 7, 3) := by decide +kernel
theorem dX6_listen_4 : decode cX6_listen 4 = .ok (.bipush 42, 2) := by decide +kernel
theorem dX6_listen_6 : decode cX6_listen 6 = .ok (.iload_n 1, 1) := by decide +kernel
theorem dX6_listen_7 : decode cX6_listen 7 = .ok (.iadd, 1) := by decide +kernel
theorem dX6_listen_8 : decode cX6_listen 8 = .ok (.aload_n 0, 1) := by decide +kernel
theorem dX6_listen_9 : decode cX6_listen 9 = .ok (.getfield 35, 3) := by decide +kernel
theorem dX6_listen_12 : decode cX6_listen 12 = .ok (.iload_n 1, 1) := by decide +kernel
theorem dX6_listen_13 : decode cX6_listen 13 = .ok (.iaload, 1) := by decide +kernel
theorem dX6_listen_14 : decode cX6_listen 14 = .ok (.ifCond .ne 25, 3) := by decide +kernel
theorem dX6_listen_17 : decode cX6_listen 17 = .ok (.aload_n 0, 1) := by decide +kernel
theorem dX6_listen_18 : decode cX6_listen 18 = .ok (.iload_n 1, 1) := by decide +kernel
theorem dX6_listen_19 : decode cX6_listen 19 = .ok (.invokevirtual 89, 3) := by decide +kernel
theorem dX6_listen_22 : decode cX6_listen 22 = .ok (.ifCond .ne 17, 3) := by decide +kernel
theorem dX6_listen_25 : decode cX6_listen 25 = .ok (.aload_n 0, 1) := by decide +kernel
theorem dX6_listen_26 : decode cX6_listen 26 = .ok (.getfield 7, 3) := by decide +kernel
theorem dX6_listen_29 : decode cX6_listen 29 = .ok (.bipush 42, 2) := by decide +kernel
theorem dX6_listen_31 : decode cX6_listen 31 = .ok (.iload_n 1, 1) := by decide +kernel
theorem dX6_listen_32 : decode cX6_listen 32 = .ok (.iadd, 1) := by decide +kernel
theorem dX6_listen_33 : decode cX6_listen 33 = .ok (.iaload, 1) := by decide +kernel
theorem dX6_listen_34 : decode cX6_listen 34 = .ok (.iconst 1, 1) := by decide +kernel
theorem dX6_listen_35 : decode cX6_listen 35 = .ok (.iadd, 1) := by decide +kernel
theorem dX6_listen_36 : decode cX6_listen 36 = .ok (.goto 4, 3) := by decide +kernel
theorem dX6_listen_39 : decode cX6_listen 39 = .ok (.iconst 0, 1) := by decide +kernel
theorem dX6_listen_40 : decode cX6_listen 40 = .ok (.iastore, 1) := by decide +kernel
theorem dX6_listen_41 : decode cX6_listen 41 = .ok (.aload_n 0, 1) := by decide +kernel
theorem dX6_listen_42 : decode cX6_listen 42 = .ok (.getfield 7, 3) := by decide +kernel
theorem dX6_listen_45 : decode cX6_listen 45 = .ok (.iconst 0, 1) := by decide +kernel
theorem dX6_listen_46 : decode cX6_listen 46 = .ok (.iload_n 1, 1) := by decide +kernel
theorem dX6_listen_47 : decode cX6_listen 47 = .ok (.iadd, 1) := by decide +kernel
theorem dX6_listen_48 : decode cX6_listen 48 = .ok (.iaload, 1) := by decide +kernel
theorem dX6_listen_49 : decode cX6_listen 49 = .ok (.iconst 1, 1) := by decide +kernel
theorem dX6_listen_50 : decode cX6_listen 50 = .ok (.if_icmp .ne 7, 3) := by decide +kernel
theorem dX6_listen_53 : decode cX6_listen 53 = .ok (.iconst 1, 1) := by decide +kernel
theorem dX6_listen_54 : decode cX6_listen 54 = .ok (.goto 4, 3) := by decide +kernel
theorem dX6_listen_57 : decode cX6_listen 57 = .ok (.iconst 0, 1) := by decide +kernel
theorem dX6_listen_58 : decode cX6_listen 58 = .ok (.istore_n 2, 1) := by decide +kernel
theorem dX6_listen_59 : decode cX6_listen 59 = .ok (.iload_n 2, 1) := by decide +kernel
theorem dX6_listen_60 : decode cX6_listen 60 = .ok (.ifCond .eq 39, 3) := by decide +kernel
theorem dX6_listen_63 : decode cX6_listen 63 = .ok (.aload_n 0, 1) := by decide +kernel
theorem dX6_listen_64 : decode cX6_listen 64 = .ok (.getfield 41, 3) := by decide +kernel
theorem dX6_listen_67 : decode cX6_listen 67 = .ok (.iload_n 1, 1) := by decide +kernel
theorem dX6_listen_68 : decode cX6_listen 68 = .ok (.iaload, 1) := by decide +kernel
theorem dX6_listen_69 : decode cX6_listen 69 = .ok (.ifCond .lt 30, 3) := by decide +kernel
theorem dX6_listen_72 : decode cX6_listen 72 = .ok (.aload_n 0, 1) := by decide +kernel
theorem dX6_listen_73 : decode cX6_listen 73 = .ok (.getfield 41, 3) := by decide +kernel
theorem dX6_listen_76 : decode cX6_listen 76 = .ok (.iload_n 1, 1) := by decide +kernel
theorem dX6_listen_77 : decode cX6_listen 77 = .ok (.iaload, 1) := by decide +kernel
theorem dX6_listen_78 : decode cX6_listen 78 = .ok (.aload_n 0, 1) := by decide +kernel
theorem dX6_listen_79 : decode cX6_listen 79 = .ok (.getfield 7, 3) := by decide +kernel
theorem dX6_listen_82 : decode cX6_listen 82 = .ok (.bipush 78, 2) := by decide +kernel
theorem dX6_listen_84 : decode cX6_listen 84 = .ok (.iload_n 1, 1) := by decide +kernel
theorem dX6_listen_85 : decode cX6_listen 85 = .ok (.iadd, 1) := by decide +kernel
theorem dX6_listen_86 : decode cX6_listen 86 = .ok (.iaload, 1) := by decide +kernel
theorem dX6_listen_87 : decode cX6_listen 87 = .ok (.if_icmp .ne 12, 3) := by decide +kernel
theorem dX6_listen_90 : decode cX6_listen 90 = .ok (.aload_n 0, 1) := by decide +kernel
theorem dX6_listen_91 : decode cX6_listen 91 = .ok (.iload_n 1, 1) := by decide +kernel
theorem dX6_listen_92 : decode cX6_listen 92 = .ok (.iconst 3, 1) := by decide +kernel
theorem dX6_listen_93 : decode cX6_listen 93 = .ok (.invokevirtual 92, 3) := by decide +kernel
theorem dX6_listen_96 : decode cX6_listen 96 = .ok (.goto 70, 3) := by decide +kernel
theorem dX6_listen_99 : decode cX6_listen 99 = .ok (.iload_n 2, 1) := by decide +kernel
theorem dX6_listen_100 : decode cX6_listen 100 = .ok (.ifCond .ne 35, 3) := by decide +kernel
theorem dX6_listen_103 : decode cX6_listen 103 = .ok (.aload_n 0, 1) := by decide +kernel
theorem dX6_listen_104 : decode cX6_listen 104 = .ok (.getfield 38, 3) := by decide +kernel
theorem dX6_listen_107 : decode cX6_listen 107 = .ok (.iload_n 1, 1) := by decide +kernel
theorem dX6_listen_108 : decode cX6_listen 108 = .ok (.iaload, 1) := by decide +kernel
theorem dX6_listen_109 : decode cX6_listen 109 = .ok (.iconst 2, 1) := by decide +kernel
theorem dX6_listen_110 : decode cX6_listen 110 = .ok (.if_icmp .lt 25, 3) := by decide +kernel
theorem dX6_listen_113 : decode cX6_listen 113 = .ok (.aload_n 0, 1) := by decide +kernel
theorem dX6_listen_114 : decode cX6_listen 114 = .ok (.getfield 7, 3) := by decide +kernel
theorem dX6_listen_117 : decode cX6_listen 117 = .ok (.bipush 90, 2) := by decide +kernel
theorem dX6_listen_119 : decode cX6_listen 119 = .ok (.iload_n 1, 1) := by decide +kernel
theorem dX6_listen_120 : decode cX6_listen 120 = .ok (.iadd, 1) := by decide +kernel
theorem dX6_listen_121 : decode cX6_listen 121 = .ok (.iaload, 1) := by decide +kernel
theorem dX6_listen_122 : decode cX6_listen 122 = .ok (.iconst 2, 1) := by decide +kernel
theorem dX6_listen_123 : decode cX6_listen 123 = .ok (.if_icmp .lt 12, 3) := by decide +kernel
theorem dX6_listen_126 : decode cX6_listen 126 = .ok (.aload_n 0, 1) := by decide +kernel
theorem dX6_listen_127 : decode cX6_listen 127 = .ok (.iload_n 1, 1) := by decide +kernel
theorem dX6_listen_128 : decode cX6_listen 128 = .ok (.iconst 4, 1) := by decide +kernel
theorem dX6_listen_129 : decode cX6_listen 129 = .ok (.invokevirtual 92, 3) := by decide +kernel
theorem dX6_listen_132 : decode cX6_listen 132 = .ok (.goto 34, 3) := by decide +kernel
theorem dX6_listen_135 : decode cX6_listen 135 = .ok (.iload_n 2, 1) := by decide +kernel
theorem dX6_listen_136 : decode cX6_listen 136 = .ok (.ifCond .eq 30, 3) := by decide +kernel
theorem dX6_listen_139 : decode cX6_listen 139 = .ok (.aload_n 0, 1) := by decide +kernel
theorem dX6_listen_140 : decode cX6_listen 140 = .ok (.getfield 7, 3) := by decide +kernel
theorem dX6_listen_143 : decode cX6_listen 143 = .ok (.bipush 42, 2) := by decide +kernel
theorem dX6_listen_145 : decode cX6_listen 145 = .ok (.iload_n 1, 1) := by decide +kernel
theorem dX6_listen_146 : decode cX6_listen 146 = .ok (.iadd, 1) := by decide +kernel
theorem dX6_listen_147 : decode cX6_listen 147 = .ok (.iaload, 1) := by decide +kernel
theorem dX6_listen_148 : decode cX6_listen 148 = .ok (.aload_n 0, 1) := by decide +kernel
theorem dX6_listen_149 : decode cX6_listen 149 = .ok (.getfield 7, 3) := by decide +kernel
theorem dX6_listen_152 : decode cX6_listen 152 = .ok (.bipush 12, 2) := by decide +kernel
theorem dX6_listen_154 : decode cX6_listen 154 = .ok (.iload_n 1, 1) := by decide +kernel
theorem dX6_listen_155 : decode cX6_listen 155 = .ok (.iadd, 1) := by decide +kernel
theorem dX6_listen_156 : decode cX6_listen 156 = .ok (.iaload, 1) := by decide +kernel
theorem dX6_listen_157 : decode cX6_listen 157 = .ok (.if_icmp .lt 9, 3) := by decide +kernel
theorem dX6_listen_160 : decode cX6_listen 160 = .ok (.aload_n 0, 1) := by decide +kernel
theorem dX6_listen_161 : decode cX6_listen 161 = .ok (.iload_n 1, 1) := by decide +kernel
theorem dX6_listen_162 : decode cX6_listen 162 = .ok (.iconst 2, 1) := by decide +kernel
theorem dX6_listen_163 : decode cX6_listen 163 = .ok (.invokevirtual 86, 3) := by decide +kernel
theorem dX6_listen_166 : decode cX6_listen 166 = .ok (.return_, 1) := by decide +kernel
theorem dX6_lead_0 : decode cX6_lead 0 = .ok (.aload_n 0, 1) := by decide +kernel
theorem dX6_lead_1 : decode cX6_lead 1 = .ok (.getfield 7, 3) := by decide +kernel
theorem dX6_lead_4 : decode cX6_lead 4 = .ok (.bipush 36, 2) := by decide +kernel
theorem dX6_lead_6 : decode cX6_lead 6 = .ok (.iload_n 1, 1) := by decide +kernel
theorem dX6_lead_7 : decode cX6_lead 7 = .ok (.iadd, 1) := by decide +kernel
theorem dX6_lead_8 : decode cX6_lead 8 = .ok (.iaload, 1) := by decide +kernel
theorem dX6_lead_9 : decode cX6_lead 9 = .ok (.iconst 3, 1) := by decide +kernel
theorem dX6_lead_10 : decode cX6_lead 10 = .ok (.if_icmp .lt 21, 3) := by decide +kernel
theorem dX6_lead_13 : decode cX6_lead 13 = .ok (.aload_n 0, 1) := by decide +kernel
theorem dX6_lead_14 : decode cX6_lead 14 = .ok (.getfield 38, 3) := by decide +kernel
theorem dX6_lead_17 : decode cX6_lead 17 = .ok (.iload_n 1, 1) := by decide +kernel
theorem dX6_lead_18 : decode cX6_lead 18 = .ok (.iaload, 1) := by decide +kernel
theorem dX6_lead_19 : decode cX6_lead 19 = .ok (.ifCond .le 12, 3) := by decide +kernel
theorem dX6_lead_22 : decode cX6_lead 22 = .ok (.aload_n 0, 1) := by decide +kernel
theorem dX6_lead_23 : decode cX6_lead 23 = .ok (.iload_n 1, 1) := by decide +kernel
theorem dX6_lead_24 : decode cX6_lead 24 = .ok (.iconst 4, 1) := by decide +kernel
theorem dX6_lead_25 : decode cX6_lead 25 = .ok (.invokevirtual 86, 3) := by decide +kernel
theorem dX6_lead_28 : decode cX6_lead 28 = .ok (.goto 23, 3) := by decide +kernel
theorem dX6_lead_31 : decode cX6_lead 31 = .ok (.aload_n 0, 1) := by decide +kernel
theorem dX6_lead_32 : decode cX6_lead 32 = .ok (.getfield 7, 3) := by decide +kernel
theorem dX6_lead_35 : decode cX6_lead 35 = .ok (.bipush 36, 2) := by decide +kernel
theorem dX6_lead_37 : decode cX6_lead 37 = .ok (.iload_n 1, 1) := by decide +kernel
theorem dX6_lead_38 : decode cX6_lead 38 = .ok (.iadd, 1) := by decide +kernel
theorem dX6_lead_39 : decode cX6_lead 39 = .ok (.iaload, 1) := by decide +kernel
theorem dX6_lead_40 : decode cX6_lead 40 = .ok (.bipush 7, 2) := by decide +kernel
theorem dX6_lead_42 : decode cX6_lead 42 = .ok (.if_icmp .lt 9, 3) := by decide +kernel
theorem dX6_lead_45 : decode cX6_lead 45 = .ok (.aload_n 0, 1) := by decide +kernel
theorem dX6_lead_46 : decode cX6_lead 46 = .ok (.iload_n 1, 1) := by decide +kernel
theorem dX6_lead_47 : decode cX6_lead 47 = .ok (.iconst 1, 1) := by decide +kernel
theorem dX6_lead_48 : decode cX6_lead 48 = .ok (.invokevirtual 86, 3) := by decide +kernel
theorem dX6_lead_51 : decode cX6_lead 51 = .ok (.return_, 1) := by decide +kernel
theorem dX6_join_0 : decode cX6_join 0 = .ok (.aload_n 0, 1) := by decide +kernel
theorem dX6_join_1 : decode cX6_join 1 = .ok (.getfield 38, 3) := by decide +kernel
end
section
theorem dX6_join_4 : decode cX6_join 4 = .ok (.iload_n 1, 1) := by decide +kernel
theorem dX6_join_5 : decode cX6_join 5 = .ok (.iaload, 1) := by decide +kernel
theorem dX6_join_6 : decode cX6_join 6 = .ok (.ifCond .ne 12, 3) := by decide +kernel
theorem dX6_join_9 : decode cX6_join 9 = .ok (.aload_n 0, 1) := by decide +kernel
theorem dX6_join_10 : decode cX6_join 10 = .ok (.iload_n 1, 1) := by decide +kernel
theorem dX6_join_11 : decode cX6_join 11 = .ok (.iconst 1, 1) := by decide +kernel
theorem dX6_join_12 : decode cX6_join 12 = .ok (.invokevirtual 86, 3) := by decide +kernel
theorem dX6_join_15 : decode cX6_join 15 = .ok (.goto 22, 3) := by decide +kernel
theorem dX6_join_18 : decode cX6_join 18 = .ok (.aload_n 0, 1) := by decide +kernel
theorem dX6_join_19 : decode cX6_join 19 = .ok (.getfield 7, 3) := by decide +kernel
theorem dX6_join_22 : decode cX6_join 22 = .ok (.bipush 36, 2) := by decide +kernel
theorem dX6_join_24 : decode cX6_join 24 = .ok (.iload_n 1, 1) := by decide +kernel
theorem dX6_join_25 : decode cX6_join 25 = .ok (.iadd, 1) := by decide +kernel
theorem dX6_join_26 : decode cX6_join 26 = .ok (.iaload, 1) := by decide +kernel
theorem dX6_join_27 : decode cX6_join 27 = .ok (.iconst 2, 1) := by decide +kernel
theorem dX6_join_28 : decode cX6_join 28 = .ok (.if_icmp .lt 9, 3) := by decide +kernel
theorem dX6_join_31 : decode cX6_join 31 = .ok (.aload_n 0, 1) := by decide +kernel
theorem dX6_join_32 : decode cX6_join 32 = .ok (.iload_n 1, 1) := by decide +kernel
theorem dX6_join_33 : decode cX6_join 33 = .ok (.iconst 4, 1) := by decide +kernel
theorem dX6_join_34 : decode cX6_join 34 = .ok (.invokevirtual 86, 3) := by decide +kernel
theorem dX6_join_37 : decode cX6_join 37 = .ok (.return_, 1) := by decide +kernel
theorem dX6_trimSeen_0 : decode cX6_trimSeen 0 = .ok (.aload_n 0, 1) := by decide +kernel
theorem dX6_trimSeen_1 : decode cX6_trimSeen 1 = .ok (.iconst 0, 1) := by decide +kernel
theorem dX6_trimSeen_2 : decode cX6_trimSeen 2 = .ok (.putfield 72, 3) := by decide +kernel
theorem dX6_trimSeen_5 : decode cX6_trimSeen 5 = .ok (.aload_n 0, 1) := by decide +kernel
theorem dX6_trimSeen_6 : decode cX6_trimSeen 6 = .ok (.iconst 0, 1) := by decide +kernel
theorem dX6_trimSeen_7 : decode cX6_trimSeen 7 = .ok (.invokevirtual 95, 3) := by decide +kernel
theorem dX6_trimSeen_10 : decode cX6_trimSeen 10 = .ok (.iconst 0, 1) := by decide +kernel
theorem dX6_trimSeen_11 : decode cX6_trimSeen 11 = .ok (.istore_n 2, 1) := by decide +kernel
theorem dX6_trimSeen_12 : decode cX6_trimSeen 12 = .ok (.iload_n 2, 1) := by decide +kernel
theorem dX6_trimSeen_13 : decode cX6_trimSeen 13 = .ok (.bipush 6, 2) := by decide +kernel
theorem dX6_trimSeen_15 : decode cX6_trimSeen 15 = .ok (.if_icmp .ge 38, 3) := by decide +kernel
theorem dX6_trimSeen_18 : decode cX6_trimSeen 18 = .ok (.aload_n 0, 1) := by decide +kernel
theorem dX6_trimSeen_19 : decode cX6_trimSeen 19 = .ok (.getfield 35, 3) := by decide +kernel
theorem dX6_trimSeen_22 : decode cX6_trimSeen 22 = .ok (.iload_n 1, 1) := by decide +kernel
theorem dX6_trimSeen_23 : decode cX6_trimSeen 23 = .ok (.iaload, 1) := by decide +kernel
theorem dX6_trimSeen_24 : decode cX6_trimSeen 24 = .ok (.iload_n 2, 1) := by decide +kernel
theorem dX6_trimSeen_25 : decode cX6_trimSeen 25 = .ok (.ishr, 1) := by decide +kernel
theorem dX6_trimSeen_26 : decode cX6_trimSeen 26 = .ok (.iconst 1, 1) := by decide +kernel
theorem dX6_trimSeen_27 : decode cX6_trimSeen 27 = .ok (.iand, 1) := by decide +kernel
theorem dX6_trimSeen_28 : decode cX6_trimSeen 28 = .ok (.iconst 1, 1) := by decide +kernel
theorem dX6_trimSeen_29 : decode cX6_trimSeen 29 = .ok (.if_icmp .ne 18, 3) := by decide +kernel
theorem dX6_trimSeen_32 : decode cX6_trimSeen 32 = .ok (.aload_n 0, 1) := by decide +kernel
theorem dX6_trimSeen_33 : decode cX6_trimSeen 33 = .ok (.aload_n 0, 1) := by decide +kernel
theorem dX6_trimSeen_34 : decode cX6_trimSeen 34 = .ok (.getfield 44, 3) := by decide +kernel
theorem dX6_trimSeen_37 : decode cX6_trimSeen 37 = .ok (.bipush 6, 2) := by decide +kernel
theorem dX6_trimSeen_39 : decode cX6_trimSeen 39 = .ok (.iload_n 1, 1) := by decide +kernel
theorem dX6_trimSeen_40 : decode cX6_trimSeen 40 = .ok (.imul, 1) := by decide +kernel
theorem dX6_trimSeen_41 : decode cX6_trimSeen 41 = .ok (.iload_n 2, 1) := by decide +kernel
theorem dX6_trimSeen_42 : decode cX6_trimSeen 42 = .ok (.iadd, 1) := by decide +kernel
theorem dX6_trimSeen_43 : decode cX6_trimSeen 43 = .ok (.iaload, 1) := by decide +kernel
theorem dX6_trimSeen_44 : decode cX6_trimSeen 44 = .ok (.invokevirtual 95, 3) := by decide +kernel
theorem dX6_trimSeen_47 : decode cX6_trimSeen 47 = .ok (.iinc 2 1, 3) := by decide +kernel
theorem dX6_trimSeen_50 : decode cX6_trimSeen 50 = .ok (.goto (-38), 3) := by decide +kernel
theorem dX6_trimSeen_53 : decode cX6_trimSeen 53 = .ok (.aload_n 0, 1) := by decide +kernel
theorem dX6_trimSeen_54 : decode cX6_trimSeen 54 = .ok (.invokevirtual 98, 3) := by decide +kernel
theorem dX6_trimSeen_57 : decode cX6_trimSeen 57 = .ok (.ireturn, 1) := by decide +kernel
theorem dX6_trimChanged_0 : decode cX6_trimChanged 0 = .ok (.aload_n 0, 1) := by decide +kernel
theorem dX6_trimChanged_1 : decode cX6_trimChanged 1 = .ok (.iconst 0, 1) := by decide +kernel
theorem dX6_trimChanged_2 : decode cX6_trimChanged 2 = .ok (.putfield 72, 3) := by decide +kernel
theorem dX6_trimChanged_5 : decode cX6_trimChanged 5 = .ok (.aload_n 0, 1) := by decide +kernel
theorem dX6_trimChanged_6 : decode cX6_trimChanged 6 = .ok (.iconst 0, 1) := by decide +kernel
theorem dX6_trimChanged_7 : decode cX6_trimChanged 7 = .ok (.invokevirtual 95, 3) := by decide +kernel
theorem dX6_trimChanged_10 : decode cX6_trimChanged 10 = .ok (.iconst 0, 1) := by decide +kernel
theorem dX6_trimChanged_11 : decode cX6_trimChanged 11 = .ok (.istore_n 2, 1) := by decide +kernel
theorem dX6_trimChanged_12 : decode cX6_trimChanged 12 = .ok (.iload_n 2, 1) := by decide +kernel
theorem dX6_trimChanged_13 : decode cX6_trimChanged 13 = .ok (.bipush 6, 2) := by decide +kernel
theorem dX6_trimChanged_15 : decode cX6_trimChanged 15 = .ok (.if_icmp .ge 62, 3) := by decide +kernel
theorem dX6_trimChanged_18 : decode cX6_trimChanged 18 = .ok (.aload_n 0, 1) := by decide +kernel
theorem dX6_trimChanged_19 : decode cX6_trimChanged 19 = .ok (.getfield 35, 3) := by decide +kernel
theorem dX6_trimChanged_22 : decode cX6_trimChanged 22 = .ok (.iload_n 1, 1) := by decide +kernel
theorem dX6_trimChanged_23 : decode cX6_trimChanged 23 = .ok (.iaload, 1) := by decide +kernel
theorem dX6_trimChanged_24 : decode cX6_trimChanged 24 = .ok (.aload_n 0, 1) := by decide +kernel
theorem dX6_trimChanged_25 : decode cX6_trimChanged 25 = .ok (.getfield 7, 3) := by decide +kernel
theorem dX6_trimChanged_28 : decode cX6_trimChanged 28 = .ok (.bipush 84, 2) := by decide +kernel
theorem dX6_trimChanged_30 : decode cX6_trimChanged 30 = .ok (.iload_n 1, 1) := by decide +kernel
theorem dX6_trimChanged_31 : decode cX6_trimChanged 31 = .ok (.iadd, 1) := by decide +kernel
theorem dX6_trimChanged_32 : decode cX6_trimChanged 32 = .ok (.iaload, 1) := by decide +kernel
theorem dX6_trimChanged_33 : decode cX6_trimChanged 33 = .ok (.iand, 1) := by decide +kernel
theorem dX6_trimChanged_34 : decode cX6_trimChanged 34 = .ok (.iconst 1, 1) := by decide +kernel
theorem dX6_trimChanged_35 : decode cX6_trimChanged 35 = .ok (.iload_n 2, 1) := by decide +kernel
theorem dX6_trimChanged_36 : decode cX6_trimChanged 36 = .ok (.ishl, 1) := by decide +kernel
theorem dX6_trimChanged_37 : decode cX6_trimChanged 37 = .ok (.iand, 1) := by decide +kernel
theorem dX6_trimChanged_38 : decode cX6_trimChanged 38 = .ok (.ifCond .eq 33, 3) := by decide +kernel
theorem dX6_trimChanged_41 : decode cX6_trimChanged 41 = .ok (.aload_n 0, 1) := by decide +kernel
theorem dX6_trimChanged_42 : decode cX6_trimChanged 42 = .ok (.aload_n 0, 1) := by decide +kernel
theorem dX6_trimChanged_43 : decode cX6_trimChanged 43 = .ok (.getfield 44, 3) := by decide +kernel
theorem dX6_trimChanged_46 : decode cX6_trimChanged 46 = .ok (.bipush 6, 2) := by decide +kernel
theorem dX6_trimChanged_48 : decode cX6_trimChanged 48 = .ok (.iload_n 1, 1) := by decide +kernel
theorem dX6_trimChanged_49 : decode cX6_trimChanged 49 = .ok (.imul, 1) := by decide +kernel
theorem dX6_trimChanged_50 : decode cX6_trimChanged 50 = .ok (.iload_n 2, 1) := by decide +kernel
theorem dX6_trimChanged_51 : decode cX6_trimChanged 51 = .ok (.iadd, 1) := by decide +kernel
theorem dX6_trimChanged_52 : decode cX6_trimChanged 52 = .ok (.iaload, 1) := by decide +kernel
theorem dX6_trimChanged_53 : decode cX6_trimChanged 53 = .ok (.aload_n 0, 1) := by decide +kernel
theorem dX6_trimChanged_54 : decode cX6_trimChanged 54 = .ok (.getfield 7, 3) := by decide +kernel
theorem dX6_trimChanged_57 : decode cX6_trimChanged 57 = .ok (.bipush 96, 2) := by decide +kernel
theorem dX6_trimChanged_59 : decode cX6_trimChanged 59 = .ok (.bipush 6, 2) := by decide +kernel
theorem dX6_trimChanged_61 : decode cX6_trimChanged 61 = .ok (.iload_n 1, 1) := by decide +kernel
theorem dX6_trimChanged_62 : decode cX6_trimChanged 62 = .ok (.imul, 1) := by decide +kernel
theorem dX6_trimChanged_63 : decode cX6_trimChanged 63 = .ok (.iadd, 1) := by decide +kernel
theorem dX6_trimChanged_64 : decode cX6_trimChanged 64 = .ok (.iload_n 2, 1) := by decide +kernel
theorem dX6_trimChanged_65 : decode cX6_trimChanged 65 = .ok (.iadd, 1) := by decide +kernel
theorem dX6_trimChanged_66 : decode cX6_trimChanged 66 = .ok (.iaload, 1) := by decide +kernel
theorem dX6_trimChanged_67 : decode cX6_trimChanged 67 = .ok (.isub, 1) := by decide +kernel
theorem dX6_trimChanged_68 : decode cX6_trimChanged 68 = .ok (.invokevirtual 95, 3) := by decide +kernel
theorem dX6_trimChanged_71 : decode cX6_trimChanged 71 = .ok (.iinc 2 1, 3) := by decide +kernel
theorem dX6_trimChanged_74 : decode cX6_trimChanged 74 = .ok (.goto (-62), 3) := by decide +kernel
theorem dX6_trimChanged_77 : decode cX6_trimChanged 77 = .ok (.aload_n 0, 1) := by decide +kernel
theorem dX6_trimChanged_78 : decode cX6_trimChanged 78 = .ok (.invokevirtual 98, 3) := by decide +kernel
theorem dX6_trimChanged_81 : decode cX6_trimChanged 81 = .ok (.ireturn, 1) := by decide +kernel
theorem dX6_correct_0 : decode cX6_correct 0 = .ok (.aload_n 0, 1) := by decide +kernel
theorem dX6_correct_1 : decode cX6_correct 1 = .ok (.iload_n 1, 1) := by decide +kernel
theorem dX6_correct_2 : decode cX6_correct 2 = .ok (.invokevirtual 102, 3) := by decide +kernel
theorem dX6_correct_5 : decode cX6_correct 5 = .ok (.istore_n 2, 1) := by decide +kernel
theorem dX6_correct_6 : decode cX6_correct 6 = .ok (.aload_n 0, 1) := by decide +kernel
theorem dX6_correct_7 : decode cX6_correct 7 = .ok (.getfield 35, 3) := by decide +kernel
theorem dX6_correct_10 : decode cX6_correct 10 = .ok (.iload_n 1, 1) := by decide +kernel
theorem dX6_correct_11 : decode cX6_correct 11 = .ok (.iaload, 1) := by decide +kernel
theorem dX6_correct_12 : decode cX6_correct 12 = .ok (.ifCond .eq 18, 3) := by decide +kernel
theorem dX6_correct_15 : decode cX6_correct 15 = .ok (.iload_n 2, 1) := by decide +kernel
theorem dX6_correct_16 : decode cX6_correct 16 = .ok (.invokestatic 106, 3) := by decide +kernel
theorem dX6_correct_19 : decode cX6_correct 19 = .ok (.aload_n 0, 1) := by decide +kernel
theorem dX6_correct_20 : decode cX6_correct 20 = .ok (.getfield 7, 3) := by decide +kernel
theorem dX6_correct_23 : decode cX6_correct 23 = .ok (.sipush 132, 3) := by decide +kernel
theorem dX6_correct_26 : decode cX6_correct 26 = .ok (.iaload, 1) := by decide +kernel
theorem dX6_correct_27 : decode cX6_correct 27 = .ok (.if_icmp .le 27, 3) := by decide +kernel
theorem dX6_correct_30 : decode cX6_correct 30 = .ok (.aload_n 0, 1) := by decide +kernel
theorem dX6_correct_31 : decode cX6_correct 31 = .ok (.getfield 7, 3) := by decide +kernel
theorem dX6_correct_34 : decode cX6_correct 34 = .ok (.bipush 54, 2) := by decide +kernel
theorem dX6_correct_36 : decode cX6_correct 36 = .ok (.iload_n 1, 1) := by decide +kernel
theorem dX6_correct_37 : decode cX6_correct 37 = .ok (.iadd, 1) := by decide +kernel
theorem dX6_correct_38 : decode cX6_correct 38 = .ok (.dup2, 1) := by decide +kernel
theorem dX6_correct_39 : decode cX6_correct 39 = .ok (.iaload, 1) := by decide +kernel
theorem dX6_correct_40 : decode cX6_correct 40 = .ok (.iconst 1, 1) := by decide +kernel
theorem dX6_correct_41 : decode cX6_correct 41 = .ok (.iadd, 1) := by decide +kernel
theorem dX6_correct_42 : decode cX6_correct 42 = .ok (.iastore, 1) := by decide +kernel
theorem dX6_correct_43 : decode cX6_correct 43 = .ok (.aload_n 0, 1) := by decide +kernel
theorem dX6_correct_44 : decode cX6_correct 44 = .ok (.getfield 7, 3) := by decide +kernel
theorem dX6_correct_47 : decode cX6_correct 47 = .ok (.bipush 48, 2) := by decide +kernel
theorem dX6_correct_49 : decode cX6_correct 49 = .ok (.iload_n 1, 1) := by decide +kernel
theorem dX6_correct_50 : decode cX6_correct 50 = .ok (.iadd, 1) := by decide +kernel
theorem dX6_correct_51 : decode cX6_correct 51 = .ok (.iconst 0, 1) := by decide +kernel
theorem dX6_correct_52 : decode cX6_correct 52 = .ok (.iastore, 1) := by decide +kernel
theorem dX6_correct_53 : decode cX6_correct 53 = .ok (.return_, 1) := by decide +kernel
theorem dX6_correct_54 : decode cX6_correct 54 = .ok (.aload_n 0, 1) := by decide +kernel
theorem dX6_correct_55 : decode cX6_correct 55 = .ok (.getfield 7, 3) := by decide +kernel
theorem dX6_correct_58 : decode cX6_correct 58 = .ok (.bipush 48, 2) := by decide +kernel
theorem dX6_correct_60 : decode cX6_correct 60 = .ok (.iload_n 1, 1) := by decide +kernel
theorem dX6_correct_61 : decode cX6_correct 61 = .ok (.iadd, 1) := by decide +kernel
theorem dX6_correct_62 : decode cX6_correct 62 = .ok (.dup2, 1) := by decide +kernel
theorem dX6_correct_63 : decode cX6_correct 63 = .ok (.iaload, 1) := by decide +kernel
theorem dX6_correct_64 : decode cX6_correct 64 = .ok (.iconst 1, 1) := by decide +kernel
theorem dX6_correct_65 : decode cX6_correct 65 = .ok (.iadd, 1) := by decide +kernel
theorem dX6_correct_66 : decode cX6_correct 66 = .ok (.iastore, 1) := by decide +kernel
theorem dX6_correct_67 : decode cX6_correct 67 = .ok (.aload_n 0, 1) := by decide +kernel
theorem dX6_correct_68 : decode cX6_correct 68 = .ok (.getfield 7, 3) := by decide +kernel
theorem dX6_correct_71 : decode cX6_correct 71 = .ok (.bipush 54, 2) := by decide +kernel
theorem dX6_correct_73 : decode cX6_correct 73 = .ok (.iload_n 1, 1) := by decide +kernel
theorem dX6_correct_74 : decode cX6_correct 74 = .ok (.iadd, 1) := by decide +kernel
theorem dX6_correct_75 : decode cX6_correct 75 = .ok (.iconst 0, 1) := by decide +kernel
theorem dX6_correct_76 : decode cX6_correct 76 = .ok (.iastore, 1) := by decide +kernel
theorem dX6_correct_77 : decode cX6_correct 77 = .ok (.aload_n 0, 1) := by decide +kernel
theorem dX6_correct_78 : decode cX6_correct 78 = .ok (.getfield 7, 3) := by decide +kernel
theorem dX6_correct_81 : decode cX6_correct 81 = .ok (.bipush 60, 2) := by decide +kernel
theorem dX6_correct_83 : decode cX6_correct 83 = .ok (.iload_n 1, 1) := by decide +kernel
theorem dX6_correct_84 : decode cX6_correct 84 = .ok (.iadd, 1) := by decide +kernel
theorem dX6_correct_85 : decode cX6_correct 85 = .ok (.dup2, 1) := by decide +kernel
theorem dX6_correct_86 : decode cX6_correct 86 = .ok (.iaload, 1) := by decide +kernel
theorem dX6_correct_87 : decode cX6_correct 87 = .ok (.iload_n 2, 1) := by decide +kernel
theorem dX6_correct_88 : decode cX6_correct 88 = .ok (.iadd, 1) := by decide +kernel
theorem dX6_correct_89 : decode cX6_correct 89 = .ok (.iastore, 1) := by decide +kernel
theorem dX6_correct_90 : decode cX6_correct 90 = .ok (.aload_n 0, 1) := by decide +kernel
theorem dX6_correct_91 : decode cX6_correct 91 = .ok (.getfield 7, 3) := by decide +kernel
theorem dX6_correct_94 : decode cX6_correct 94 = .ok (.bipush 66, 2) := by decide +kernel
theorem dX6_correct_96 : decode cX6_correct 96 = .ok (.iload_n 1, 1) := by decide +kernel
theorem dX6_correct_97 : decode cX6_correct 97 = .ok (.iadd, 1) := by decide +kernel
theorem dX6_correct_98 : decode cX6_correct 98 = .ok (.iaload, 1) := by decide +kernel
theorem dX6_correct_99 : decode cX6_correct 99 = .ok (.aload_n 0, 1) := by decide +kernel
theorem dX6_correct_100 : decode cX6_correct 100 = .ok (.iload_n 1, 1) := by decide +kernel
theorem dX6_correct_101 : decode cX6_correct 101 = .ok (.invokevirtual 109, 3) := by decide +kernel
theorem dX6_correct_104 : decode cX6_correct 104 = .ok (.iadd, 1) := by decide +kernel
theorem dX6_correct_105 : decode cX6_correct 105 = .ok (.istore_n 3, 1) := by decide +kernel
theorem dX6_correct_106 : decode cX6_correct 106 = .ok (.aload_n 0, 1) := by decide +kernel
theorem dX6_correct_107 : decode cX6_correct 107 = .ok (.getfield 7, 3) := by decide +kernel
theorem dX6_correct_110 : decode cX6_correct 110 = .ok (.bipush 66, 2) := by decide +kernel
theorem dX6_correct_112 : decode cX6_correct 112 = .ok (.iload_n 1, 1) := by decide +kernel
theorem dX6_correct_113 : decode cX6_correct 113 = .ok (.iadd, 1) := by decide +kernel
theorem dX6_correct_114 : decode cX6_correct 114 = .ok (.iload_n 3, 1) := by decide +kernel
theorem dX6_correct_115 : decode cX6_correct 115 = .ok (.bipush (-100), 2) := by decide +kernel
theorem dX6_correct_117 : decode cX6_correct 117 = .ok (.if_icmp .ge 8, 3) := by decide +kernel
theorem dX6_correct_120 : decode cX6_correct 120 = .ok (.bipush (-100), 2) := by decide +kernel
theorem dX6_correct_122 : decode cX6_correct 122 = .ok (.goto 15, 3) := by decide +kernel
theorem dX6_correct_125 : decode cX6_correct 125 = .ok (.iload_n 3, 1) := by decide +kernel
theorem dX6_correct_126 : decode cX6_correct 126 = .ok (.bipush 100, 2) := by decide +kernel
theorem dX6_correct_128 : decode cX6_correct 128 = .ok (.if_icmp .le 8, 3) := by decide +kernel
theorem dX6_correct_131 : decode cX6_correct 131 = .ok (.bipush 100, 2) := by decide +kernel
theorem dX6_correct_133 : decode cX6_correct 133 = .ok (.goto 4, 3) := by decide +kernel
theorem dX6_correct_136 : decode cX6_correct 136 = .ok (.iload_n 3, 1) := by decide +kernel
theorem dX6_correct_137 : decode cX6_correct 137 = .ok (.iastore, 1) := by decide +kernel
theorem dX6_correct_138 : decode cX6_correct 138 = .ok (.return_, 1) := by decide +kernel
theorem dX6_keepOn_0 : decode cX6_keepOn 0 = .ok (.aload_n 0, 1) := by decide +kernel
theorem dX6_keepOn_1 : decode cX6_keepOn 1 = .ok (.getfield 7, 3) := by decide +kernel
theorem dX6_keepOn_4 : decode cX6_keepOn 4 = .ok (.sipush 133, 3) := by decide +kernel
theorem dX6_keepOn_7 : decode cX6_keepOn 7 = .ok (.iaload, 1) := by decide +kernel
theorem dX6_keepOn_8 : decode cX6_keepOn 8 = .ok (.iconst 2, 1) := by decide +kernel
theorem dX6_keepOn_9 : decode cX6_keepOn 9 = .ok (.irem, 1) := by decide +kernel
theorem dX6_keepOn_10 : decode cX6_keepOn 10 = .ok (.iconst 1, 1) := by decide +kernel
theorem dX6_keepOn_11 : decode cX6_keepOn 11 = .ok (.if_icmp .ne 8, 3) := by decide +kernel
theorem dX6_keepOn_14 : decode cX6_keepOn 14 = .ok (.aload_n 0, 1) := by decide +kernel
theorem dX6_keepOn_15 : decode cX6_keepOn 15 = .ok (.iload_n 1, 1) := by decide +kernel
theorem dX6_keepOn_16 : decode cX6_keepOn 16 = .ok (.invokevirtual 112, 3) := by decide +kernel
theorem dX6_keepOn_19 : decode cX6_keepOn 19 = .ok (.aload_n 0, 1) := by decide +kernel
theorem dX6_keepOn_20 : decode cX6_keepOn 20 = .ok (.iload_n 1, 1) := by decide +kernel
theorem dX6_keepOn_21 : decode cX6_keepOn 21 = .ok (.iconst 4, 1) := by decide +kernel
theorem dX6_keepOn_22 : decode cX6_keepOn 22 = .ok (.invokevirtual 54, 3) := by decide +kernel
theorem dX6_keepOn_25 : decode cX6_keepOn 25 = .ok (.ifCond .eq 25, 3) := by decide +kernel
theorem dX6_keepOn_28 : decode cX6_keepOn 28 = .ok (.aload_n 0, 1) := by decide +kernel
theorem dX6_keepOn_29 : decode cX6_keepOn 29 = .ok (.getfield 7, 3) := by decide +kernel
theorem dX6_keepOn_32 : decode cX6_keepOn 32 = .ok (.bipush 54, 2) := by decide +kernel
theorem dX6_keepOn_34 : decode cX6_keepOn 34 = .ok (.iload_n 1, 1) := by decide +kernel
theorem dX6_keepOn_35 : decode cX6_keepOn 35 = .ok (.iadd, 1) := by decide +kernel
theorem dX6_keepOn_36 : decode cX6_keepOn 36 = .ok (.iaload, 1) := by decide +kernel
theorem dX6_keepOn_37 : decode cX6_keepOn 37 = .ok (.iconst 1, 1) := by decide +kernel
theorem dX6_keepOn_38 : decode cX6_keepOn 38 = .ok (.if_icmp .lt 12, 3) := by decide +kernel
theorem dX6_keepOn_41 : decode cX6_keepOn 41 = .ok (.aload_n 0, 1) := by decide +kernel
theorem dX6_keepOn_42 : decode cX6_keepOn 42 = .ok (.iload_n 1, 1) := by decide +kernel
theorem dX6_keepOn_43 : decode cX6_keepOn 43 = .ok (.iconst 5, 1) := by decide +kernel
theorem dX6_keepOn_44 : decode cX6_keepOn 44 = .ok (.invokevirtual 86, 3) := by decide +kernel
theorem dX6_keepOn_47 : decode cX6_keepOn 47 = .ok (.goto 63, 3) := by decide +kernel
theorem dX6_keepOn_50 : decode cX6_keepOn 50 = .ok (.aload_n 0, 1) := by decide +kernel
theorem dX6_keepOn_51 : decode cX6_keepOn 51 = .ok (.iload_n 1, 1) := by decide +kernel
theorem dX6_keepOn_52 : decode cX6_keepOn 52 = .ok (.iconst 5, 1) := by decide +kernel
theorem dX6_keepOn_53 : decode cX6_keepOn 53 = .ok (.invokevirtual 54, 3) := by decide +kernel
theorem dX6_keepOn_56 : decode cX6_keepOn 56 = .ok (.ifCond .eq 26, 3) := by decide +kernel
theorem dX6_keepOn_59 : decode cX6_keepOn 59 = .ok (.aload_n 0, 1) := by decide +kernel
theorem dX6_keepOn_60 : decode cX6_keepOn 60 = .ok (.getfield 7, 3) := by decide +kernel
theorem dX6_keepOn_63 : decode cX6_keepOn 63 = .ok (.bipush 54, 2) := by decide +kernel
theorem dX6_keepOn_65 : decode cX6_keepOn 65 = .ok (.iload_n 1, 1) := by decide +kernel
theorem dX6_keepOn_66 : decode cX6_keepOn 66 = .ok (.iadd, 1) := by decide +kernel
theorem dX6_keepOn_67 : decode cX6_keepOn 67 = .ok (.iaload, 1) := by decide +kernel
theorem dX6_keepOn_68 : decode cX6_keepOn 68 = .ok (.iconst 3, 1) := by decide +kernel
theorem dX6_keepOn_69 : decode cX6_keepOn 69 = .ok (.if_icmp .lt 13, 3) := by decide +kernel
theorem dX6_keepOn_72 : decode cX6_keepOn 72 = .ok (.aload_n 0, 1) := by decide +kernel
theorem dX6_keepOn_73 : decode cX6_keepOn 73 = .ok (.iload_n 1, 1) := by decide +kernel
theorem dX6_keepOn_74 : decode cX6_keepOn 74 = .ok (.bipush 6, 2) := by decide +kernel
theorem dX6_keepOn_76 : decode cX6_keepOn 76 = .ok (.invokevirtual 86, 3) := by decide +kernel
theorem dX6_keepOn_79 : decode cX6_keepOn 79 = .ok (.goto 31, 3) := by decide +kernel
theorem dX6_keepOn_82 : decode cX6_keepOn 82 = .ok (.aload_n 0, 1) := by decide +kernel
theorem dX6_keepOn_83 : decode cX6_keepOn 83 = .ok (.iload_n 1, 1) := by decide +kernel
theorem dX6_keepOn_84 : decode cX6_keepOn 84 = .ok (.iconst 5, 1) := by decide +kernel
theorem dX6_keepOn_85 : decode cX6_keepOn 85 = .ok (.invokevirtual 54, 3) := by decide +kernel
theorem dX6_keepOn_88 : decode cX6_keepOn 88 = .ok (.ifCond .eq 22, 3) := by decide +kernel
theorem dX6_keepOn_91 : decode cX6_keepOn 91 = .ok (.aload_n 0, 1) := by decide +kernel
theorem dX6_keepOn_92 : decode cX6_keepOn 92 = .ok (.getfield 7, 3) := by decide +kernel
theorem dX6_keepOn_95 : decode cX6_keepOn 95 = .ok (.bipush 48, 2) := by decide +kernel
theorem dX6_keepOn_97 : decode cX6_keepOn 97 = .ok (.iload_n 1, 1) := by decide +kernel
theorem dX6_keepOn_98 : decode cX6_keepOn 98 = .ok (.iadd, 1) := by decide +kernel
theorem dX6_keepOn_99 : decode cX6_keepOn 99 = .ok (.iaload, 1) := by decide +kernel
theorem dX6_keepOn_100 : decode cX6_keepOn 100 = .ok (.iconst 2, 1) := by decide +kernel
theorem dX6_keepOn_101 : decode cX6_keepOn 101 = .ok (.if_icmp .lt 9, 3) := by decide +kernel
theorem dX6_keepOn_104 : decode cX6_keepOn 104 = .ok (.aload_n 0, 1) := by decide +kernel
theorem dX6_keepOn_105 : decode cX6_keepOn 105 = .ok (.iload_n 1, 1) := by decide +kernel
theorem dX6_keepOn_106 : decode cX6_keepOn 106 = .ok (.iconst 4, 1) := by decide +kernel
theorem dX6_keepOn_107 : decode cX6_keepOn 107 = .ok (.invokevirtual 86, 3) := by decide +kernel
theorem dX6_keepOn_110 : decode cX6_keepOn 110 = .ok (.return_, 1) := by decide +kernel
theorem dX6_end_0 : decode cX6_end 0 = .ok (.aload_n 0, 1) := by decide +kernel
theorem dX6_end_1 : decode cX6_end 1 = .ok (.getfield 29, 3) := by decide +kernel
theorem dX6_end_4 : decode cX6_end 4 = .ok (.iload_n 1, 1) := by decide +kernel
theorem dX6_end_5 : decode cX6_end 5 = .ok (.baload, 1) := by decide +kernel
theorem dX6_end_6 : decode cX6_end 6 = .ok (.ifCond .eq 8, 3) := by decide +kernel
theorem dX6_end_9 : decode cX6_end 9 = .ok (.aload_n 0, 1) := by decide +kernel
theorem dX6_end_10 : decode cX6_end 10 = .ok (.iload_n 1, 1) := by decide +kernel
theorem dX6_end_11 : decode cX6_end 11 = .ok (.invokevirtual 82, 3) := by decide +kernel
theorem dX6_end_14 : decode cX6_end 14 = .ok (.aload_n 0, 1) := by decide +kernel
theorem dX6_end_15 : decode cX6_end 15 = .ok (.getfield 7, 3) := by decide +kernel
theorem dX6_end_18 : decode cX6_end 18 = .ok (.bipush 30, 2) := by decide +kernel
theorem dX6_end_20 : decode cX6_end 20 = .ok (.iload_n 1, 1) := by decide +kernel
theorem dX6_end_21 : decode cX6_end 21 = .ok (.iadd, 1) := by decide +kernel
theorem dX6_end_22 : decode cX6_end 22 = .ok (.iaload, 1) := by decide +kernel
theorem dX6_end_23 : decode cX6_end 23 = .ok (.tableswitch 65 1 5 #[33, 41, 49, 57, 57], 33) := by decide +kernel
theorem dX6_end_56 : decode cX6_end 56 = .ok (.aload_n 0, 1) := by decide +kernel
theorem dX6_end_57 : decode cX6_end 57 = .ok (.iload_n 1, 1) := by decide +kernel
theorem dX6_end_58 : decode cX6_end 58 = .ok (.invokevirtual 115, 3) := by decide +kernel
theorem dX6_end_61 : decode cX6_end 61 = .ok (.goto 27, 3) := by decide +kernel
theorem dX6_end_64 : decode cX6_end 64 = .ok (.aload_n 0, 1) := by decide +kernel
theorem dX6_end_65 : decode cX6_end 65 = .ok (.iload_n 1, 1) := by decide +kernel
theorem dX6_end_66 : decode cX6_end 66 = .ok (.invokevirtual 118, 3) := by decide +kernel
theorem dX6_end_69 : decode cX6_end 69 = .ok (.goto 19, 3) := by decide +kernel
theorem dX6_end_72 : decode cX6_end 72 = .ok (.aload_n 0, 1) := by decide +kernel
theorem dX6_end_73 : decode cX6_end 73 = .ok (.iload_n 1, 1) := by decide +kernel
theorem dX6_end_74 : decode cX6_end 74 = .ok (.invokevirtual 121, 3) := by decide +kernel
theorem dX6_end_77 : decode cX6_end 77 = .ok (.goto 11, 3) := by decide +kernel
theorem dX6_end_80 : decode cX6_end 80 = .ok (.aload_n 0, 1) := by decide +kernel
theorem dX6_end_81 : decode cX6_end 81 = .ok (.iload_n 1, 1) := by decide +kernel
theorem dX6_end_82 : decode cX6_end 82 = .ok (.invokevirtual 124, 3) := by decide +kernel
theorem dX6_end_85 : decode cX6_end 85 = .ok (.goto 3, 3) := by decide +kernel
theorem dX6_end_88 : decode cX6_end 88 = .ok (.return_, 1) := by decide +kernel
theorem dX6_keepCycle_0 : decode cX6_keepCycle 0 = .ok (.aload_n 0, 1) := by decide +kernel
theorem dX6_keepCycle_1 : decode cX6_keepCycle 1 = .ok (.getfield 7, 3) := by decide +kernel
theorem dX6_keepCycle_4 : decode cX6_keepCycle 4 = .ok (.bipush 72, 2) := by decide +kernel
theorem dX6_keepCycle_6 : decode cX6_keepCycle 6 = .ok (.iload_n 1, 1) := by decide +kernel
theorem dX6_keepCycle_7 : decode cX6_keepCycle 7 = .ok (.iadd, 1) := by decide +kernel
theorem dX6_keepCycle_8 : decode cX6_keepCycle 8 = .ok (.dup2, 1) := by decide +kernel
theorem dX6_keepCycle_9 : decode cX6_keepCycle 9 = .ok (.iaload, 1) := by decide +kernel
theorem dX6_keepCycle_10 : decode cX6_keepCycle 10 = .ok (.aload_n 0, 1) := by decide +kernel
theorem dX6_keepCycle_11 : decode cX6_keepCycle 11 = .ok (.getfield 23, 3) := by decide +kernel
theorem dX6_keepCycle_14 : decode cX6_keepCycle 14 = .ok (.iload_n 1, 1) := by decide +kernel
theorem dX6_keepCycle_15 : decode cX6_keepCycle 15 = .ok (.baload, 1) := by decide +kernel
theorem dX6_keepCycle_16 : decode cX6_keepCycle 16 = .ok (.ifCond .eq 7, 3) := by decide +kernel
theorem dX6_keepCycle_19 : decode cX6_keepCycle 19 = .ok (.iconst 1, 1) := by decide +kernel
theorem dX6_keepCycle_20 : decode cX6_keepCycle 20 = .ok (.goto 4, 3) := by decide +kernel
theorem dX6_keepCycle_23 : decode cX6_keepCycle 23 = .ok (.iconst 0, 1) := by decide +kernel
theorem dX6_keepCycle_24 : decode cX6_keepCycle 24 = .ok (.iadd, 1) := by decide +kernel
theorem dX6_keepCycle_25 : decode cX6_keepCycle 25 = .ok (.iastore, 1) := by decide +kernel
theorem dX6_keepCycle_26 : decode cX6_keepCycle 26 = .ok (.aload_n 0, 1) := by decide +kernel
theorem dX6_keepCycle_27 : decode cX6_keepCycle 27 = .ok (.getfield 7, 3) := by decide +kernel
theorem dX6_keepCycle_30 : decode cX6_keepCycle 30 = .ok (.bipush 78, 2) := by decide +kernel
theorem dX6_keepCycle_32 : decode cX6_keepCycle 32 = .ok (.iload_n 1, 1) := by decide +kernel
theorem dX6_keepCycle_33 : decode cX6_keepCycle 33 = .ok (.iadd, 1) := by decide +kernel
theorem dX6_keepCycle_34 : decode cX6_keepCycle 34 = .ok (.aload_n 0, 1) := by decide +kernel
theorem dX6_keepCycle_35 : decode cX6_keepCycle 35 = .ok (.getfield 41, 3) := by decide +kernel
theorem dX6_keepCycle_38 : decode cX6_keepCycle 38 = .ok (.iload_n 1, 1) := by decide +kernel
theorem dX6_keepCycle_39 : decode cX6_keepCycle 39 = .ok (.iaload, 1) := by decide +kernel
theorem dX6_keepCycle_40 : decode cX6_keepCycle 40 = .ok (.iastore, 1) := by decide +kernel
theorem dX6_keepCycle_41 : decode cX6_keepCycle 41 = .ok (.aload_n 0, 1) := by decide +kernel
theorem dX6_keepCycle_42 : decode cX6_keepCycle 42 = .ok (.getfield 7, 3) := by decide +kernel
theorem dX6_keepCycle_45 : decode cX6_keepCycle 45 = .ok (.bipush 84, 2) := by decide +kernel
theorem dX6_keepCycle_47 : decode cX6_keepCycle 47 = .ok (.iload_n 1, 1) := by decide +kernel
theorem dX6_keepCycle_48 : decode cX6_keepCycle 48 = .ok (.iadd, 1) := by decide +kernel
theorem dX6_keepCycle_49 : decode cX6_keepCycle 49 = .ok (.aload_n 0, 1) := by decide +kernel
theorem dX6_keepCycle_50 : decode cX6_keepCycle 50 = .ok (.getfield 35, 3) := by decide +kernel
theorem dX6_keepCycle_53 : decode cX6_keepCycle 53 = .ok (.iload_n 1, 1) := by decide +kernel
theorem dX6_keepCycle_54 : decode cX6_keepCycle 54 = .ok (.iaload, 1) := by decide +kernel
theorem dX6_keepCycle_55 : decode cX6_keepCycle 55 = .ok (.iastore, 1) := by decide +kernel
theorem dX6_keepCycle_56 : decode cX6_keepCycle 56 = .ok (.aload_n 0, 1) := by decide +kernel
theorem dX6_keepCycle_57 : decode cX6_keepCycle 57 = .ok (.getfield 7, 3) := by decide +kernel
theorem dX6_keepCycle_60 : decode cX6_keepCycle 60 = .ok (.bipush 90, 2) := by decide +kernel
theorem dX6_keepCycle_62 : decode cX6_keepCycle 62 = .ok (.iload_n 1, 1) := by decide +kernel
theorem dX6_keepCycle_63 : decode cX6_keepCycle 63 = .ok (.iadd, 1) := by decide +kernel
theorem dX6_keepCycle_64 : decode cX6_keepCycle 64 = .ok (.aload_n 0, 1) := by decide +kernel
theorem dX6_keepCycle_65 : decode cX6_keepCycle 65 = .ok (.getfield 38, 3) := by decide +kernel
theorem dX6_keepCycle_68 : decode cX6_keepCycle 68 = .ok (.iload_n 1, 1) := by decide +kernel
theorem dX6_keepCycle_69 : decode cX6_keepCycle 69 = .ok (.iaload, 1) := by decide +kernel
theorem dX6_keepCycle_70 : decode cX6_keepCycle 70 = .ok (.iastore, 1) := by decide +kernel
theorem dX6_keepCycle_71 : decode cX6_keepCycle 71 = .ok (.iconst 0, 1) := by decide +kernel
theorem dX6_keepCycle_72 : decode cX6_keepCycle 72 = .ok (.istore_n 2, 1) := by decide +kernel
theorem dX6_keepCycle_73 : decode cX6_keepCycle 73 = .ok (.iload_n 2, 1) := by decide +kernel
theorem dX6_keepCycle_74 : decode cX6_keepCycle 74 = .ok (.bipush 6, 2) := by decide +kernel
theorem dX6_keepCycle_76 : decode cX6_keepCycle 76 = .ok (.if_icmp .ge 34, 3) := by decide +kernel
theorem dX6_keepCycle_79 : decode cX6_keepCycle 79 = .ok (.aload_n 0, 1) := by decide +kernel
theorem dX6_keepCycle_80 : decode cX6_keepCycle 80 = .ok (.getfield 7, 3) := by decide +kernel
theorem dX6_keepCycle_83 : decode cX6_keepCycle 83 = .ok (.bipush 96, 2) := by decide +kernel
theorem dX6_keepCycle_85 : decode cX6_keepCycle 85 = .ok (.bipush 6, 2) := by decide +kernel
theorem dX6_keepCycle_87 : decode cX6_keepCycle 87 = .ok (.iload_n 1, 1) := by decide +kernel
theorem dX6_keepCycle_88 : decode cX6_keepCycle 88 = .ok (.imul, 1) := by decide +kernel
theorem dX6_keepCycle_89 : decode cX6_keepCycle 89 = .ok (.iadd, 1) := by decide +kernel
theorem dX6_keepCycle_90 : decode cX6_keepCycle 90 = .ok (.iload_n 2, 1) := by decide +kernel
theorem dX6_keepCycle_91 : decode cX6_keepCycle 91 = .ok (.iadd, 1) := by decide +kernel
theorem dX6_keepCycle_92 : decode cX6_keepCycle 92 = .ok (.aload_n 0, 1) := by decide +kernel
theorem dX6_keepCycle_93 : decode cX6_keepCycle 93 = .ok (.getfield 44, 3) := by decide +kernel
theorem dX6_keepCycle_96 : decode cX6_keepCycle 96 = .ok (.bipush 6, 2) := by decide +kernel
theorem dX6_keepCycle_98 : decode cX6_keepCycle 98 = .ok (.iload_n 1, 1) := by decide +kernel
theorem dX6_keepCycle_99 : decode cX6_keepCycle 99 = .ok (.imul, 1) := by decide +kernel
theorem dX6_keepCycle_100 : decode cX6_keepCycle 100 = .ok (.iload_n 2, 1) := by decide +kernel
theorem dX6_keepCycle_101 : decode cX6_keepCycle 101 = .ok (.iadd, 1) := by decide +kernel
theorem dX6_keepCycle_102 : decode cX6_keepCycle 102 = .ok (.iaload, 1) := by decide +kernel
theorem dX6_keepCycle_103 : decode cX6_keepCycle 103 = .ok (.iastore, 1) := by decide +kernel
theorem dX6_keepCycle_104 : decode cX6_keepCycle 104 = .ok (.iinc 2 1, 3) := by decide +kernel
theorem dX6_keepCycle_107 : decode cX6_keepCycle 107 = .ok (.goto (-34), 3) := by decide +kernel
theorem dX6_keepCycle_110 : decode cX6_keepCycle 110 = .ok (.aload_n 0, 1) := by decide +kernel
theorem dX6_keepCycle_111 : decode cX6_keepCycle 111 = .ok (.iload_n 1, 1) := by decide +kernel
theorem dX6_keepCycle_112 : decode cX6_keepCycle 112 = .ok (.invokevirtual 65, 3) := by decide +kernel
theorem dX6_keepCycle_115 : decode cX6_keepCycle 115 = .ok (.ifCond .ne 34, 3) := by decide +kernel
theorem dX6_keepCycle_118 : decode cX6_keepCycle 118 = .ok (.aload_n 0, 1) := by decide +kernel
theorem dX6_keepCycle_119 : decode cX6_keepCycle 119 = .ok (.getfield 7, 3) := by decide +kernel
theorem dX6_keepCycle_122 : decode cX6_keepCycle 122 = .ok (.bipush 60, 2) := by decide +kernel
theorem dX6_keepCycle_124 : decode cX6_keepCycle 124 = .ok (.iload_n 1, 1) := by decide +kernel
theorem dX6_keepCycle_125 : decode cX6_keepCycle 125 = .ok (.iadd, 1) := by decide +kernel
theorem dX6_keepCycle_126 : decode cX6_keepCycle 126 = .ok (.dup2, 1) := by decide +kernel
theorem dX6_keepCycle_127 : decode cX6_keepCycle 127 = .ok (.iaload, 1) := by decide +kernel
theorem dX6_keepCycle_128 : decode cX6_keepCycle 128 = .ok (.aload_n 0, 1) := by decide +kernel
theorem dX6_keepCycle_129 : decode cX6_keepCycle 129 = .ok (.getfield 7, 3) := by decide +kernel
theorem dX6_keepCycle_132 : decode cX6_keepCycle 132 = .ok (.bipush 18, 2) := by decide +kernel
theorem dX6_keepCycle_134 : decode cX6_keepCycle 134 = .ok (.iload_n 1, 1) := by decide +kernel
theorem dX6_keepCycle_135 : decode cX6_keepCycle 135 = .ok (.iadd, 1) := by decide +kernel
theorem dX6_keepCycle_136 : decode cX6_keepCycle 136 = .ok (.iaload, 1) := by decide +kernel
theorem dX6_keepCycle_137 : decode cX6_keepCycle 137 = .ok (.aload_n 0, 1) := by decide +kernel
theorem dX6_keepCycle_138 : decode cX6_keepCycle 138 = .ok (.getfield 7, 3) := by decide +kernel
theorem dX6_keepCycle_141 : decode cX6_keepCycle 141 = .ok (.bipush 66, 2) := by decide +kernel
theorem dX6_keepCycle_143 : decode cX6_keepCycle 143 = .ok (.iload_n 1, 1) := by decide +kernel
theorem dX6_keepCycle_144 : decode cX6_keepCycle 144 = .ok (.iadd, 1) := by decide +kernel
theorem dX6_keepCycle_145 : decode cX6_keepCycle 145 = .ok (.iaload, 1) := by decide +kernel
theorem dX6_keepCycle_146 : decode cX6_keepCycle 146 = .ok (.iadd, 1) := by decide +kernel
theorem dX6_keepCycle_147 : decode cX6_keepCycle 147 = .ok (.iadd, 1) := by decide +kernel
theorem dX6_keepCycle_148 : decode cX6_keepCycle 148 = .ok (.iastore, 1) := by decide +kernel
theorem dX6_keepCycle_149 : decode cX6_keepCycle 149 = .ok (.aload_n 0, 1) := by decide +kernel
theorem dX6_keepCycle_150 : decode cX6_keepCycle 150 = .ok (.getfield 7, 3) := by decide +kernel
theorem dX6_keepCycle_153 : decode cX6_keepCycle 153 = .ok (.bipush 36, 2) := by decide +kernel
theorem dX6_keepCycle_155 : decode cX6_keepCycle 155 = .ok (.iload_n 1, 1) := by decide +kernel
theorem dX6_keepCycle_156 : decode cX6_keepCycle 156 = .ok (.iadd, 1) := by decide +kernel
theorem dX6_keepCycle_157 : decode cX6_keepCycle 157 = .ok (.dup2, 1) := by decide +kernel
theorem dX6_keepCycle_158 : decode cX6_keepCycle 158 = .ok (.iaload, 1) := by decide +kernel
theorem dX6_keepCycle_159 : decode cX6_keepCycle 159 = .ok (.aload_n 0, 1) := by decide +kernel
theorem dX6_keepCycle_160 : decode cX6_keepCycle 160 = .ok (.getfield 32, 3) := by decide +kernel
theorem dX6_keepCycle_163 : decode cX6_keepCycle 163 = .ok (.iload_n 1, 1) := by decide +kernel
theorem dX6_keepCycle_164 : decode cX6_keepCycle 164 = .ok (.baload, 1) := by decide +kernel
theorem dX6_keepCycle_165 : decode cX6_keepCycle 165 = .ok (.ifCond .eq 7, 3) := by decide +kernel
theorem dX6_keepCycle_168 : decode cX6_keepCycle 168 = .ok (.iconst 0, 1) := by decide +kernel
theorem dX6_keepCycle_169 : decode cX6_keepCycle 169 = .ok (.goto 4, 3) := by decide +kernel
theorem dX6_keepCycle_172 : decode cX6_keepCycle 172 = .ok (.iconst 1, 1) := by decide +kernel
theorem dX6_keepCycle_173 : decode cX6_keepCycle 173 = .ok (.iadd, 1) := by decide +kernel
theorem dX6_keepCycle_174 : decode cX6_keepCycle 174 = .ok (.iastore, 1) := by decide +kernel
theorem dX6_keepCycle_175 : decode cX6_keepCycle 175 = .ok (.return_, 1) := by decide +kernel
theorem dX6_cycle_0 : decode cX6_cycle 0 = .ok (.aload_n 0, 1) := by decide +kernel
theorem dX6_cycle_1 : decode cX6_cycle 1 = .ok (.invokevirtual 127, 3) := by decide +kernel
theorem dX6_cycle_4 : decode cX6_cycle 4 = .ok (.aload_n 0, 1) := by decide +kernel
theorem dX6_cycle_5 : decode cX6_cycle 5 = .ok (.getfield 7, 3) := by decide +kernel
theorem dX6_cycle_8 : decode cX6_cycle 8 = .ok (.sipush 134, 3) := by decide +kernel
theorem dX6_cycle_11 : decode cX6_cycle 11 = .ok (.iconst 0, 1) := by decide +kernel
theorem dX6_cycle_12 : decode cX6_cycle 12 = .ok (.iastore, 1) := by decide +kernel
theorem dX6_cycle_13 : decode cX6_cycle 13 = .ok (.iconst 0, 1) := by decide +kernel
theorem dX6_cycle_14 : decode cX6_cycle 14 = .ok (.istore_n 1, 1) := by decide +kernel
theorem dX6_cycle_15 : decode cX6_cycle 15 = .ok (.iload_n 1, 1) := by decide +kernel
theorem dX6_cycle_16 : decode cX6_cycle 16 = .ok (.bipush 6, 2) := by decide +kernel
theorem dX6_cycle_18 : decode cX6_cycle 18 = .ok (.if_icmp .ge 56, 3) := by decide +kernel
theorem dX6_cycle_21 : decode cX6_cycle 21 = .ok (.aload_n 0, 1) := by decide +kernel
theorem dX6_cycle_22 : decode cX6_cycle 22 = .ok (.iload_n 1, 1) := by decide +kernel
theorem dX6_cycle_23 : decode cX6_cycle 23 = .ok (.invokevirtual 130, 3) := by decide +kernel
theorem dX6_cycle_26 : decode cX6_cycle 26 = .ok (.aload_n 0, 1) := by decide +kernel
theorem dX6_cycle_27 : decode cX6_cycle 27 = .ok (.getfield 47, 3) := by decide +kernel
theorem dX6_cycle_30 : decode cX6_cycle 30 = .ok (.iload_n 1, 1) := by decide +kernel
theorem dX6_cycle_31 : decode cX6_cycle 31 = .ok (.aload_n 0, 1) := by decide +kernel
theorem dX6_cycle_32 : decode cX6_cycle 32 = .ok (.getfield 7, 3) := by decide +kernel
theorem dX6_cycle_35 : decode cX6_cycle 35 = .ok (.bipush 66, 2) := by decide +kernel
theorem dX6_cycle_37 : decode cX6_cycle 37 = .ok (.iload_n 1, 1) := by decide +kernel
theorem dX6_cycle_38 : decode cX6_cycle 38 = .ok (.iadd, 1) := by decide +kernel
theorem dX6_cycle_39 : decode cX6_cycle 39 = .ok (.iaload, 1) := by decide +kernel
theorem dX6_cycle_40 : decode cX6_cycle 40 = .ok (.iastore, 1) := by decide +kernel
theorem dX6_cycle_41 : decode cX6_cycle 41 = .ok (.aload_n 0, 1) := by decide +kernel
theorem dX6_cycle_42 : decode cX6_cycle 42 = .ok (.getfield 7, 3) := by decide +kernel
theorem dX6_cycle_45 : decode cX6_cycle 45 = .ok (.sipush 134, 3) := by decide +kernel
theorem dX6_cycle_48 : decode cX6_cycle 48 = .ok (.dup2, 1) := by decide +kernel
theorem dX6_cycle_49 : decode cX6_cycle 49 = .ok (.iaload, 1) := by decide +kernel
theorem dX6_cycle_50 : decode cX6_cycle 50 = .ok (.aload_n 0, 1) := by decide +kernel
theorem dX6_cycle_51 : decode cX6_cycle 51 = .ok (.getfield 23, 3) := by decide +kernel
theorem dX6_cycle_54 : decode cX6_cycle 54 = .ok (.iload_n 1, 1) := by decide +kernel
theorem dX6_cycle_55 : decode cX6_cycle 55 = .ok (.baload, 1) := by decide +kernel
theorem dX6_cycle_56 : decode cX6_cycle 56 = .ok (.ifCond .eq 9, 3) := by decide +kernel
theorem dX6_cycle_59 : decode cX6_cycle 59 = .ok (.iconst 1, 1) := by decide +kernel
theorem dX6_cycle_60 : decode cX6_cycle 60 = .ok (.iload_n 1, 1) := by decide +kernel
theorem dX6_cycle_61 : decode cX6_cycle 61 = .ok (.ishl, 1) := by decide +kernel
theorem dX6_cycle_62 : decode cX6_cycle 62 = .ok (.goto 4, 3) := by decide +kernel
theorem dX6_cycle_65 : decode cX6_cycle 65 = .ok (.iconst 0, 1) := by decide +kernel
theorem dX6_cycle_66 : decode cX6_cycle 66 = .ok (.ior, 1) := by decide +kernel
theorem dX6_cycle_67 : decode cX6_cycle 67 = .ok (.iastore, 1) := by decide +kernel
theorem dX6_cycle_68 : decode cX6_cycle 68 = .ok (.iinc 1 1, 3) := by decide +kernel
theorem dX6_cycle_71 : decode cX6_cycle 71 = .ok (.goto (-56), 3) := by decide +kernel
theorem dX6_cycle_74 : decode cX6_cycle 74 = .ok (.iconst 0, 1) := by decide +kernel
theorem dX6_cycle_75 : decode cX6_cycle 75 = .ok (.istore_n 1, 1) := by decide +kernel
theorem dX6_cycle_76 : decode cX6_cycle 76 = .ok (.iload_n 1, 1) := by decide +kernel
theorem dX6_cycle_77 : decode cX6_cycle 77 = .ok (.bipush 6, 2) := by decide +kernel
theorem dX6_cycle_79 : decode cX6_cycle 79 = .ok (.if_icmp .ge 14, 3) := by decide +kernel
theorem dX6_cycle_82 : decode cX6_cycle 82 = .ok (.aload_n 0, 1) := by decide +kernel
theorem dX6_cycle_83 : decode cX6_cycle 83 = .ok (.iload_n 1, 1) := by decide +kernel
theorem dX6_cycle_84 : decode cX6_cycle 84 = .ok (.invokevirtual 133, 3) := by decide +kernel
theorem dX6_cycle_87 : decode cX6_cycle 87 = .ok (.iinc 1 1, 3) := by decide +kernel
theorem dX6_cycle_90 : decode cX6_cycle 90 = .ok (.goto (-14), 3) := by decide +kernel
theorem dX6_cycle_93 : decode cX6_cycle 93 = .ok (.iconst 0, 1) := by decide +kernel
theorem dX6_cycle_94 : decode cX6_cycle 94 = .ok (.istore_n 1, 1) := by decide +kernel
theorem dX6_cycle_95 : decode cX6_cycle 95 = .ok (.iload_n 1, 1) := by decide +kernel
theorem dX6_cycle_96 : decode cX6_cycle 96 = .ok (.bipush 6, 2) := by decide +kernel
theorem dX6_cycle_98 : decode cX6_cycle 98 = .ok (.if_icmp .ge 14, 3) := by decide +kernel
theorem dX6_cycle_101 : decode cX6_cycle 101 = .ok (.aload_n 0, 1) := by decide +kernel
theorem dX6_cycle_102 : decode cX6_cycle 102 = .ok (.iload_n 1, 1) := by decide +kernel
theorem dX6_cycle_103 : decode cX6_cycle 103 = .ok (.invokevirtual 136, 3) := by decide +kernel
theorem dX6_cycle_106 : decode cX6_cycle 106 = .ok (.iinc 1 1, 3) := by decide +kernel
theorem dX6_cycle_109 : decode cX6_cycle 109 = .ok (.goto (-14), 3) := by decide +kernel
theorem dX6_cycle_112 : decode cX6_cycle 112 = .ok (.aload_n 0, 1) := by decide +kernel
theorem dX6_cycle_113 : decode cX6_cycle 113 = .ok (.getfield 7, 3) := by decide +kernel
theorem dX6_cycle_116 : decode cX6_cycle 116 = .ok (.sipush 133, 3) := by decide +kernel
theorem dX6_cycle_119 : decode cX6_cycle 119 = .ok (.dup2, 1) := by decide +kernel
theorem dX6_cycle_120 : decode cX6_cycle 120 = .ok (.iaload, 1) := by decide +kernel
theorem dX6_cycle_121 : decode cX6_cycle 121 = .ok (.iconst 1, 1) := by decide +kernel
theorem dX6_cycle_122 : decode cX6_cycle 122 = .ok (.iadd, 1) := by decide +kernel
theorem dX6_cycle_123 : decode cX6_cycle 123 = .ok (.iastore, 1) := by decide +kernel
theorem dX6_cycle_124 : decode cX6_cycle 124 = .ok (.return_, 1) := by decide +kernel
theorem dX6_setOf_0 : decode cX6_setOf 0 = .ok (.iconst 0, 1) := by decide +kernel
theorem dX6_setOf_1 : decode cX6_setOf 1 = .ok (.istore_n 2, 1) := by decide +kernel
theorem dX6_setOf_2 : decode cX6_setOf 2 = .ok (.iconst 0, 1) := by decide +kernel
theorem dX6_setOf_3 : decode cX6_setOf 3 = .ok (.istore_n 3, 1) := by decide +kernel
theorem dX6_setOf_4 : decode cX6_setOf 4 = .ok (.iload_n 3, 1) := by decide +kernel
theorem dX6_setOf_5 : decode cX6_setOf 5 = .ok (.bipush 6, 2) := by decide +kernel
theorem dX6_setOf_7 : decode cX6_setOf 7 = .ok (.if_icmp .ge 28, 3) := by decide +kernel
theorem dX6_setOf_10 : decode cX6_setOf 10 = .ok (.iload_n 2, 1) := by decide +kernel
theorem dX6_setOf_11 : decode cX6_setOf 11 = .ok (.aload_n 0, 1) := by decide +kernel
theorem dX6_setOf_12 : decode cX6_setOf 12 = .ok (.iload_n 3, 1) := by decide +kernel
theorem dX6_setOf_13 : decode cX6_setOf 13 = .ok (.iload_n 1, 1) := by decide +kernel
theorem dX6_setOf_14 : decode cX6_setOf 14 = .ok (.invokevirtual 54, 3) := by decide +kernel
theorem dX6_setOf_17 : decode cX6_setOf 17 = .ok (.ifCond .eq 9, 3) := by decide +kernel
theorem dX6_setOf_20 : decode cX6_setOf 20 = .ok (.iconst 1, 1) := by decide +kernel
theorem dX6_setOf_21 : decode cX6_setOf 21 = .ok (.iload_n 3, 1) := by decide +kernel
theorem dX6_setOf_22 : decode cX6_setOf 22 = .ok (.ishl, 1) := by decide +kernel
theorem dX6_setOf_23 : decode cX6_setOf 23 = .ok (.goto 4, 3) := by decide +kernel
theorem dX6_setOf_26 : decode cX6_setOf 26 = .ok (.iconst 0, 1) := by decide +kernel
theorem dX6_setOf_27 : decode cX6_setOf 27 = .ok (.ior, 1) := by decide +kernel
theorem dX6_setOf_28 : decode cX6_setOf 28 = .ok (.istore_n 2, 1) := by decide +kernel
theorem dX6_setOf_29 : decode cX6_setOf 29 = .ok (.iinc 3 1, 3) := by decide +kernel
theorem dX6_setOf_32 : decode cX6_setOf 32 = .ok (.goto (-28), 3) := by decide +kernel
theorem dX6_setOf_35 : decode cX6_setOf 35 = .ok (.iload_n 2, 1) := by decide +kernel
theorem dX6_setOf_36 : decode cX6_setOf 36 = .ok (.ireturn, 1) := by decide +kernel
theorem dX6_run_0 : decode cX6_run 0 = .ok (.iload_n 1, 1) := by decide +kernel
theorem dX6_run_1 : decode cX6_run 1 = .ok (.iconst 1, 1) := by decide +kernel
theorem dX6_run_2 : decode cX6_run 2 = .ok (.bipush 50, 2) := by decide +kernel
theorem dX6_run_4 : decode cX6_run 4 = .ok (.invokestatic 50, 3) := by decide +kernel
theorem dX6_run_7 : decode cX6_run 7 = .ok (.ifCond .ne 6, 3) := by decide +kernel
theorem dX6_run_10 : decode cX6_run 10 = .ok (.bipush (-2), 2) := by decide +kernel
theorem dX6_run_12 : decode cX6_run 12 = .ok (.ireturn, 1) := by decide +kernel
theorem dX6_run_13 : decode cX6_run 13 = .ok (.iconst 0, 1) := by decide +kernel
theorem dX6_run_14 : decode cX6_run 14 = .ok (.istore_n 2, 1) := by decide +kernel
theorem dX6_run_15 : decode cX6_run 15 = .ok (.iload_n 2, 1) := by decide +kernel
theorem dX6_run_16 : decode cX6_run 16 = .ok (.iload_n 1, 1) := by decide +kernel
theorem dX6_run_17 : decode cX6_run 17 = .ok (.if_icmp .ge 13, 3) := by decide +kernel
theorem dX6_run_20 : decode cX6_run 20 = .ok (.aload_n 0, 1) := by decide +kernel
theorem dX6_run_21 : decode cX6_run 21 = .ok (.invokevirtual 139, 3) := by decide +kernel
theorem dX6_run_24 : decode cX6_run 24 = .ok (.iinc 2 1, 3) := by decide +kernel
theorem dX6_run_27 : decode cX6_run 27 = .ok (.goto (-12), 3) := by decide +kernel
theorem dX6_run_30 : decode cX6_run 30 = .ok (.aload_n 0, 1) := by decide +kernel
theorem dX6_run_31 : decode cX6_run 31 = .ok (.iconst 4, 1) := by decide +kernel
theorem dX6_run_32 : decode cX6_run 32 = .ok (.invokevirtual 142, 3) := by decide +kernel
theorem dX6_run_35 : decode cX6_run 35 = .ok (.ireturn, 1) := by decide +kernel
theorem dX6_size_0 : decode cX6_size 0 = .ok (.iconst 0, 1) := by decide +kernel
theorem dX6_size_1 : decode cX6_size 1 = .ok (.istore_n 1, 1) := by decide +kernel
theorem dX6_size_2 : decode cX6_size 2 = .ok (.iconst 0, 1) := by decide +kernel
theorem dX6_size_3 : decode cX6_size 3 = .ok (.istore_n 2, 1) := by decide +kernel
theorem dX6_size_4 : decode cX6_size 4 = .ok (.iload_n 2, 1) := by decide +kernel
theorem dX6_size_5 : decode cX6_size 5 = .ok (.bipush 6, 2) := by decide +kernel
theorem dX6_size_7 : decode cX6_size 7 = .ok (.if_icmp .ge 17, 3) := by decide +kernel
theorem dX6_size_10 : decode cX6_size 10 = .ok (.iload_n 1, 1) := by decide +kernel
theorem dX6_size_11 : decode cX6_size 11 = .ok (.iload_n 0, 1) := by decide +kernel
theorem dX6_size_12 : decode cX6_size 12 = .ok (.iload_n 2, 1) := by decide +kernel
theorem dX6_size_13 : decode cX6_size 13 = .ok (.ishr, 1) := by decide +kernel
theorem dX6_size_14 : decode cX6_size 14 = .ok (.iconst 1, 1) := by decide +kernel
theorem dX6_size_15 : decode cX6_size 15 = .ok (.iand, 1) := by decide +kernel
theorem dX6_size_16 : decode cX6_size 16 = .ok (.iadd, 1) := by decide +kernel
theorem dX6_size_17 : decode cX6_size 17 = .ok (.istore_n 1, 1) := by decide +kernel
theorem dX6_size_18 : decode cX6_size 18 = .ok (.iinc 2 1, 3) := by decide +kernel
theorem dX6_size_21 : decode cX6_size 21 = .ok (.goto (-17), 3) := by decide +kernel
theorem dX6_size_24 : decode cX6_size 24 = .ok (.iload_n 1, 1) := by decide +kernel
theorem dX6_size_25 : decode cX6_size 25 = .ok (.ireturn, 1) := by decide +kernel
theorem dX6_told_0 : decode cX6_told 0 = .ok (.iload_n 1, 1) := by decide +kernel
theorem dX6_told_1 : decode cX6_told 1 = .ok (.invokestatic 58, 3) := by decide +kernel
theorem dX6_told_4 : decode cX6_told 4 = .ok (.ifCond .ne 5, 3) := by decide +kernel
theorem dX6_told_7 : decode cX6_told 7 = .ok (.iconst (-1), 1) := by decide +kernel
theorem dX6_told_8 : decode cX6_told 8 = .ok (.ireturn, 1) := by decide +kernel
theorem dX6_told_9 : decode cX6_told 9 = .ok (.iload_n 2, 1) := by decide +kernel
theorem dX6_told_10 : decode cX6_told 10 = .ok (.iconst 0, 1) := by decide +kernel
theorem dX6_told_11 : decode cX6_told 11 = .ok (.iconst 4, 1) := by decide +kernel
theorem dX6_told_12 : decode cX6_told 12 = .ok (.invokestatic 50, 3) := by decide +kernel
theorem dX6_told_15 : decode cX6_told 15 = .ok (.ifCond .eq 18, 3) := by decide +kernel
theorem dX6_told_18 : decode cX6_told 18 = .ok (.aload_n 0, 1) := by decide +kernel
theorem dX6_told_19 : decode cX6_told 19 = .ok (.getfield 7, 3) := by decide +kernel
theorem dX6_told_22 : decode cX6_told 22 = .ok (.bipush 30, 2) := by decide +kernel
theorem dX6_told_24 : decode cX6_told 24 = .ok (.bipush 6, 2) := by decide +kernel
theorem dX6_told_26 : decode cX6_told 26 = .ok (.iload_n 2, 1) := by decide +kernel
theorem dX6_told_27 : decode cX6_told 27 = .ok (.imul, 1) := by decide +kernel
theorem dX6_told_28 : decode cX6_told 28 = .ok (.iadd, 1) := by decide +kernel
theorem dX6_told_29 : decode cX6_told 29 = .ok (.iload_n 1, 1) := by decide +kernel
theorem dX6_told_30 : decode cX6_told 30 = .ok (.iadd, 1) := by decide +kernel
theorem dX6_told_31 : decode cX6_told 31 = .ok (.iaload, 1) := by decide +kernel
theorem dX6_told_32 : decode cX6_told 32 = .ok (.ireturn, 1) := by decide +kernel
theorem dX6_told_33 : decode cX6_told 33 = .ok (.iload_n 2, 1) := by decide +kernel
theorem dX6_told_34 : decode cX6_told 34 = .ok (.tableswitch 94 5 9 #[34, 47, 61, 71, 81], 34) := by decide +kernel
theorem dX6_told_68 : decode cX6_told 68 = .ok (.aload_n 0, 1) := by decide +kernel
theorem dX6_told_69 : decode cX6_told 69 = .ok (.getfield 7, 3) := by decide +kernel
theorem dX6_told_72 : decode cX6_told 72 = .ok (.bipush 60, 2) := by decide +kernel
theorem dX6_told_74 : decode cX6_told 74 = .ok (.iload_n 1, 1) := by decide +kernel
theorem dX6_told_75 : decode cX6_told 75 = .ok (.iadd, 1) := by decide +kernel
theorem dX6_told_76 : decode cX6_told 76 = .ok (.iaload, 1) := by decide +kernel
theorem dX6_told_77 : decode cX6_told 77 = .ok (.ldc 145, 2) := by decide +kernel
theorem dX6_told_79 : decode cX6_told 79 = .ok (.iadd, 1) := by decide +kernel
theorem dX6_told_80 : decode cX6_told 80 = .ok (.ireturn, 1) := by decide +kernel
theorem dX6_told_81 : decode cX6_told 81 = .ok (.aload_n 0, 1) := by decide +kernel
theorem dX6_told_82 : decode cX6_told 82 = .ok (.getfield 7, 3) := by decide +kernel
theorem dX6_told_85 : decode cX6_told 85 = .ok (.bipush 66, 2) := by decide +kernel
theorem dX6_told_87 : decode cX6_told 87 = .ok (.iload_n 1, 1) := by decide +kernel
theorem dX6_told_88 : decode cX6_told 88 = .ok (.iadd, 1) := by decide +kernel
theorem dX6_told_89 : decode cX6_told 89 = .ok (.iaload, 1) := by decide +kernel
theorem dX6_told_90 : decode cX6_told 90 = .ok (.sipush 1000, 3) := by decide +kernel
theorem dX6_told_93 : decode cX6_told 93 = .ok (.iadd, 1) := by decide +kernel
theorem dX6_told_94 : decode cX6_told 94 = .ok (.ireturn, 1) := by decide +kernel
theorem dX6_told_95 : decode cX6_told 95 = .ok (.aload_n 0, 1) := by decide +kernel
theorem dX6_told_96 : decode cX6_told 96 = .ok (.getfield 7, 3) := by decide +kernel
theorem dX6_told_99 : decode cX6_told 99 = .ok (.bipush 72, 2) := by decide +kernel
theorem dX6_told_101 : decode cX6_told 101 = .ok (.iload_n 1, 1) := by decide +kernel
theorem dX6_told_102 : decode cX6_told 102 = .ok (.iadd, 1) := by decide +kernel
theorem dX6_told_103 : decode cX6_told 103 = .ok (.iaload, 1) := by decide +kernel
theorem dX6_told_104 : decode cX6_told 104 = .ok (.ireturn, 1) := by decide +kernel
theorem dX6_told_105 : decode cX6_told 105 = .ok (.aload_n 0, 1) := by decide +kernel
theorem dX6_told_106 : decode cX6_told 106 = .ok (.getfield 7, 3) := by decide +kernel
theorem dX6_told_109 : decode cX6_told 109 = .ok (.bipush 78, 2) := by decide +kernel
theorem dX6_told_111 : decode cX6_told 111 = .ok (.iload_n 1, 1) := by decide +kernel
theorem dX6_told_112 : decode cX6_told 112 = .ok (.iadd, 1) := by decide +kernel
theorem dX6_told_113 : decode cX6_told 113 = .ok (.iaload, 1) := by decide +kernel
theorem dX6_told_114 : decode cX6_told 114 = .ok (.ireturn, 1) := by decide +kernel
theorem dX6_told_115 : decode cX6_told 115 = .ok (.aload_n 0, 1) := by decide +kernel
theorem dX6_told_116 : decode cX6_told 116 = .ok (.getfield 7, 3) := by decide +kernel
theorem dX6_told_119 : decode cX6_told 119 = .ok (.bipush 84, 2) := by decide +kernel
theorem dX6_told_121 : decode cX6_told 121 = .ok (.iload_n 1, 1) := by decide +kernel
theorem dX6_told_122 : decode cX6_told 122 = .ok (.iadd, 1) := by decide +kernel
theorem dX6_told_123 : decode cX6_told 123 = .ok (.iaload, 1) := by decide +kernel
theorem dX6_told_124 : decode cX6_told 124 = .ok (.invokestatic 146, 3) := by decide +kernel
theorem dX6_told_127 : decode cX6_told 127 = .ok (.ireturn, 1) := by decide +kernel
theorem dX6_told_128 : decode cX6_told 128 = .ok (.bipush (-2), 2) := by decide +kernel
theorem dX6_told_130 : decode cX6_told 130 = .ok (.ireturn, 1) := by decide +kernel
theorem dX6_seen_0 : decode cX6_seen 0 = .ok (.iload_n 1, 1) := by decide +kernel
theorem dX6_seen_1 : decode cX6_seen 1 = .ok (.invokestatic 58, 3) := by decide +kernel
theorem dX6_seen_4 : decode cX6_seen 4 = .ok (.ifCond .eq 10, 3) := by decide +kernel
theorem dX6_seen_7 : decode cX6_seen 7 = .ok (.iload_n 2, 1) := by decide +kernel
theorem dX6_seen_8 : decode cX6_seen 8 = .ok (.invokestatic 58, 3) := by decide +kernel
theorem dX6_seen_11 : decode cX6_seen 11 = .ok (.ifCond .ne 5, 3) := by decide +kernel
theorem dX6_seen_14 : decode cX6_seen 14 = .ok (.iconst (-1), 1) := by decide +kernel
theorem dX6_seen_15 : decode cX6_seen 15 = .ok (.ireturn, 1) := by decide +kernel
theorem dX6_seen_16 : decode cX6_seen 16 = .ok (.iload_n 1, 1) := by decide +kernel
theorem dX6_seen_17 : decode cX6_seen 17 = .ok (.iload_n 2, 1) := by decide +kernel
theorem dX6_seen_18 : decode cX6_seen 18 = .ok (.if_icmp .ne 6, 3) := by decide +kernel
theorem dX6_seen_21 : decode cX6_seen 21 = .ok (.bipush (-2), 2) := by decide +kernel
theorem dX6_seen_23 : decode cX6_seen 23 = .ok (.ireturn, 1) := by decide +kernel
theorem dX6_seen_24 : decode cX6_seen 24 = .ok (.aload_n 0, 1) := by decide +kernel
theorem dX6_seen_25 : decode cX6_seen 25 = .ok (.getfield 7, 3) := by decide +kernel
theorem dX6_seen_28 : decode cX6_seen 28 = .ok (.bipush 84, 2) := by decide +kernel
theorem dX6_seen_30 : decode cX6_seen 30 = .ok (.iload_n 1, 1) := by decide +kernel
theorem dX6_seen_31 : decode cX6_seen 31 = .ok (.iadd, 1) := by decide +kernel
theorem dX6_seen_32 : decode cX6_seen 32 = .ok (.iaload, 1) := by decide +kernel
theorem dX6_seen_33 : decode cX6_seen 33 = .ok (.iload_n 2, 1) := by decide +kernel
theorem dX6_seen_34 : decode cX6_seen 34 = .ok (.ishr, 1) := by decide +kernel
theorem dX6_seen_35 : decode cX6_seen 35 = .ok (.iconst 1, 1) := by decide +kernel
theorem dX6_seen_36 : decode cX6_seen 36 = .ok (.iand, 1) := by decide +kernel
theorem dX6_seen_37 : decode cX6_seen 37 = .ok (.iconst 1, 1) := by decide +kernel
theorem dX6_seen_38 : decode cX6_seen 38 = .ok (.if_icmp .ne 23, 3) := by decide +kernel
theorem dX6_seen_41 : decode cX6_seen 41 = .ok (.aload_n 0, 1) := by decide +kernel
theorem dX6_seen_42 : decode cX6_seen 42 = .ok (.getfield 7, 3) := by decide +kernel
theorem dX6_seen_45 : decode cX6_seen 45 = .ok (.bipush 96, 2) := by decide +kernel
theorem dX6_seen_47 : decode cX6_seen 47 = .ok (.bipush 6, 2) := by decide +kernel
theorem dX6_seen_49 : decode cX6_seen 49 = .ok (.iload_n 1, 1) := by decide +kernel
theorem dX6_seen_50 : decode cX6_seen 50 = .ok (.imul, 1) := by decide +kernel
theorem dX6_seen_51 : decode cX6_seen 51 = .ok (.iadd, 1) := by decide +kernel
theorem dX6_seen_52 : decode cX6_seen 52 = .ok (.iload_n 2, 1) := by decide +kernel
theorem dX6_seen_53 : decode cX6_seen 53 = .ok (.iadd, 1) := by decide +kernel
theorem dX6_seen_54 : decode cX6_seen 54 = .ok (.iaload, 1) := by decide +kernel
theorem dX6_seen_55 : decode cX6_seen 55 = .ok (.ldc 145, 2) := by decide +kernel
theorem dX6_seen_57 : decode cX6_seen 57 = .ok (.iadd, 1) := by decide +kernel
theorem dX6_seen_58 : decode cX6_seen 58 = .ok (.goto 5, 3) := by decide +kernel
theorem dX6_seen_61 : decode cX6_seen 61 = .ok (.bipush (-6), 2) := by decide +kernel
theorem dX6_seen_63 : decode cX6_seen 63 = .ok (.ireturn, 1) := by decide +kernel
theorem dX6_isWithin_0 : decode cX6_isWithin 0 = .ok (.iload_n 0, 1) := by decide +kernel
theorem dX6_isWithin_1 : decode cX6_isWithin 1 = .ok (.sipush (-5000), 3) := by decide +kernel
theorem dX6_isWithin_4 : decode cX6_isWithin 4 = .ok (.sipush 5000, 3) := by decide +kernel
theorem dX6_isWithin_7 : decode cX6_isWithin 7 = .ok (.invokestatic 50, 3) := by decide +kernel
theorem dX6_isWithin_10 : decode cX6_isWithin 10 = .ok (.ireturn, 1) := by decide +kernel
theorem dX6_trim_0 : decode cX6_trim 0 = .ok (.iload_n 1, 1) := by decide +kernel
theorem dX6_trim_1 : decode cX6_trim 1 = .ok (.iconst 1, 1) := by decide +kernel
theorem dX6_trim_2 : decode cX6_trim 2 = .ok (.iconst 4, 1) := by decide +kernel
theorem dX6_trim_3 : decode cX6_trim 3 = .ok (.invokestatic 50, 3) := by decide +kernel
theorem dX6_trim_6 : decode cX6_trim 6 = .ok (.ifCond .eq 48, 3) := by decide +kernel
theorem dX6_trim_9 : decode cX6_trim 9 = .ok (.iload_n 2, 1) := by decide +kernel
theorem dX6_trim_10 : decode cX6_trim 10 = .ok (.invokestatic 149, 3) := by decide +kernel
theorem dX6_trim_13 : decode cX6_trim 13 = .ok (.ifCond .eq 41, 3) := by decide +kernel
theorem dX6_trim_16 : decode cX6_trim 16 = .ok (.iload_n 1, 1) := by decide +kernel
theorem dX6_trim_17 : decode cX6_trim 17 = .ok (.iconst 1, 1) := by decide +kernel
theorem dX6_trim_18 : decode cX6_trim 18 = .ok (.if_icmp .le 10, 3) := by decide +kernel
theorem dX6_trim_21 : decode cX6_trim 21 = .ok (.iload_n 3, 1) := by decide +kernel
theorem dX6_trim_22 : decode cX6_trim 22 = .ok (.invokestatic 149, 3) := by decide +kernel
theorem dX6_trim_25 : decode cX6_trim 25 = .ok (.ifCond .eq 29, 3) := by decide +kernel
theorem dX6_trim_28 : decode cX6_trim 28 = .ok (.iload_n 1, 1) := by decide +kernel
theorem dX6_trim_29 : decode cX6_trim 29 = .ok (.iconst 2, 1) := by decide +kernel
theorem dX6_trim_30 : decode cX6_trim 30 = .ok (.if_icmp .le 11, 3) := by decide +kernel
theorem dX6_trim_33 : decode cX6_trim 33 = .ok (.iload 4, 2) := by decide +kernel
theorem dX6_trim_35 : decode cX6_trim 35 = .ok (.invokestatic 149, 3) := by decide +kernel
theorem dX6_trim_38 : decode cX6_trim 38 = .ok (.ifCond .eq 16, 3) := by decide +kernel
theorem dX6_trim_41 : decode cX6_trim 41 = .ok (.iload_n 1, 1) := by decide +kernel
theorem dX6_trim_42 : decode cX6_trim 42 = .ok (.iconst 3, 1) := by decide +kernel
theorem dX6_trim_43 : decode cX6_trim 43 = .ok (.if_icmp .le 14, 3) := by decide +kernel
theorem dX6_trim_46 : decode cX6_trim 46 = .ok (.iload 5, 2) := by decide +kernel
theorem dX6_trim_48 : decode cX6_trim 48 = .ok (.invokestatic 149, 3) := by decide +kernel
theorem dX6_trim_51 : decode cX6_trim 51 = .ok (.ifCond .ne 6, 3) := by decide +kernel
theorem dX6_trim_54 : decode cX6_trim 54 = .ok (.bipush (-2), 2) := by decide +kernel
theorem dX6_trim_56 : decode cX6_trim 56 = .ok (.ireturn, 1) := by decide +kernel
theorem dX6_trim_57 : decode cX6_trim 57 = .ok (.aload_n 0, 1) := by decide +kernel
theorem dX6_trim_58 : decode cX6_trim 58 = .ok (.iconst 0, 1) := by decide +kernel
theorem dX6_trim_59 : decode cX6_trim 59 = .ok (.putfield 72, 3) := by decide +kernel
theorem dX6_trim_62 : decode cX6_trim 62 = .ok (.aload_n 0, 1) := by decide +kernel
theorem dX6_trim_63 : decode cX6_trim 63 = .ok (.iload_n 2, 1) := by decide +kernel
theorem dX6_trim_64 : decode cX6_trim 64 = .ok (.invokevirtual 95, 3) := by decide +kernel
theorem dX6_trim_67 : decode cX6_trim 67 = .ok (.iload_n 1, 1) := by decide +kernel
theorem dX6_trim_68 : decode cX6_trim 68 = .ok (.iconst 1, 1) := by decide +kernel
theorem dX6_trim_69 : decode cX6_trim 69 = .ok (.if_icmp .le 8, 3) := by decide +kernel
theorem dX6_trim_72 : decode cX6_trim 72 = .ok (.aload_n 0, 1) := by decide +kernel
theorem dX6_trim_73 : decode cX6_trim 73 = .ok (.iload_n 3, 1) := by decide +kernel
theorem dX6_trim_74 : decode cX6_trim 74 = .ok (.invokevirtual 95, 3) := by decide +kernel
theorem dX6_trim_77 : decode cX6_trim 77 = .ok (.iload_n 1, 1) := by decide +kernel
theorem dX6_trim_78 : decode cX6_trim 78 = .ok (.iconst 2, 1) := by decide +kernel
theorem dX6_trim_79 : decode cX6_trim 79 = .ok (.if_icmp .le 9, 3) := by decide +kernel
theorem dX6_trim_82 : decode cX6_trim 82 = .ok (.aload_n 0, 1) := by decide +kernel
theorem dX6_trim_83 : decode cX6_trim 83 = .ok (.iload 4, 2) := by decide +kernel
theorem dX6_trim_85 : decode cX6_trim 85 = .ok (.invokevirtual 95, 3) := by decide +kernel
theorem dX6_trim_88 : decode cX6_trim 88 = .ok (.iload_n 1, 1) := by decide +kernel
theorem dX6_trim_89 : decode cX6_trim 89 = .ok (.iconst 3, 1) := by decide +kernel
theorem dX6_trim_90 : decode cX6_trim 90 = .ok (.if_icmp .le 9, 3) := by decide +kernel
theorem dX6_trim_93 : decode cX6_trim 93 = .ok (.aload_n 0, 1) := by decide +kernel
theorem dX6_trim_94 : decode cX6_trim 94 = .ok (.iload 5, 2) := by decide +kernel
theorem dX6_trim_96 : decode cX6_trim 96 = .ok (.invokevirtual 95, 3) := by decide +kernel
theorem dX6_trim_99 : decode cX6_trim 99 = .ok (.aload_n 0, 1) := by decide +kernel
theorem dX6_trim_100 : decode cX6_trim 100 = .ok (.invokevirtual 98, 3) := by decide +kernel
theorem dX6_trim_103 : decode cX6_trim 103 = .ok (.ldc 145, 2) := by decide +kernel
theorem dX6_trim_105 : decode cX6_trim 105 = .ok (.iadd, 1) := by decide +kernel
theorem dX6_trim_106 : decode cX6_trim 106 = .ok (.ireturn, 1) := by decide +kernel
theorem dX6_event_0 : decode cX6_event 0 = .ok (.iload_n 2, 1) := by decide +kernel
theorem dX6_event_1 : decode cX6_event 1 = .ok (.iconst 0, 1) := by decide +kernel
theorem dX6_event_2 : decode cX6_event 2 = .ok (.iconst 2, 1) := by decide +kernel
theorem dX6_event_3 : decode cX6_event 3 = .ok (.invokestatic 50, 3) := by decide +kernel
theorem dX6_event_6 : decode cX6_event 6 = .ok (.ifCond .ne 6, 3) := by decide +kernel
theorem dX6_event_9 : decode cX6_event 9 = .ok (.bipush (-2), 2) := by decide +kernel
theorem dX6_event_11 : decode cX6_event 11 = .ok (.ireturn, 1) := by decide +kernel
theorem dX6_event_12 : decode cX6_event 12 = .ok (.iload_n 1, 1) := by decide +kernel
theorem dX6_event_13 : decode cX6_event 13 = .ok (.iconst (-1), 1) := by decide +kernel
theorem dX6_event_14 : decode cX6_event 14 = .ok (.if_icmp .ne 14, 3) := by decide +kernel
theorem dX6_event_17 : decode cX6_event 17 = .ok (.aload_n 0, 1) := by decide +kernel
theorem dX6_event_18 : decode cX6_event 18 = .ok (.getfield 7, 3) := by decide +kernel
theorem dX6_event_21 : decode cX6_event 21 = .ok (.sipush 135, 3) := by decide +kernel
theorem dX6_event_24 : decode cX6_event 24 = .ok (.iaload, 1) := by decide +kernel
theorem dX6_event_25 : decode cX6_event 25 = .ok (.goto 40, 3) := by decide +kernel
theorem dX6_event_28 : decode cX6_event 28 = .ok (.iload_n 1, 1) := by decide +kernel
theorem dX6_event_29 : decode cX6_event 29 = .ok (.iconst 0, 1) := by decide +kernel
theorem dX6_event_30 : decode cX6_event 30 = .ok (.aload_n 0, 1) := by decide +kernel
theorem dX6_event_31 : decode cX6_event 31 = .ok (.getfield 7, 3) := by decide +kernel
theorem dX6_event_34 : decode cX6_event 34 = .ok (.sipush 135, 3) := by decide +kernel
theorem dX6_event_37 : decode cX6_event 37 = .ok (.iaload, 1) := by decide +kernel
theorem dX6_event_38 : decode cX6_event 38 = .ok (.iconst 1, 1) := by decide +kernel
theorem dX6_event_39 : decode cX6_event 39 = .ok (.isub, 1) := by decide +kernel
theorem dX6_event_40 : decode cX6_event 40 = .ok (.invokestatic 50, 3) := by decide +kernel
theorem dX6_event_43 : decode cX6_event 43 = .ok (.ifCond .eq 20, 3) := by decide +kernel
theorem dX6_event_46 : decode cX6_event 46 = .ok (.aload_n 0, 1) := by decide +kernel
theorem dX6_event_47 : decode cX6_event 47 = .ok (.getfield 7, 3) := by decide +kernel
theorem dX6_event_50 : decode cX6_event 50 = .ok (.sipush 136, 3) := by decide +kernel
theorem dX6_event_53 : decode cX6_event 53 = .ok (.iconst 3, 1) := by decide +kernel
theorem dX6_event_54 : decode cX6_event 54 = .ok (.iload_n 1, 1) := by decide +kernel
theorem dX6_event_55 : decode cX6_event 55 = .ok (.imul, 1) := by decide +kernel
theorem dX6_event_56 : decode cX6_event 56 = .ok (.iadd, 1) := by decide +kernel
theorem dX6_event_57 : decode cX6_event 57 = .ok (.iload_n 2, 1) := by decide +kernel
theorem dX6_event_58 : decode cX6_event 58 = .ok (.iadd, 1) := by decide +kernel
theorem dX6_event_59 : decode cX6_event 59 = .ok (.iaload, 1) := by decide +kernel
theorem dX6_event_60 : decode cX6_event 60 = .ok (.goto 5, 3) := by decide +kernel
theorem dX6_event_63 : decode cX6_event 63 = .ok (.bipush (-6), 2) := by decide +kernel
theorem dX6_event_65 : decode cX6_event 65 = .ok (.ireturn, 1) := by decide +kernel
theorem dX6_spreadBut_0 : decode cX6_spreadBut 0 = .ok (.iconst 0, 1) := by decide +kernel
theorem dX6_spreadBut_1 : decode cX6_spreadBut 1 = .ok (.istore_n 2, 1) := by decide +kernel
theorem dX6_spreadBut_2 : decode cX6_spreadBut 2 = .ok (.iconst 0, 1) := by decide +kernel
theorem dX6_spreadBut_3 : decode cX6_spreadBut 3 = .ok (.istore_n 3, 1) := by decide +kernel
theorem dX6_spreadBut_4 : decode cX6_spreadBut 4 = .ok (.iconst 0, 1) := by decide +kernel
theorem dX6_spreadBut_5 : decode cX6_spreadBut 5 = .ok (.istore 4, 2) := by decide +kernel
theorem dX6_spreadBut_7 : decode cX6_spreadBut 7 = .ok (.iconst 0, 1) := by decide +kernel
theorem dX6_spreadBut_8 : decode cX6_spreadBut 8 = .ok (.istore 5, 2) := by decide +kernel
theorem dX6_spreadBut_10 : decode cX6_spreadBut 10 = .ok (.iload 5, 2) := by decide +kernel
theorem dX6_spreadBut_12 : decode cX6_spreadBut 12 = .ok (.bipush 6, 2) := by decide +kernel
theorem dX6_spreadBut_14 : decode cX6_spreadBut 14 = .ok (.if_icmp .ge 97, 3) := by decide +kernel
theorem dX6_spreadBut_17 : decode cX6_spreadBut 17 = .ok (.iload 5, 2) := by decide +kernel
theorem dX6_spreadBut_19 : decode cX6_spreadBut 19 = .ok (.iload_n 1, 1) := by decide +kernel
theorem dX6_spreadBut_20 : decode cX6_spreadBut 20 = .ok (.if_icmp .eq 85, 3) := by decide +kernel
theorem dX6_spreadBut_23 : decode cX6_spreadBut 23 = .ok (.aload_n 0, 1) := by decide +kernel
theorem dX6_spreadBut_24 : decode cX6_spreadBut 24 = .ok (.iload 5, 2) := by decide +kernel
theorem dX6_spreadBut_26 : decode cX6_spreadBut 26 = .ok (.iconst 4, 1) := by decide +kernel
theorem dX6_spreadBut_27 : decode cX6_spreadBut 27 = .ok (.invokevirtual 54, 3) := by decide +kernel
theorem dX6_spreadBut_30 : decode cX6_spreadBut 30 = .ok (.ifCond .eq 75, 3) := by decide +kernel
theorem dX6_spreadBut_33 : decode cX6_spreadBut 33 = .ok (.iload_n 2, 1) := by decide +kernel
theorem dX6_spreadBut_34 : decode cX6_spreadBut 34 = .ok (.ifCond .eq 17, 3) := by decide +kernel
theorem dX6_spreadBut_37 : decode cX6_spreadBut 37 = .ok (.aload_n 0, 1) := by decide +kernel
theorem dX6_spreadBut_38 : decode cX6_spreadBut 38 = .ok (.getfield 7, 3) := by decide +kernel
theorem dX6_spreadBut_41 : decode cX6_spreadBut 41 = .ok (.bipush 60, 2) := by decide +kernel
theorem dX6_spreadBut_43 : decode cX6_spreadBut 43 = .ok (.iload 5, 2) := by decide +kernel
theorem dX6_spreadBut_45 : decode cX6_spreadBut 45 = .ok (.iadd, 1) := by decide +kernel
theorem dX6_spreadBut_46 : decode cX6_spreadBut 46 = .ok (.iaload, 1) := by decide +kernel
theorem dX6_spreadBut_47 : decode cX6_spreadBut 47 = .ok (.iload_n 3, 1) := by decide +kernel
theorem dX6_spreadBut_48 : decode cX6_spreadBut 48 = .ok (.if_icmp .ge 16, 3) := by decide +kernel
theorem dX6_spreadBut_51 : decode cX6_spreadBut 51 = .ok (.aload_n 0, 1) := by decide +kernel
theorem dX6_spreadBut_52 : decode cX6_spreadBut 52 = .ok (.getfield 7, 3) := by decide +kernel
theorem dX6_spreadBut_55 : decode cX6_spreadBut 55 = .ok (.bipush 60, 2) := by decide +kernel
theorem dX6_spreadBut_57 : decode cX6_spreadBut 57 = .ok (.iload 5, 2) := by decide +kernel
theorem dX6_spreadBut_59 : decode cX6_spreadBut 59 = .ok (.iadd, 1) := by decide +kernel
theorem dX6_spreadBut_60 : decode cX6_spreadBut 60 = .ok (.iaload, 1) := by decide +kernel
theorem dX6_spreadBut_61 : decode cX6_spreadBut 61 = .ok (.goto 4, 3) := by decide +kernel
theorem dX6_spreadBut_64 : decode cX6_spreadBut 64 = .ok (.iload_n 3, 1) := by decide +kernel
theorem dX6_spreadBut_65 : decode cX6_spreadBut 65 = .ok (.istore_n 3, 1) := by decide +kernel
theorem dX6_spreadBut_66 : decode cX6_spreadBut 66 = .ok (.iload_n 2, 1) := by decide +kernel
theorem dX6_spreadBut_67 : decode cX6_spreadBut 67 = .ok (.ifCond .eq 18, 3) := by decide +kernel
theorem dX6_spreadBut_70 : decode cX6_spreadBut 70 = .ok (.aload_n 0, 1) := by decide +kernel
theorem dX6_spreadBut_71 : decode cX6_spreadBut 71 = .ok (.getfield 7, 3) := by decide +kernel
theorem dX6_spreadBut_74 : decode cX6_spreadBut 74 = .ok (.bipush 60, 2) := by decide +kernel
theorem dX6_spreadBut_76 : decode cX6_spreadBut 76 = .ok (.iload 5, 2) := by decide +kernel
theorem dX6_spreadBut_78 : decode cX6_spreadBut 78 = .ok (.iadd, 1) := by decide +kernel
theorem dX6_spreadBut_79 : decode cX6_spreadBut 79 = .ok (.iaload, 1) := by decide +kernel
theorem dX6_spreadBut_80 : decode cX6_spreadBut 80 = .ok (.iload 4, 2) := by decide +kernel
theorem dX6_spreadBut_82 : decode cX6_spreadBut 82 = .ok (.if_icmp .le 16, 3) := by decide +kernel
theorem dX6_spreadBut_85 : decode cX6_spreadBut 85 = .ok (.aload_n 0, 1) := by decide +kernel
theorem dX6_spreadBut_86 : decode cX6_spreadBut 86 = .ok (.getfield 7, 3) := by decide +kernel
theorem dX6_spreadBut_89 : decode cX6_spreadBut 89 = .ok (.bipush 60, 2) := by decide +kernel
theorem dX6_spreadBut_91 : decode cX6_spreadBut 91 = .ok (.iload 5, 2) := by decide +kernel
theorem dX6_spreadBut_93 : decode cX6_spreadBut 93 = .ok (.iadd, 1) := by decide +kernel
theorem dX6_spreadBut_94 : decode cX6_spreadBut 94 = .ok (.iaload, 1) := by decide +kernel
theorem dX6_spreadBut_95 : decode cX6_spreadBut 95 = .ok (.goto 5, 3) := by decide +kernel
theorem dX6_spreadBut_98 : decode cX6_spreadBut 98 = .ok (.iload 4, 2) := by decide +kernel
theorem dX6_spreadBut_100 : decode cX6_spreadBut 100 = .ok (.istore 4, 2) := by decide +kernel
theorem dX6_spreadBut_102 : decode cX6_spreadBut 102 = .ok (.iinc 2 1, 3) := by decide +kernel
theorem dX6_spreadBut_105 : decode cX6_spreadBut 105 = .ok (.iinc 5 1, 3) := by decide +kernel
theorem dX6_spreadBut_108 : decode cX6_spreadBut 108 = .ok (.goto (-98), 3) := by decide +kernel
theorem dX6_spreadBut_111 : decode cX6_spreadBut 111 = .ok (.iload 4, 2) := by decide +kernel
theorem dX6_spreadBut_113 : decode cX6_spreadBut 113 = .ok (.iload_n 3, 1) := by decide +kernel
theorem dX6_spreadBut_114 : decode cX6_spreadBut 114 = .ok (.isub, 1) := by decide +kernel
theorem dX6_spreadBut_115 : decode cX6_spreadBut 115 = .ok (.ireturn, 1) := by decide +kernel
theorem dX6_spread_0 : decode cX6_spread 0 = .ok (.aload_n 0, 1) := by decide +kernel
theorem dX6_spread_1 : decode cX6_spread 1 = .ok (.bipush (-6), 2) := by decide +kernel
theorem dX6_spread_3 : decode cX6_spread 3 = .ok (.invokevirtual 152, 3) := by decide +kernel
theorem dX6_spread_6 : decode cX6_spread 6 = .ok (.ireturn, 1) := by decide +kernel
theorem dX6_save_0 : decode cX6_save 0 = .ok (.iconst 0, 1) := by decide +kernel
theorem dX6_save_1 : decode cX6_save 1 = .ok (.istore_n 2, 1) := by decide +kernel
theorem dX6_save_2 : decode cX6_save 2 = .ok (.iload_n 2, 1) := by decide +kernel
theorem dX6_save_3 : decode cX6_save 3 = .ok (.sipush 256, 3) := by decide +kernel
theorem dX6_save_6 : decode cX6_save 6 = .ok (.if_icmp .ge 27, 3) := by decide +kernel
theorem dX6_save_9 : decode cX6_save 9 = .ok (.aload_n 0, 1) := by decide +kernel
theorem dX6_save_10 : decode cX6_save 10 = .ok (.getfield 13, 3) := by decide +kernel
theorem dX6_save_13 : decode cX6_save 13 = .ok (.sipush 256, 3) := by decide +kernel
theorem dX6_save_16 : decode cX6_save 16 = .ok (.iload_n 1, 1) := by decide +kernel
theorem dX6_save_17 : decode cX6_save 17 = .ok (.imul, 1) := by decide +kernel
theorem dX6_save_18 : decode cX6_save 18 = .ok (.iload_n 2, 1) := by decide +kernel
theorem dX6_save_19 : decode cX6_save 19 = .ok (.iadd, 1) := by decide +kernel
theorem dX6_save_20 : decode cX6_save 20 = .ok (.aload_n 0, 1) := by decide +kernel
theorem dX6_save_21 : decode cX6_save 21 = .ok (.getfield 7, 3) := by decide +kernel
theorem dX6_save_24 : decode cX6_save 24 = .ok (.iload_n 2, 1) := by decide +kernel
theorem dX6_save_25 : decode cX6_save 25 = .ok (.iaload, 1) := by decide +kernel
theorem dX6_save_26 : decode cX6_save 26 = .ok (.iastore, 1) := by decide +kernel
theorem dX6_save_27 : decode cX6_save 27 = .ok (.iinc 2 1, 3) := by decide +kernel
theorem dX6_save_30 : decode cX6_save 30 = .ok (.goto (-28), 3) := by decide +kernel
theorem dX6_save_33 : decode cX6_save 33 = .ok (.return_, 1) := by decide +kernel
theorem dX6_load_0 : decode cX6_load 0 = .ok (.iconst 0, 1) := by decide +kernel
theorem dX6_load_1 : decode cX6_load 1 = .ok (.istore_n 2, 1) := by decide +kernel
theorem dX6_load_2 : decode cX6_load 2 = .ok (.iload_n 2, 1) := by decide +kernel
theorem dX6_load_3 : decode cX6_load 3 = .ok (.sipush 256, 3) := by decide +kernel
theorem dX6_load_6 : decode cX6_load 6 = .ok (.if_icmp .ge 27, 3) := by decide +kernel
theorem dX6_load_9 : decode cX6_load 9 = .ok (.aload_n 0, 1) := by decide +kernel
theorem dX6_load_10 : decode cX6_load 10 = .ok (.getfield 7, 3) := by decide +kernel
theorem dX6_load_13 : decode cX6_load 13 = .ok (.iload_n 2, 1) := by decide +kernel
theorem dX6_load_14 : decode cX6_load 14 = .ok (.aload_n 0, 1) := by decide +kernel
theorem dX6_load_15 : decode cX6_load 15 = .ok (.getfield 13, 3) := by decide +kernel
theorem dX6_load_18 : decode cX6_load 18 = .ok (.sipush 256, 3) := by decide +kernel
theorem dX6_load_21 : decode cX6_load 21 = .ok (.iload_n 1, 1) := by decide +kernel
theorem dX6_load_22 : decode cX6_load 22 = .ok (.imul, 1) := by decide +kernel
theorem dX6_load_23 : decode cX6_load 23 = .ok (.iload_n 2, 1) := by decide +kernel
theorem dX6_load_24 : decode cX6_load 24 = .ok (.iadd, 1) := by decide +kernel
theorem dX6_load_25 : decode cX6_load 25 = .ok (.iaload, 1) := by decide +kernel
theorem dX6_load_26 : decode cX6_load 26 = .ok (.iastore, 1) := by decide +kernel
theorem dX6_load_27 : decode cX6_load 27 = .ok (.iinc 2 1, 3) := by decide +kernel
theorem dX6_load_30 : decode cX6_load 30 = .ok (.goto (-28), 3) := by decide +kernel
theorem dX6_load_33 : decode cX6_load 33 = .ok (.return_, 1) := by decide +kernel
theorem dX6_inSet_0 : decode cX6_inSet 0 = .ok (.iconst 0, 1) := by decide +kernel
theorem dX6_inSet_1 : decode cX6_inSet 1 = .ok (.istore_n 1, 1) := by decide +kernel
theorem dX6_inSet_2 : decode cX6_inSet 2 = .ok (.iconst 0, 1) := by decide +kernel
theorem dX6_inSet_3 : decode cX6_inSet 3 = .ok (.istore_n 2, 1) := by decide +kernel
theorem dX6_inSet_4 : decode cX6_inSet 4 = .ok (.iload_n 2, 1) := by decide +kernel
theorem dX6_inSet_5 : decode cX6_inSet 5 = .ok (.bipush 6, 2) := by decide +kernel
theorem dX6_inSet_7 : decode cX6_inSet 7 = .ok (.if_icmp .ge 27, 3) := by decide +kernel
theorem dX6_inSet_10 : decode cX6_inSet 10 = .ok (.iload_n 1, 1) := by decide +kernel
theorem dX6_inSet_11 : decode cX6_inSet 11 = .ok (.aload_n 0, 1) := by decide +kernel
theorem dX6_inSet_12 : decode cX6_inSet 12 = .ok (.iload_n 2, 1) := by decide +kernel
theorem dX6_inSet_13 : decode cX6_inSet 13 = .ok (.invokevirtual 65, 3) := by decide +kernel
theorem dX6_inSet_16 : decode cX6_inSet 16 = .ok (.ifCond .eq 7, 3) := by decide +kernel
theorem dX6_inSet_19 : decode cX6_inSet 19 = .ok (.iconst 0, 1) := by decide +kernel
theorem dX6_inSet_20 : decode cX6_inSet 20 = .ok (.goto 6, 3) := by decide +kernel
theorem dX6_inSet_23 : decode cX6_inSet 23 = .ok (.iconst 1, 1) := by decide +kernel
theorem dX6_inSet_24 : decode cX6_inSet 24 = .ok (.iload_n 2, 1) := by decide +kernel
theorem dX6_inSet_25 : decode cX6_inSet 25 = .ok (.ishl, 1) := by decide +kernel
theorem dX6_inSet_26 : decode cX6_inSet 26 = .ok (.ior, 1) := by decide +kernel
theorem dX6_inSet_27 : decode cX6_inSet 27 = .ok (.istore_n 1, 1) := by decide +kernel
theorem dX6_inSet_28 : decode cX6_inSet 28 = .ok (.iinc 2 1, 3) := by decide +kernel
theorem dX6_inSet_31 : decode cX6_inSet 31 = .ok (.goto (-27), 3) := by decide +kernel
theorem dX6_inSet_34 : decode cX6_inSet 34 = .ok (.iload_n 1, 1) := by decide +kernel
theorem dX6_inSet_35 : decode cX6_inSet 35 = .ok (.ireturn, 1) := by decide +kernel
theorem dX6_soon_0 : decode cX6_soon 0 = .ok (.aload_n 0, 1) := by decide +kernel
theorem dX6_soon_1 : decode cX6_soon 1 = .ok (.invokevirtual 155, 3) := by decide +kernel
theorem dX6_soon_4 : decode cX6_soon 4 = .ok (.istore_n 1, 1) := by decide +kernel
theorem dX6_soon_5 : decode cX6_soon 5 = .ok (.iload_n 1, 1) := by decide +kernel
theorem dX6_soon_6 : decode cX6_soon 6 = .ok (.ifCond .ne 6, 3) := by decide +kernel
theorem dX6_soon_9 : decode cX6_soon 9 = .ok (.bipush (-6), 2) := by decide +kernel
theorem dX6_soon_11 : decode cX6_soon 11 = .ok (.ireturn, 1) := by decide +kernel
theorem dX6_soon_12 : decode cX6_soon 12 = .ok (.aload_n 0, 1) := by decide +kernel
theorem dX6_soon_13 : decode cX6_soon 13 = .ok (.iconst 2, 1) := by decide +kernel
theorem dX6_soon_14 : decode cX6_soon 14 = .ok (.invokevirtual 158, 3) := by decide +kernel
theorem dX6_soon_17 : decode cX6_soon 17 = .ok (.iconst 0, 1) := by decide +kernel
theorem dX6_soon_18 : decode cX6_soon 18 = .ok (.istore_n 2, 1) := by decide +kernel
theorem dX6_soon_19 : decode cX6_soon 19 = .ok (.iload_n 2, 1) := by decide +kernel
theorem dX6_soon_20 : decode cX6_soon 20 = .ok (.sipush 200, 3) := by decide +kernel
theorem dX6_soon_23 : decode cX6_soon 23 = .ok (.if_icmp .ge 25, 3) := by decide +kernel
theorem dX6_soon_26 : decode cX6_soon 26 = .ok (.iload_n 1, 1) := by decide +kernel
theorem dX6_soon_27 : decode cX6_soon 27 = .ok (.aload_n 0, 1) := by decide +kernel
theorem dX6_soon_28 : decode cX6_soon 28 = .ok (.iconst 4, 1) := by decide +kernel
theorem dX6_soon_29 : decode cX6_soon 29 = .ok (.invokevirtual 142, 3) := by decide +kernel
theorem dX6_soon_32 : decode cX6_soon 32 = .ok (.iconst (-1), 1) := by decide +kernel
theorem dX6_soon_33 : decode cX6_soon 33 = .ok (.ixor, 1) := by decide +kernel
theorem dX6_soon_34 : decode cX6_soon 34 = .ok (.iand, 1) := by decide +kernel
theorem dX6_soon_35 : decode cX6_soon 35 = .ok (.ifCond .eq 13, 3) := by decide +kernel
theorem dX6_soon_38 : decode cX6_soon 38 = .ok (.aload_n 0, 1) := by decide +kernel
theorem dX6_soon_39 : decode cX6_soon 39 = .ok (.invokevirtual 139, 3) := by decide +kernel
theorem dX6_soon_42 : decode cX6_soon 42 = .ok (.iinc 2 1, 3) := by decide +kernel
theorem dX6_soon_45 : decode cX6_soon 45 = .ok (.goto (-26), 3) := by decide +kernel
theorem dX6_soon_48 : decode cX6_soon 48 = .ok (.iload_n 1, 1) := by decide +kernel
theorem dX6_soon_49 : decode cX6_soon 49 = .ok (.aload_n 0, 1) := by decide +kernel
theorem dX6_soon_50 : decode cX6_soon 50 = .ok (.iconst 4, 1) := by decide +kernel
theorem dX6_soon_51 : decode cX6_soon 51 = .ok (.invokevirtual 142, 3) := by decide +kernel
theorem dX6_soon_54 : decode cX6_soon 54 = .ok (.iconst (-1), 1) := by decide +kernel
theorem dX6_soon_55 : decode cX6_soon 55 = .ok (.ixor, 1) := by decide +kernel
theorem dX6_soon_56 : decode cX6_soon 56 = .ok (.iand, 1) := by decide +kernel
theorem dX6_soon_57 : decode cX6_soon 57 = .ok (.ifCond .ne 7, 3) := by decide +kernel
theorem dX6_soon_60 : decode cX6_soon 60 = .ok (.iconst 1, 1) := by decide +kernel
theorem dX6_soon_61 : decode cX6_soon 61 = .ok (.goto 4, 3) := by decide +kernel
theorem dX6_soon_64 : decode cX6_soon 64 = .ok (.iconst 0, 1) := by decide +kernel
theorem dX6_soon_65 : decode cX6_soon 65 = .ok (.istore_n 3, 1) := by decide +kernel
theorem dX6_soon_66 : decode cX6_soon 66 = .ok (.aload_n 0, 1) := by decide +kernel
theorem dX6_soon_67 : decode cX6_soon 67 = .ok (.iconst 2, 1) := by decide +kernel
theorem dX6_soon_68 : decode cX6_soon 68 = .ok (.invokevirtual 161, 3) := by decide +kernel
theorem dX6_soon_71 : decode cX6_soon 71 = .ok (.iload_n 3, 1) := by decide +kernel
theorem dX6_soon_72 : decode cX6_soon 72 = .ok (.ifCond .eq 7, 3) := by decide +kernel
theorem dX6_soon_75 : decode cX6_soon 75 = .ok (.iload_n 2, 1) := by decide +kernel
theorem dX6_soon_76 : decode cX6_soon 76 = .ok (.goto 5, 3) := by decide +kernel
theorem dX6_soon_79 : decode cX6_soon 79 = .ok (.bipush (-6), 2) := by decide +kernel
theorem dX6_soon_81 : decode cX6_soon 81 = .ok (.ireturn, 1) := by decide +kernel
theorem dX6_bearsOne_0 : decode cX6_bearsOne 0 = .ok (.aload_n 0, 1) := by decide +kernel
theorem dX6_bearsOne_1 : decode cX6_bearsOne 1 = .ok (.iconst 4, 1) := by decide +kernel
theorem dX6_bearsOne_2 : decode cX6_bearsOne 2 = .ok (.invokevirtual 142, 3) := by decide +kernel
theorem dX6_bearsOne_5 : decode cX6_bearsOne 5 = .ok (.iconst 1, 1) := by decide +kernel
theorem dX6_bearsOne_6 : decode cX6_bearsOne 6 = .ok (.iload_n 1, 1) := by decide +kernel
theorem dX6_bearsOne_7 : decode cX6_bearsOne 7 = .ok (.ishl, 1) := by decide +kernel
theorem dX6_bearsOne_8 : decode cX6_bearsOne 8 = .ok (.iconst (-1), 1) := by decide +kernel
theorem dX6_bearsOne_9 : decode cX6_bearsOne 9 = .ok (.ixor, 1) := by decide +kernel
theorem dX6_bearsOne_10 : decode cX6_bearsOne 10 = .ok (.iand, 1) := by decide +kernel
theorem dX6_bearsOne_11 : decode cX6_bearsOne 11 = .ok (.istore 5, 2) := by decide +kernel
theorem dX6_bearsOne_13 : decode cX6_bearsOne 13 = .ok (.aload_n 0, 1) := by decide +kernel
theorem dX6_bearsOne_14 : decode cX6_bearsOne 14 = .ok (.iconst 2, 1) := by decide +kernel
theorem dX6_bearsOne_15 : decode cX6_bearsOne 15 = .ok (.invokevirtual 158, 3) := by decide +kernel
theorem dX6_bearsOne_18 : decode cX6_bearsOne 18 = .ok (.aload_n 0, 1) := by decide +kernel
theorem dX6_bearsOne_19 : decode cX6_bearsOne 19 = .ok (.getfield 7, 3) := by decide +kernel
theorem dX6_bearsOne_22 : decode cX6_bearsOne 22 = .ok (.bipush 24, 2) := by decide +kernel
theorem dX6_bearsOne_24 : decode cX6_bearsOne 24 = .ok (.iload_n 1, 1) := by decide +kernel
theorem dX6_bearsOne_25 : decode cX6_bearsOne 25 = .ok (.iadd, 1) := by decide +kernel
theorem dX6_bearsOne_26 : decode cX6_bearsOne 26 = .ok (.iload_n 2, 1) := by decide +kernel
theorem dX6_bearsOne_27 : decode cX6_bearsOne 27 = .ok (.iastore, 1) := by decide +kernel
theorem dX6_bearsOne_28 : decode cX6_bearsOne 28 = .ok (.iconst 1, 1) := by decide +kernel
theorem dX6_bearsOne_29 : decode cX6_bearsOne 29 = .ok (.istore 6, 2) := by decide +kernel
theorem dX6_bearsOne_31 : decode cX6_bearsOne 31 = .ok (.iconst 0, 1) := by decide +kernel
theorem dX6_bearsOne_32 : decode cX6_bearsOne 32 = .ok (.istore 7, 2) := by decide +kernel
theorem dX6_bearsOne_34 : decode cX6_bearsOne 34 = .ok (.iload 7, 2) := by decide +kernel
theorem dX6_bearsOne_36 : decode cX6_bearsOne 36 = .ok (.iload_n 3, 1) := by decide +kernel
theorem dX6_bearsOne_37 : decode cX6_bearsOne 37 = .ok (.if_icmp .ge 48, 3) := by decide +kernel
theorem dX6_bearsOne_40 : decode cX6_bearsOne 40 = .ok (.iload 6, 2) := by decide +kernel
theorem dX6_bearsOne_42 : decode cX6_bearsOne 42 = .ok (.ifCond .eq 43, 3) := by decide +kernel
theorem dX6_bearsOne_45 : decode cX6_bearsOne 45 = .ok (.aload_n 0, 1) := by decide +kernel
theorem dX6_bearsOne_46 : decode cX6_bearsOne 46 = .ok (.invokevirtual 139, 3) := by decide +kernel
theorem dX6_bearsOne_49 : decode cX6_bearsOne 49 = .ok (.aload_n 0, 1) := by decide +kernel
theorem dX6_bearsOne_50 : decode cX6_bearsOne 50 = .ok (.iload_n 1, 1) := by decide +kernel
theorem dX6_bearsOne_51 : decode cX6_bearsOne 51 = .ok (.invokevirtual 152, 3) := by decide +kernel
theorem dX6_bearsOne_54 : decode cX6_bearsOne 54 = .ok (.iload 4, 2) := by decide +kernel
theorem dX6_bearsOne_56 : decode cX6_bearsOne 56 = .ok (.if_icmp .gt 20, 3) := by decide +kernel
theorem dX6_bearsOne_59 : decode cX6_bearsOne 59 = .ok (.iload 5, 2) := by decide +kernel
theorem dX6_bearsOne_61 : decode cX6_bearsOne 61 = .ok (.aload_n 0, 1) := by decide +kernel
theorem dX6_bearsOne_62 : decode cX6_bearsOne 62 = .ok (.iconst 4, 1) := by decide +kernel
theorem dX6_bearsOne_63 : decode cX6_bearsOne 63 = .ok (.invokevirtual 142, 3) := by decide +kernel
theorem dX6_bearsOne_66 : decode cX6_bearsOne 66 = .ok (.iconst (-1), 1) := by decide +kernel
theorem dX6_bearsOne_67 : decode cX6_bearsOne 67 = .ok (.ixor, 1) := by decide +kernel
theorem dX6_bearsOne_68 : decode cX6_bearsOne 68 = .ok (.iand, 1) := by decide +kernel
theorem dX6_bearsOne_69 : decode cX6_bearsOne 69 = .ok (.ifCond .ne 7, 3) := by decide +kernel
theorem dX6_bearsOne_72 : decode cX6_bearsOne 72 = .ok (.iconst 1, 1) := by decide +kernel
theorem dX6_bearsOne_73 : decode cX6_bearsOne 73 = .ok (.goto 4, 3) := by decide +kernel
theorem dX6_bearsOne_76 : decode cX6_bearsOne 76 = .ok (.iconst 0, 1) := by decide +kernel
theorem dX6_bearsOne_77 : decode cX6_bearsOne 77 = .ok (.istore 6, 2) := by decide +kernel
theorem dX6_bearsOne_79 : decode cX6_bearsOne 79 = .ok (.iinc 7 1, 3) := by decide +kernel
theorem dX6_bearsOne_82 : decode cX6_bearsOne 82 = .ok (.goto (-48), 3) := by decide +kernel
theorem dX6_bearsOne_85 : decode cX6_bearsOne 85 = .ok (.aload_n 0, 1) := by decide +kernel
theorem dX6_bearsOne_86 : decode cX6_bearsOne 86 = .ok (.iconst 2, 1) := by decide +kernel
theorem dX6_bearsOne_87 : decode cX6_bearsOne 87 = .ok (.invokevirtual 161, 3) := by decide +kernel
theorem dX6_bearsOne_90 : decode cX6_bearsOne 90 = .ok (.iload 6, 2) := by decide +kernel
theorem dX6_bearsOne_92 : decode cX6_bearsOne 92 = .ok (.ireturn, 1) := by decide +kernel
theorem dX6_bears_0 : decode cX6_bears 0 = .ok (.iload_n 1, 1) := by decide +kernel
theorem dX6_bears_1 : decode cX6_bears 1 = .ok (.invokestatic 58, 3) := by decide +kernel
theorem dX6_bears_4 : decode cX6_bears 4 = .ok (.ifCond .ne 5, 3) := by decide +kernel
theorem dX6_bears_7 : decode cX6_bears 7 = .ok (.iconst (-1), 1) := by decide +kernel
theorem dX6_bears_8 : decode cX6_bears 8 = .ok (.ireturn, 1) := by decide +kernel
theorem dX6_bears_9 : decode cX6_bears 9 = .ok (.iload_n 2, 1) := by decide +kernel
theorem dX6_bears_10 : decode cX6_bears 10 = .ok (.iconst 1, 1) := by decide +kernel
theorem dX6_bears_11 : decode cX6_bears 11 = .ok (.bipush 40, 2) := by decide +kernel
theorem dX6_bears_13 : decode cX6_bears 13 = .ok (.invokestatic 50, 3) := by decide +kernel
theorem dX6_bears_16 : decode cX6_bears 16 = .ok (.ifCond .eq 14, 3) := by decide +kernel
theorem dX6_bears_19 : decode cX6_bears 19 = .ok (.iload_n 3, 1) := by decide +kernel
theorem dX6_bears_20 : decode cX6_bears 20 = .ok (.iconst 0, 1) := by decide +kernel
theorem dX6_bears_21 : decode cX6_bears 21 = .ok (.sipush 999, 3) := by decide +kernel
theorem dX6_bears_24 : decode cX6_bears 24 = .ok (.invokestatic 50, 3) := by decide +kernel
theorem dX6_bears_27 : decode cX6_bears 27 = .ok (.ifCond .ne 6, 3) := by decide +kernel
theorem dX6_bears_30 : decode cX6_bears 30 = .ok (.bipush (-2), 2) := by decide +kernel
theorem dX6_bears_32 : decode cX6_bears 32 = .ok (.ireturn, 1) := by decide +kernel
theorem dX6_bears_33 : decode cX6_bears 33 = .ok (.sipush 400, 3) := by decide +kernel
theorem dX6_bears_36 : decode cX6_bears 36 = .ok (.istore 4, 2) := by decide +kernel
theorem dX6_bears_38 : decode cX6_bears 38 = .ok (.iload 4, 2) := by decide +kernel
theorem dX6_bears_40 : decode cX6_bears 40 = .ok (.ifCond .lt 24, 3) := by decide +kernel
theorem dX6_bears_43 : decode cX6_bears 43 = .ok (.aload_n 0, 1) := by decide +kernel
theorem dX6_bears_44 : decode cX6_bears 44 = .ok (.iload_n 1, 1) := by decide +kernel
theorem dX6_bears_45 : decode cX6_bears 45 = .ok (.iload 4, 2) := by decide +kernel
theorem dX6_bears_47 : decode cX6_bears 47 = .ok (.iload_n 2, 1) := by decide +kernel
theorem dX6_bears_48 : decode cX6_bears 48 = .ok (.iload_n 3, 1) := by decide +kernel
theorem dX6_bears_49 : decode cX6_bears 49 = .ok (.invokevirtual 164, 3) := by decide +kernel
theorem dX6_bears_52 : decode cX6_bears 52 = .ok (.ifCond .eq 6, 3) := by decide +kernel
theorem dX6_bears_55 : decode cX6_bears 55 = .ok (.iload 4, 2) := by decide +kernel
theorem dX6_bears_57 : decode cX6_bears 57 = .ok (.ireturn, 1) := by decide +kernel
theorem dX6_bears_58 : decode cX6_bears 58 = .ok (.iinc 4 (-10), 3) := by decide +kernel
theorem dX6_bears_61 : decode cX6_bears 61 = .ok (.goto (-23), 3) := by decide +kernel
theorem dX6_bears_64 : decode cX6_bears 64 = .ok (.bipush (-6), 2) := by decide +kernel
theorem dX6_bears_66 : decode cX6_bears 66 = .ok (.ireturn, 1) := by decide +kernel
theorem dX6_image_0 : decode cX6_image 0 = .ok (.iload_n 1, 1) := by decide +kernel
theorem dX6_image_1 : decode cX6_image 1 = .ok (.iconst 0, 1) := by decide +kernel
theorem dX6_image_2 : decode cX6_image 2 = .ok (.iconst 1, 1) := by decide +kernel
theorem dX6_image_3 : decode cX6_image 3 = .ok (.invokestatic 50, 3) := by decide +kernel
theorem dX6_image_6 : decode cX6_image 6 = .ok (.ifCond .ne 6, 3) := by decide +kernel
theorem dX6_image_9 : decode cX6_image 9 = .ok (.bipush (-2), 2) := by decide +kernel
theorem dX6_image_11 : decode cX6_image 11 = .ok (.ireturn, 1) := by decide +kernel
theorem dX6_image_12 : decode cX6_image 12 = .ok (.aload_n 0, 1) := by decide +kernel
theorem dX6_image_13 : decode cX6_image 13 = .ok (.iload_n 1, 1) := by decide +kernel
theorem dX6_image_14 : decode cX6_image 14 = .ok (.invokevirtual 158, 3) := by decide +kernel
theorem dX6_image_17 : decode cX6_image 17 = .ok (.aload_n 0, 1) := by decide +kernel
theorem dX6_image_18 : decode cX6_image 18 = .ok (.getfield 16, 3) := by decide +kernel
theorem dX6_image_21 : decode cX6_image 21 = .ok (.iload_n 1, 1) := by decide +kernel
theorem dX6_image_22 : decode cX6_image 22 = .ok (.iconst 1, 1) := by decide +kernel
theorem dX6_image_23 : decode cX6_image 23 = .ok (.bastore, 1) := by decide +kernel
theorem dX6_image_24 : decode cX6_image 24 = .ok (.iconst 1, 1) := by decide +kernel
theorem dX6_image_25 : decode cX6_image 25 = .ok (.ireturn, 1) := by decide +kernel
theorem dX6_restore_0 : decode cX6_restore 0 = .ok (.iload_n 1, 1) := by decide +kernel
theorem dX6_restore_1 : decode cX6_restore 1 = .ok (.iconst 0, 1) := by decide +kernel
theorem dX6_restore_2 : decode cX6_restore 2 = .ok (.iconst 1, 1) := by decide +kernel
theorem dX6_restore_3 : decode cX6_restore 3 = .ok (.invokestatic 50, 3) := by decide +kernel
theorem dX6_restore_6 : decode cX6_restore 6 = .ok (.ifCond .ne 6, 3) := by decide +kernel
theorem dX6_restore_9 : decode cX6_restore 9 = .ok (.bipush (-2), 2) := by decide +kernel
theorem dX6_restore_11 : decode cX6_restore 11 = .ok (.ireturn, 1) := by decide +kernel
theorem dX6_restore_12 : decode cX6_restore 12 = .ok (.aload_n 0, 1) := by decide +kernel
theorem dX6_restore_13 : decode cX6_restore 13 = .ok (.getfield 16, 3) := by decide +kernel
theorem dX6_restore_16 : decode cX6_restore 16 = .ok (.iload_n 1, 1) := by decide +kernel
theorem dX6_restore_17 : decode cX6_restore 17 = .ok (.baload, 1) := by decide +kernel
theorem dX6_restore_18 : decode cX6_restore 18 = .ok (.ifCond .ne 6, 3) := by decide +kernel
theorem dX6_restore_21 : decode cX6_restore 21 = .ok (.bipush (-3), 2) := by decide +kernel
theorem dX6_restore_23 : decode cX6_restore 23 = .ok (.ireturn, 1) := by decide +kernel
theorem dX6_restore_24 : decode cX6_restore 24 = .ok (.aload_n 0, 1) := by decide +kernel
theorem dX6_restore_25 : decode cX6_restore 25 = .ok (.iload_n 1, 1) := by decide +kernel
theorem dX6_restore_26 : decode cX6_restore 26 = .ok (.invokevirtual 161, 3) := by decide +kernel
theorem dX6_restore_29 : decode cX6_restore 29 = .ok (.iconst 1, 1) := by decide +kernel
theorem dX6_restore_30 : decode cX6_restore 30 = .ok (.ireturn, 1) := by decide +kernel
theorem dX6_count_0 : decode cX6_count 0 = .ok (.iload_n 1, 1) := by decide +kernel
theorem dX6_count_1 : decode cX6_count 1 = .ok (.tableswitch 109 0 5 #[39, 48, 57, 63, 70, 79], 39) := by decide +kernel
theorem dX6_count_40 : decode cX6_count 40 = .ok (.aload_n 0, 1) := by decide +kernel
theorem dX6_count_41 : decode cX6_count 41 = .ok (.getfield 7, 3) := by decide +kernel
theorem dX6_count_44 : decode cX6_count 44 = .ok (.sipush 133, 3) := by decide +kernel
theorem dX6_count_47 : decode cX6_count 47 = .ok (.iaload, 1) := by decide +kernel
theorem dX6_count_48 : decode cX6_count 48 = .ok (.ireturn, 1) := by decide +kernel
theorem dX6_count_49 : decode cX6_count 49 = .ok (.aload_n 0, 1) := by decide +kernel
theorem dX6_count_50 : decode cX6_count 50 = .ok (.getfield 7, 3) := by decide +kernel
theorem dX6_count_53 : decode cX6_count 53 = .ok (.sipush 134, 3) := by decide +kernel
theorem dX6_count_56 : decode cX6_count 56 = .ok (.iaload, 1) := by decide +kernel
theorem dX6_count_57 : decode cX6_count 57 = .ok (.ireturn, 1) := by decide +kernel
theorem dX6_count_58 : decode cX6_count 58 = .ok (.aload_n 0, 1) := by decide +kernel
theorem dX6_count_59 : decode cX6_count 59 = .ok (.iconst 4, 1) := by decide +kernel
theorem dX6_count_60 : decode cX6_count 60 = .ok (.invokevirtual 142, 3) := by decide +kernel
theorem dX6_count_63 : decode cX6_count 63 = .ok (.ireturn, 1) := by decide +kernel
theorem dX6_count_64 : decode cX6_count 64 = .ok (.aload_n 0, 1) := by decide +kernel
theorem dX6_count_65 : decode cX6_count 65 = .ok (.bipush 6, 2) := by decide +kernel
theorem dX6_count_67 : decode cX6_count 67 = .ok (.invokevirtual 142, 3) := by decide +kernel
theorem dX6_count_70 : decode cX6_count 70 = .ok (.ireturn, 1) := by decide +kernel
theorem dX6_count_71 : decode cX6_count 71 = .ok (.aload_n 0, 1) := by decide +kernel
theorem dX6_count_72 : decode cX6_count 72 = .ok (.getfield 7, 3) := by decide +kernel
theorem dX6_count_75 : decode cX6_count 75 = .ok (.sipush 132, 3) := by decide +kernel
theorem dX6_count_78 : decode cX6_count 78 = .ok (.iaload, 1) := by decide +kernel
theorem dX6_count_79 : decode cX6_count 79 = .ok (.ireturn, 1) := by decide +kernel
theorem dX6_count_80 : decode cX6_count 80 = .ok (.aload_n 0, 1) := by decide +kernel
theorem dX6_count_81 : decode cX6_count 81 = .ok (.getfield 16, 3) := by decide +kernel
theorem dX6_count_84 : decode cX6_count 84 = .ok (.iconst 0, 1) := by decide +kernel
theorem dX6_count_85 : decode cX6_count 85 = .ok (.baload, 1) := by decide +kernel
theorem dX6_count_86 : decode cX6_count 86 = .ok (.ifCond .eq 7, 3) := by decide +kernel
theorem dX6_count_89 : decode cX6_count 89 = .ok (.iconst 1, 1) := by decide +kernel
theorem dX6_count_90 : decode cX6_count 90 = .ok (.goto 4, 3) := by decide +kernel
theorem dX6_count_93 : decode cX6_count 93 = .ok (.iconst 0, 1) := by decide +kernel
theorem dX6_count_94 : decode cX6_count 94 = .ok (.aload_n 0, 1) := by decide +kernel
theorem dX6_count_95 : decode cX6_count 95 = .ok (.getfield 16, 3) := by decide +kernel
theorem dX6_count_98 : decode cX6_count 98 = .ok (.iconst 1, 1) := by decide +kernel
theorem dX6_count_99 : decode cX6_count 99 = .ok (.baload, 1) := by decide +kernel
theorem dX6_count_100 : decode cX6_count 100 = .ok (.ifCond .eq 7, 3) := by decide +kernel
theorem dX6_count_103 : decode cX6_count 103 = .ok (.iconst 2, 1) := by decide +kernel
theorem dX6_count_104 : decode cX6_count 104 = .ok (.goto 4, 3) := by decide +kernel
theorem dX6_count_107 : decode cX6_count 107 = .ok (.iconst 0, 1) := by decide +kernel
theorem dX6_count_108 : decode cX6_count 108 = .ok (.iadd, 1) := by decide +kernel
theorem dX6_count_109 : decode cX6_count 109 = .ok (.ireturn, 1) := by decide +kernel
theorem dX6_count_110 : decode cX6_count 110 = .ok (.bipush (-2), 2) := by decide +kernel
theorem dX6_count_112 : decode cX6_count 112 = .ok (.ireturn, 1) := by decide +kernel
end
section
/-- the numbers that the cells hold: kind of cell, which one, which place -/
abbrev Mem : Type := Nat → Nat → Nat → Int32
def ms (μ : Mem) (k i s : Nat) (v : Int32) : Mem := fun k' i' => if k' = k ∧ i' = i then upd (μ k i) s v else μ k' i'
/-- which Hearing of a Node a field names: two a Node -/
def hx (i : Nat) (x : Int32) : Nat := 2 * i + (if x = 0 then 0 else 1)
abbrev GG : Type := (Nat → Nat → Nat) × va_G × ClassId × ClassId × ClassId × ClassId
/-- a cell by its kind, its number and the row of its numbers -/
def Mr (g : GG) (r : Nat → Int32) (k i : Nat) : va_E := match k with
  | 0 => .inr (0, [.ref (g.1 13 i), .ref (g.1 2 i), .ref (g.1 4 i), .int (r 3), .int (r 4), .int (r 5)])
  | 1 => .inr (1, [.int (r 0), .int (r 1), .int (r 2), .int (r 3), .int (r 4), .int (r 5), .ref (g.1 7 i)])
  | 2 => .inr (2, [.ref (g.1 8 i), .ref (g.1 9 i), .ref (g.1 10 i), .int (r 3), .int (r 4)])
  | 3 => .inr (3, [.int (r 0), .int (r 1), .int (r 2), .int (r 3), .int (r 4), .int (r 5), .int (r 6), .int (r 7), .int (r 8), .int (r 9), .int (r 10), .int (r 11), .int (r 12), .int (r 13), .ref (g.1 1 (hx i (r 14))), .ref (g.1 1 (hx i (r 15)))])
  | 4 => .inr (4, [.ref (g.1 11 i), .int (r 1)])
  | 5 => .inr (5, [.ref (g.1 0 0), .ref (g.1 0 1), .ref (g.1 14 0), .int (r 3), .ref (g.1 4 4)])
  | 6 => .inr (6, [.ref (g.1 20 0), .ref (g.1 21 0), .ref (g.1 22 0), .ref (g.1 23 0), .int (r 4), .ref (g.1 24 0), .ref (g.1 25 0), .ref (g.1 26 0), .ref (g.1 27 0), .ref (g.1 28 0), .ref (g.1 29 0), .ref (g.1 30 0), .ref (g.1 31 0), .ref (g.1 32 0)])
  | 7 => .inl (g.2.2.1, 6, .inl r)
  | 8 => .inl (g.2.2.1, 40, .inl r)
  | 9 => .inl (g.2.2.1, 40, .inl r)
  | 10 => .inl (g.2.2.1, 40, .inl r)
  | 11 => .inl (g.2.2.1, 6, .inl r)
  | 13 => .inl (g.2.2.2.2.2, 6, .inr (.inr (.inr (.inr (fun j => some (g.1 3 (6 * i + j)))))))
  | 14 => .inl (g.2.2.2.2.1, 2, .inr (.inr (.inr (.inr (fun j => some (g.1 0 (2 + j)))))))
  | 20 => .inl (g.2.2.1, 256, .inl r)
  | 21 => .inl (g.2.2.1, 768, .inl r)
  | 22 => .inl (g.2.2.2.1, 2, .inl r)
  | 23 => .inl (g.2.2.1, 8, .inl r)
  | 24 => .inl (g.2.2.2.1, 6, .inl r)
  | 25 => .inl (g.2.2.2.1, 6, .inl r)
  | 26 => .inl (g.2.2.2.1, 6, .inl r)
  | 27 => .inl (g.2.2.2.1, 6, .inl r)
  | 28 => .inl (g.2.2.1, 6, .inl r)
  | 29 => .inl (g.2.2.1, 6, .inl r)
  | 30 => .inl (g.2.2.1, 6, .inl r)
  | 31 => .inl (g.2.2.1, 36, .inl r)
  | 32 => .inl (g.2.2.1, 6, .inl r)
  | _ => .inl (g.2.2.1, 0, .inl r)
def cntL : List Nat := [4, 48, 4, 24, 5, 1, 1, 48, 4, 4, 4, 5, 0, 4, 1, 0, 0, 0, 0, 0, 1, 1, 1, 1, 1, 1, 1, 1, 1, 1, 1, 1, 1]
def cnt (k : Nat) : Nat := cntL.getD k 0
def keys : List (Nat × Nat) := (List.range 33).flatMap (fun k => (List.range (cnt k)).map (fun i => (k, i)))
set_option maxRecDepth 100000 in
theorem keys_nd : keys.Nodup := by decide +kernel
theorem keys_mem {k i : Nat} (h : i < cnt k) : (k, i) ∈ keys := by
  have hk : k < 33 := by
    rcases Nat.lt_or_ge k 33 with q | q
    · exact q
    · have hz : cnt k = 0 := by
        unfold cnt
        rw [List.getD_eq_getElem?_getD, List.getElem?_eq_none (show cntL.length ≤ k from q)]
        rfl
      rw [hz] at h
      exact absurd h (Nat.not_lt_zero i)
  exact List.mem_flatMap.mpr ⟨k, List.mem_range.mpr hk, List.mem_map.mpr ⟨i, List.mem_range.mpr h, rfl⟩⟩
theorem keys_cnt {k i : Nat} (h : (k, i) ∈ keys) : i < cnt k := by
  obtain ⟨k', -, h2⟩ := List.mem_flatMap.mp h
  obtain ⟨i', h3, h4⟩ := List.mem_map.mp h2
  cases h4
  exact List.mem_range.mp h3
def wl (g : GG) (μ : Mem) : va_W := keys.map (fun q => (g.1 q.1 q.2, Mr g (μ q.1 q.2) q.1 q.2))
theorem wl_key {g : GG} {μ : Mem} {p : Nat} {k i : Nat} (h : keys[p]? = some (k, i)) : (wl g μ)[p]? = some (g.1 k i, Mr g (μ k i) k i) := by
  simp [wl, h]
theorem wl_at {k i : Nat} (h : i < cnt k) : ∃ p : Nat, keys[p]? = some (k, i) := List.getElem?_of_mem (keys_mem h)
theorem wl_inv {g : GG} {μ : Mem} {p : Nat} {q : Nat × va_E} (h : (wl g μ)[p]? = some q) : ∃ k i, i < cnt k ∧ keys[p]? = some (k, i) ∧ q = (g.1 k i, Mr g (μ k i) k i) := by
  unfold wl at h
  rw [List.getElem?_map] at h
  cases hk : keys[p]? with
  | none => rw [hk] at h; cases h
  | some x =>
    rw [hk] at h
    obtain ⟨k, i⟩ := x
    exact ⟨k, i, keys_cnt (List.mem_of_getElem? hk), rfl, (Option.some.inj h).symm⟩
theorem ms_self (μ : Mem) (k i s : Nat) (v : Int32) : ms μ k i s v k i = upd (μ k i) s v := by simp [ms]
theorem ms_ne (μ : Mem) {k i k' i' : Nat} (s : Nat) (v : Int32) (h : ¬ (k' = k ∧ i' = i)) : ms μ k i s v k' i' = μ k' i' := by simp [ms, h]
theorem wl_set {g : GG} {μ : Mem} {p k i s : Nat} {v : Int32} (hp : keys[p]? = some (k, i)) : (wl g μ).set p (g.1 k i, Mr g (upd (μ k i) s v) k i) = wl g (ms μ k i s v) := by
  apply List.ext_getElem?
  intro j
  have hl : p < (wl g μ).length := by
    have h1 := (List.getElem?_eq_some_iff.mp hp).1
    simpa [wl] using h1
  by_cases hj : j = p
  · subst hj
    rw [List.getElem?_set_self hl, wl_key hp, ms_self]
  · rw [List.getElem?_set_ne (Ne.symm hj)]
    unfold wl
    rw [List.getElem?_map, List.getElem?_map]
    cases hk : keys[j]? with
    | none => rfl
    | some x =>
      obtain ⟨k', i'⟩ := x
      have hne : ¬ (k' = k ∧ i' = i) := by
        intro hh
        obtain ⟨rfl, rfl⟩ := hh
        exact hj ((List.getElem?_inj (List.getElem?_eq_some_iff.mp hk).1 keys_nd).mp (hk.trans hp.symm))
      simp only [Option.map_some, ms_ne μ s v hne]
def WP (g : GG) (μ : Mem) (H : Heap) : Prop := va_P g.2.1 vwCl (wl g μ) H
def AA (g : GG) : Nat → Prop := fun q => ∃ k i, i < cnt k ∧ g.1 k i = q
def Inj (g : GG) : Prop := ∀ k i k' i', i < cnt k → i' < cnt k' → g.1 k i = g.1 k' i' → k = k' ∧ i = i'
theorem wl_D {g : GG} {μ : Mem} {A : Nat → Prop} (hI : Inj g) (hA : ∀ q, AA g q → A q) : va_D A (wl g μ) := by
  refine ⟨fun i j x y hi hj hxy => ?_, fun j q hj => ?_⟩
  · obtain ⟨k1, i1, c1, h1, rfl⟩ := wl_inv hi
    obtain ⟨k2, i2, c2, h2, rfl⟩ := wl_inv hj
    obtain ⟨rfl, rfl⟩ := hI _ _ _ _ c1 c2 hxy
    exact (List.getElem?_inj (List.getElem?_eq_some_iff.mp h1).1 keys_nd).mp (h1.trans h2.symm)
  · obtain ⟨k1, i1, c1, h1, rfl⟩ := wl_inv hj
    exact hA _ ⟨k1, i1, c1, rfl⟩
def tysW (g : GG) : List (ClassId × FieldType) := [(g.2.2.1, .int), (g.2.2.2.1, .boolean), (g.2.2.2.2.1, .object "SlotStart$Bus"), (g.2.2.2.2.2, .object "SlotStart$Node")]
def nestW : List Cond := [.methodLinkNest RX0 57 yX5_bitOf RX5, .methodLinkNest RX0 65 yX5_isIn RX5, .methodLinkNest RX1 42 yX5_bitOf RX5, .methodLinkNest RX1 67 yX5_isIn RX5, .methodLinkNest RX4 19 yX5_isWithin RX5]
def WK (g : GG) (U : State) : Prop := va_K g.2.1 vwCl (tysW g) U ∧ ∀ w ∈ nestW, va_Nw w U
theorem WK.warm {g : GG} {s U : State} (hW : s.WarmedH U.vm) (h : WK g s) : WK g U := by
  refine ⟨va_K.moved hW.alike h.1, fun w hw => ?_⟩
  have h2 := h.2 w hw
  simp only [nestW, List.mem_cons, List.not_mem_nil, or_false] at hw
  rcases hw with rfl | rfl | rfl | rfl | rfl <;> exact va_Nw.warmM hW h2
theorem WK.same {g : GG} {s U : State} (hv : s.vm = U.vm) (h : WK g s) : WK g U := by
  refine ⟨va_K.moved (by rw [hv]; exact Vm.Alike.refl _) h.1, fun w hw => ?_⟩
  have h2 := h.2 w hw
  simp only [nestW, List.mem_cons, List.not_mem_nil, or_false] at hw
  rcases hw with rfl | rfl | rfl | rfl | rfl <;> exact va_Nw.same rfl hv h2
def KP (g : GG) (av : List Value) (μ : Mem) : Array Value → State → Prop := va_Pc av (fun U => WP g μ U.heap ∧ WK g U)
def KQi (g : GG) (q : Int32 → Mem → Prop) : Array Value → State → Outcome → State → Prop := va_Qi q (fun μ U => WP g μ U.heap) (AA g)
def KQv (g : GG) (q : Mem → Prop) : Array Value → State → Outcome → State → Prop := va_Qv q (fun μ U => WP g μ U.heap) (AA g)
theorem KP.blind {g : GG} {av : List Value} {μ : Mem} : FrameBlind (KP g av μ) := fun a U j mk h => ⟨h.1, h.2.1, WK.same (s := U) (U := U.calling j mk a) rfl h.2.2⟩
def RC (p : Program) (s : State) (m : MethodId) (args : Array Value) (c : Code) (cc : ByteArray) (nL : Nat) (own : String) (g : GG) (A : Nat → Prop) : Prop :=
  p.tables.exec = Jvm.exec ∧ c.code = cc ∧ c.maxLocals = nL ∧ s.vm.findClass own = some m.cls ∧ (∀ w ∈ wsL_law, w.before args s = true) ∧ WK g s ∧ Inj g ∧ ∀ q, AA g q → A q
def V (p : Program) (l : Launch) (e : Env) (R : Room) (s : State) (m : MethodId) (args : Array Value) (below : List Frame) (meth : Method) (c : Code) (nL : Nat) (g : GG) (A : Nat → Prop) (cells slots : Nat) (Q : State → Prop) (μ : Mem) (pc : Nat) (lv : List (Nat × Value)) (st : List Value) : Prop :=
  ∀ (H : Heap) (locs : List Loc) (ls : Array Slot), lv_has ls nL lv → WP g μ H → va_S A s.heap H locs → W p l e R s m args below meth c H locs cells slots Q (F0 m pc ls st)
theorem wsL_good : wsL_law.all goodWord = true := by decide +kernel
theorem wsL_goodIn {c1 c2 : Cond} (h : c2 ∈ wsL_law) : GoodIn (c1 :: wsL_law) (c2 :: wsL_law) := by
  intro w hw
  have hm : w ∈ wsL_law := by
    rcases List.mem_cons.mp hw with rfl | q
    · exact h
    · exact q
  exact ⟨List.mem_cons_of_mem _ hm, good_of_word (List.all_eq_true.mp wsL_good w hm)⟩
theorem wsL_goodIn0 {c2 : Cond} (h : c2 ∈ wsL_law) : GoodIn wsL_law (c2 :: wsL_law) := by
  intro w hw
  have hm : w ∈ wsL_law := by
    rcases List.mem_cons.mp hw with rfl | q
    · exact h
    · exact q
  exact ⟨hm, good_of_word (List.all_eq_true.mp wsL_good w hm)⟩
def nz (v : Int32) : Prop := v = 0 ∨ v = 1
theorem nz_nar {v : Int32} (h : nz v) : narrow .boolean (.int v) = .int v := by
  rcases h with rfl | rfl <;> rfl
theorem nz_vnar {v : Int32} (h : nz v) : vp_nar .boolean v = v := by
  rcases h with rfl | rfl <;> rfl
theorem nz_fit {v : Int32} (h : nz v) : fits .boolean (.int v) = true := by
  rcases h with rfl | rfl <;> rfl
theorem nz_0 : nz 0 := Or.inl rfl
theorem nz_1 : nz 1 := Or.inr rfl
theorem hx_lt {i : Nat} {x : Int32} (h : i < 24) : hx i x < 48 := by unfold hx; split <;> omega
section VV
variable {p : Program} {l : Launch} {e : Env} {R : Room} {s : State} {m : MethodId} {args : Array Value} {below : List Frame} {meth : Method} {c : Code} {cells slots : Nat} {Q : State → Prop}
variable {cc : ByteArray} {nL : Nat} {own : String} {g : GG} {A : Nat → Prop} {μ : Mem} {pc : Nat} {lv : List (Nat × Value)} {st : List Value}

theorem v_iconst (X : RC p s m args c cc nL own g A) {n : Int} {v : Int32} (hv : Int32.ofInt n = v) (hd : decode cc pc = .ok (.iconst n, 1)) (k : V p l e R s m args below meth c nL g A cells slots Q μ (pc + 1) lv (.int v :: st)) : V p l e R s m args below meth c nL g A cells slots Q μ (pc) lv (st) := fun H locs ls hl hP hS => lv_iconst X.1 X.2.1 hd hv (k H locs ls hl hP hS)
theorem v_bipush (X : RC p s m args c cc nL own g A) {n : Int} {v : Int32} (hv : (Int8.ofInt n).toInt32 = v) (hd : decode cc pc = .ok (.bipush n, 2)) (k : V p l e R s m args below meth c nL g A cells slots Q μ (pc + 2) lv (.int v :: st)) : V p l e R s m args below meth c nL g A cells slots Q μ (pc) lv (st) := fun H locs ls hl hP hS => lv_bipush X.1 X.2.1 hd hv (k H locs ls hl hP hS)
theorem v_sipush (X : RC p s m args c cc nL own g A) {n : Int} {v : Int32} (hv : (Int16.ofInt n).toInt32 = v) (hd : decode cc pc = .ok (.sipush n, 3)) (k : V p l e R s m args below meth c nL g A cells slots Q μ (pc + 3) lv (.int v :: st)) : V p l e R s m args below meth c nL g A cells slots Q μ (pc) lv (st) := fun H locs ls hl hP hS => lv_sipush X.1 X.2.1 hd hv (k H locs ls hl hP hS)
theorem v_ldc (X : RC p s m args c cc nL own g A) {ix : Nat} {v : Int32} (hw : (Cond.constant own ix v) ∈ wsL_law) (hd : decode cc pc = .ok (.ldc ix, 2)) (k : V p l e R s m args below meth c nL g A cells slots Q μ (pc + 2) lv (.int v :: st)) : V p l e R s m args below meth c nL g A cells slots Q μ (pc) lv (st) := fun H locs ls hl hP hS => lv_ldc X.1 X.2.1 X.2.2.2.1 (X.2.2.2.2.1 _ hw) hd (k H locs ls hl hP hS)
theorem v_iload_n (X : RC p s m args c cc nL own g A) {k : Fin 4} {i : Nat} {x : Int32} (hi : (k : Nat) = i) (j : Nat) (hj : lv[j]? = some (i, .int x)) (hd : decode cc pc = .ok (.iload_n k, 1)) (k : V p l e R s m args below meth c nL g A cells slots Q μ (pc + 1) lv (.int x :: st)) : V p l e R s m args below meth c nL g A cells slots Q μ (pc) lv (st) := fun H locs ls hl hP hS => lv_iload_n X.1 X.2.1 hd hi (lv_at hl j hj) (k H locs ls hl hP hS)
theorem v_iload (X : RC p s m args c cc nL own g A) {i : Nat} {x : Int32} (j : Nat) (hj : lv[j]? = some (i, .int x)) (hd : decode cc pc = .ok (.iload i, 2)) (k : V p l e R s m args below meth c nL g A cells slots Q μ (pc + 2) lv (.int x :: st)) : V p l e R s m args below meth c nL g A cells slots Q μ (pc) lv (st) := fun H locs ls hl hP hS => lv_iload X.1 X.2.1 hd (lv_at hl j hj) (k H locs ls hl hP hS)
theorem v_aload_n (X : RC p s m args c cc nL own g A) {k : Fin 4} {i : Nat} {x : Nat} (hi : (k : Nat) = i) (j : Nat) (hj : lv[j]? = some (i, .ref x)) (hd : decode cc pc = .ok (.aload_n k, 1)) (k : V p l e R s m args below meth c nL g A cells slots Q μ (pc + 1) lv (.ref x :: st)) : V p l e R s m args below meth c nL g A cells slots Q μ (pc) lv (st) := fun H locs ls hl hP hS => lv_aload_n X.1 X.2.1 hd hi (lv_at hl j hj) (k H locs ls hl hP hS)
theorem v_aload (X : RC p s m args c cc nL own g A) {i : Nat} {x : Nat} (j : Nat) (hj : lv[j]? = some (i, .ref x)) (hd : decode cc pc = .ok (.aload i, 2)) (k : V p l e R s m args below meth c nL g A cells slots Q μ (pc + 2) lv (.ref x :: st)) : V p l e R s m args below meth c nL g A cells slots Q μ (pc) lv (st) := fun H locs ls hl hP hS => lv_aload X.1 X.2.1 hd (lv_at hl j hj) (k H locs ls hl hP hS)
theorem v_istore_n (X : RC p s m args c cc nL own g A) {k : Fin 4} {i : Nat} {x : Int32} {lv' : List (Nat × Value)} (hi : (k : Nat) = i) (hn : i < nL) (hl' : (i, Value.int x) :: lv.filter (fun q => !(q.1 == i) && !(q.1 + 1 == i && q.2.category == 2)) = lv') (hd : decode cc pc = .ok (.istore_n k, 1)) (k2 : V p l e R s m args below meth c nL g A cells slots Q μ (pc + 1) lv' (st)) : V p l e R s m args below meth c nL g A cells slots Q μ (pc) lv (.int x :: st) := fun H locs ls hl hP hS => lv_istore_n X.1 X.2.1 hd hi hl hn hl' (fun ls2 hl2 => k2 H locs ls2 hl2 hP hS)
theorem v_istore (X : RC p s m args c cc nL own g A) {i : Nat} {x : Int32} {lv' : List (Nat × Value)} (hn : i < nL) (hl' : (i, Value.int x) :: lv.filter (fun q => !(q.1 == i) && !(q.1 + 1 == i && q.2.category == 2)) = lv') (hd : decode cc pc = .ok (.istore i, 2)) (k2 : V p l e R s m args below meth c nL g A cells slots Q μ (pc + 2) lv' (st)) : V p l e R s m args below meth c nL g A cells slots Q μ (pc) lv (.int x :: st) := fun H locs ls hl hP hS => lv_istore X.1 X.2.1 hd hl hn hl' (fun ls2 hl2 => k2 H locs ls2 hl2 hP hS)
theorem v_astore_n (X : RC p s m args c cc nL own g A) {k : Fin 4} {i : Nat} {x : Nat} {lv' : List (Nat × Value)} (hi : (k : Nat) = i) (hn : i < nL) (hl' : (i, Value.ref x) :: lv.filter (fun q => !(q.1 == i) && !(q.1 + 1 == i && q.2.category == 2)) = lv') (hd : decode cc pc = .ok (.astore_n k, 1)) (k2 : V p l e R s m args below meth c nL g A cells slots Q μ (pc + 1) lv' (st)) : V p l e R s m args below meth c nL g A cells slots Q μ (pc) lv (.ref x :: st) := fun H locs ls hl hP hS => lv_astore_n X.1 X.2.1 hd hi hl hn hl' (fun ls2 hl2 => k2 H locs ls2 hl2 hP hS)
theorem v_astore (X : RC p s m args c cc nL own g A) {i : Nat} {x : Nat} {lv' : List (Nat × Value)} (hn : i < nL) (hl' : (i, Value.ref x) :: lv.filter (fun q => !(q.1 == i) && !(q.1 + 1 == i && q.2.category == 2)) = lv') (hd : decode cc pc = .ok (.astore i, 2)) (k2 : V p l e R s m args below meth c nL g A cells slots Q μ (pc + 2) lv' (st)) : V p l e R s m args below meth c nL g A cells slots Q μ (pc) lv (.ref x :: st) := fun H locs ls hl hP hS => lv_astore X.1 X.2.1 hd hl hn hl' (fun ls2 hl2 => k2 H locs ls2 hl2 hP hS)
theorem v_iinc (X : RC p s m args c cc nL own g A) {i j : Nat} {n : Int} {x y : Int32} {lv' : List (Nat × Value)} (hj : lv[j]? = some (i, .int x)) (hv : x + Int32.ofInt n = y) (hn : i < nL) (hl' : (i, Value.int y) :: lv.filter (fun q => !(q.1 == i) && !(q.1 + 1 == i && q.2.category == 2)) = lv') (hd : decode cc pc = .ok (.iinc i n, 3)) (k2 : V p l e R s m args below meth c nL g A cells slots Q μ (pc + 3) lv' (st)) : V p l e R s m args below meth c nL g A cells slots Q μ (pc) lv (st) := fun H locs ls hl hP hS => lv_iinc X.1 X.2.1 hd hl hj hv hn hl' (fun ls2 hl2 => k2 H locs ls2 hl2 hP hS)
theorem v_iadd (X : RC p s m args c cc nL own g A) {x y : Int32} (hd : decode cc pc = .ok (.iadd, 1)) (k : V p l e R s m args below meth c nL g A cells slots Q μ (pc + 1) lv (.int (x + y) :: st)) : V p l e R s m args below meth c nL g A cells slots Q μ (pc) lv (.int y :: .int x :: st) := fun H locs ls hl hP hS => lv_iadd X.1 X.2.1 hd (k H locs ls hl hP hS)
theorem v_isub (X : RC p s m args c cc nL own g A) {x y : Int32} (hd : decode cc pc = .ok (.isub, 1)) (k : V p l e R s m args below meth c nL g A cells slots Q μ (pc + 1) lv (.int (x - y) :: st)) : V p l e R s m args below meth c nL g A cells slots Q μ (pc) lv (.int y :: .int x :: st) := fun H locs ls hl hP hS => lv_isub X.1 X.2.1 hd (k H locs ls hl hP hS)
theorem v_imul (X : RC p s m args c cc nL own g A) {x y : Int32} (hd : decode cc pc = .ok (.imul, 1)) (k : V p l e R s m args below meth c nL g A cells slots Q μ (pc + 1) lv (.int (x * y) :: st)) : V p l e R s m args below meth c nL g A cells slots Q μ (pc) lv (.int y :: .int x :: st) := fun H locs ls hl hP hS => lv_imul X.1 X.2.1 hd (k H locs ls hl hP hS)
theorem v_iand (X : RC p s m args c cc nL own g A) {x y : Int32} (hd : decode cc pc = .ok (.iand, 1)) (k : V p l e R s m args below meth c nL g A cells slots Q μ (pc + 1) lv (.int (x &&& y) :: st)) : V p l e R s m args below meth c nL g A cells slots Q μ (pc) lv (.int y :: .int x :: st) := fun H locs ls hl hP hS => lv_iand X.1 X.2.1 hd (k H locs ls hl hP hS)
theorem v_ior (X : RC p s m args c cc nL own g A) {x y : Int32} (hd : decode cc pc = .ok (.ior, 1)) (k : V p l e R s m args below meth c nL g A cells slots Q μ (pc + 1) lv (.int (x ||| y) :: st)) : V p l e R s m args below meth c nL g A cells slots Q μ (pc) lv (.int y :: .int x :: st) := fun H locs ls hl hP hS => lv_ior X.1 X.2.1 hd (k H locs ls hl hP hS)
theorem v_ixor (X : RC p s m args c cc nL own g A) {x y : Int32} (hd : decode cc pc = .ok (.ixor, 1)) (k : V p l e R s m args below meth c nL g A cells slots Q μ (pc + 1) lv (.int (x ^^^ y) :: st)) : V p l e R s m args below meth c nL g A cells slots Q μ (pc) lv (.int y :: .int x :: st) := fun H locs ls hl hP hS => lv_ixor X.1 X.2.1 hd (k H locs ls hl hP hS)
theorem v_ishl (X : RC p s m args c cc nL own g A) {x y : Int32} (hd : decode cc pc = .ok (.ishl, 1)) (k : V p l e R s m args below meth c nL g A cells slots Q μ (pc + 1) lv (.int (x <<< (y &&& 31)) :: st)) : V p l e R s m args below meth c nL g A cells slots Q μ (pc) lv (.int y :: .int x :: st) := fun H locs ls hl hP hS => lv_ishl X.1 X.2.1 hd (k H locs ls hl hP hS)
theorem v_ishr (X : RC p s m args c cc nL own g A) {x y : Int32} (hd : decode cc pc = .ok (.ishr, 1)) (k : V p l e R s m args below meth c nL g A cells slots Q μ (pc + 1) lv (.int (x >>> (y &&& 31)) :: st)) : V p l e R s m args below meth c nL g A cells slots Q μ (pc) lv (.int y :: .int x :: st) := fun H locs ls hl hP hS => lv_ishr X.1 X.2.1 hd (k H locs ls hl hP hS)
theorem v_idiv (X : RC p s m args c cc nL own g A) {x y : Int32} (hne : ¬ y = 0) (hd : decode cc pc = .ok (.idiv, 1)) (k : V p l e R s m args below meth c nL g A cells slots Q μ (pc + 1) lv (.int (x / y) :: st)) : V p l e R s m args below meth c nL g A cells slots Q μ (pc) lv (.int y :: .int x :: st) := fun H locs ls hl hP hS => lv_idiv X.1 X.2.1 hd hne (k H locs ls hl hP hS)
theorem v_irem (X : RC p s m args c cc nL own g A) {x y : Int32} (hne : ¬ y = 0) (hd : decode cc pc = .ok (.irem, 1)) (k : V p l e R s m args below meth c nL g A cells slots Q μ (pc + 1) lv (.int (x - x / y * y) :: st)) : V p l e R s m args below meth c nL g A cells slots Q μ (pc) lv (.int y :: .int x :: st) := fun H locs ls hl hP hS => lv_irem X.1 X.2.1 hd hne (k H locs ls hl hP hS)
theorem v_ineg (X : RC p s m args c cc nL own g A) {x : Int32} (hd : decode cc pc = .ok (.ineg, 1)) (k : V p l e R s m args below meth c nL g A cells slots Q μ (pc + 1) lv (.int (-x) :: st)) : V p l e R s m args below meth c nL g A cells slots Q μ (pc) lv (.int x :: st) := fun H locs ls hl hP hS => lv_ineg X.1 X.2.1 hd (k H locs ls hl hP hS)
theorem v_dup (X : RC p s m args c cc nL own g A) {va : Value} (hva : va.category = 1) (hd : decode cc pc = .ok (.dup, 1)) (k : V p l e R s m args below meth c nL g A cells slots Q μ (pc + 1) lv (va :: va :: st)) : V p l e R s m args below meth c nL g A cells slots Q μ (pc) lv (va :: st) := fun H locs ls hl hP hS => lv_dup X.1 X.2.1 hd hva (k H locs ls hl hP hS)
theorem v_pop (X : RC p s m args c cc nL own g A) {va : Value} (hva : va.category = 1) (hd : decode cc pc = .ok (.pop, 1)) (k : V p l e R s m args below meth c nL g A cells slots Q μ (pc + 1) lv (st)) : V p l e R s m args below meth c nL g A cells slots Q μ (pc) lv (va :: st) := fun H locs ls hl hP hS => lv_pop X.1 X.2.1 hd hva (k H locs ls hl hP hS)
theorem v_dup2 (X : RC p s m args c cc nL own g A) {va vb : Value} (hva : va.category = 1) (hvb : vb.category = 1) (hd : decode cc pc = .ok (.dup2, 1)) (k : V p l e R s m args below meth c nL g A cells slots Q μ (pc + 1) lv (va :: vb :: va :: vb :: st)) : V p l e R s m args below meth c nL g A cells slots Q μ (pc) lv (va :: vb :: st) := fun H locs ls hl hP hS => lv_dup2_11 X.1 X.2.1 hd hva hvb (k H locs ls hl hP hS)
theorem v_goto (X : RC p s m args c cc nL own g A) {off : Int} {tgt : Nat} (hd : decode cc pc = .ok (.goto off, 3)) (ht : (pc : Int) + off = (tgt : Int)) (k : V p l e R s m args below meth c nL g A cells slots Q μ (tgt) lv (st)) : V p l e R s m args below meth c nL g A cells slots Q μ (pc) lv (st) := fun H locs ls hl hP hS => lv_goto X.1 X.2.1 hd ht (k H locs ls hl hP hS)
theorem v_sub {lv' : List (Nat × Value)} (ks : List Nat) (h : lv_pick lv ks = lv') (k : V p l e R s m args below meth c nL g A cells slots Q μ (pc) lv' (st)) : V p l e R s m args below meth c nL g A cells slots Q μ (pc) lv (st) := fun H locs ls hl hP hS => k H locs ls (lv_sub hl ks h) hP hS
theorem v_nm {x : Int32} {f : Int32 → Prop} (h : ∀ y : Int32, y = x → f y) (k : ∀ y : Int32, f y → V p l e R s m args below meth c nL g A cells slots Q μ (pc) lv (.int y :: st)) : V p l e R s m args below meth c nL g A cells slots Q μ (pc) lv (.int x :: st) := k x (h x rfl)
theorem v_if_eq (X : RC p s m args c cc nL own g A) {x : Int32} {off : Int} {tgt : Nat} {f1 f2 : Prop} (h : (x = 0 → f1) ∧ (¬ x = 0 → f2)) (hd : decode cc pc = .ok (.ifCond .eq off, 3)) (ht : (pc : Int) + off = (tgt : Int)) (kt : f1 → V p l e R s m args below meth c nL g A cells slots Q μ (tgt) lv (st)) (kf : f2 → V p l e R s m args below meth c nL g A cells slots Q μ (pc + 3) lv (st)) : V p l e R s m args below meth c nL g A cells slots Q μ (pc) lv (.int x :: st) := fun H locs ls hl hP hS => lv_if_eq X.1 X.2.1 hd ht (fun q => kt (h.1 q) H locs ls hl hP hS) (fun q => kf (h.2 q) H locs ls hl hP hS)
theorem v_if_ne (X : RC p s m args c cc nL own g A) {x : Int32} {off : Int} {tgt : Nat} {f1 f2 : Prop} (h : (¬ x = 0 → f1) ∧ (x = 0 → f2)) (hd : decode cc pc = .ok (.ifCond .ne off, 3)) (ht : (pc : Int) + off = (tgt : Int)) (kt : f1 → V p l e R s m args below meth c nL g A cells slots Q μ (tgt) lv (st)) (kf : f2 → V p l e R s m args below meth c nL g A cells slots Q μ (pc + 3) lv (st)) : V p l e R s m args below meth c nL g A cells slots Q μ (pc) lv (.int x :: st) := fun H locs ls hl hP hS => lv_if_ne X.1 X.2.1 hd ht (fun q => kt (h.1 q) H locs ls hl hP hS) (fun q => kf (h.2 q) H locs ls hl hP hS)
theorem v_if_lt (X : RC p s m args c cc nL own g A) {x : Int32} {off : Int} {tgt : Nat} {f1 f2 : Prop} (h : (x < 0 → f1) ∧ (¬ x < 0 → f2)) (hd : decode cc pc = .ok (.ifCond .lt off, 3)) (ht : (pc : Int) + off = (tgt : Int)) (kt : f1 → V p l e R s m args below meth c nL g A cells slots Q μ (tgt) lv (st)) (kf : f2 → V p l e R s m args below meth c nL g A cells slots Q μ (pc + 3) lv (st)) : V p l e R s m args below meth c nL g A cells slots Q μ (pc) lv (.int x :: st) := fun H locs ls hl hP hS => lv_if_lt X.1 X.2.1 hd ht (fun q => kt (h.1 q) H locs ls hl hP hS) (fun q => kf (h.2 q) H locs ls hl hP hS)
theorem v_if_ge (X : RC p s m args c cc nL own g A) {x : Int32} {off : Int} {tgt : Nat} {f1 f2 : Prop} (h : (0 ≤ x → f1) ∧ (¬ 0 ≤ x → f2)) (hd : decode cc pc = .ok (.ifCond .ge off, 3)) (ht : (pc : Int) + off = (tgt : Int)) (kt : f1 → V p l e R s m args below meth c nL g A cells slots Q μ (tgt) lv (st)) (kf : f2 → V p l e R s m args below meth c nL g A cells slots Q μ (pc + 3) lv (st)) : V p l e R s m args below meth c nL g A cells slots Q μ (pc) lv (.int x :: st) := fun H locs ls hl hP hS => lv_if_ge X.1 X.2.1 hd ht (fun q => kt (h.1 q) H locs ls hl hP hS) (fun q => kf (h.2 q) H locs ls hl hP hS)
theorem v_if_gt (X : RC p s m args c cc nL own g A) {x : Int32} {off : Int} {tgt : Nat} {f1 f2 : Prop} (h : (0 < x → f1) ∧ (¬ 0 < x → f2)) (hd : decode cc pc = .ok (.ifCond .gt off, 3)) (ht : (pc : Int) + off = (tgt : Int)) (kt : f1 → V p l e R s m args below meth c nL g A cells slots Q μ (tgt) lv (st)) (kf : f2 → V p l e R s m args below meth c nL g A cells slots Q μ (pc + 3) lv (st)) : V p l e R s m args below meth c nL g A cells slots Q μ (pc) lv (.int x :: st) := fun H locs ls hl hP hS => lv_if_gt X.1 X.2.1 hd ht (fun q => kt (h.1 q) H locs ls hl hP hS) (fun q => kf (h.2 q) H locs ls hl hP hS)
theorem v_if_le (X : RC p s m args c cc nL own g A) {x : Int32} {off : Int} {tgt : Nat} {f1 f2 : Prop} (h : (x ≤ 0 → f1) ∧ (¬ x ≤ 0 → f2)) (hd : decode cc pc = .ok (.ifCond .le off, 3)) (ht : (pc : Int) + off = (tgt : Int)) (kt : f1 → V p l e R s m args below meth c nL g A cells slots Q μ (tgt) lv (st)) (kf : f2 → V p l e R s m args below meth c nL g A cells slots Q μ (pc + 3) lv (st)) : V p l e R s m args below meth c nL g A cells slots Q μ (pc) lv (.int x :: st) := fun H locs ls hl hP hS => lv_if_le X.1 X.2.1 hd ht (fun q => kt (h.1 q) H locs ls hl hP hS) (fun q => kf (h.2 q) H locs ls hl hP hS)
theorem v_icmp_eq (X : RC p s m args c cc nL own g A) {x y : Int32} {off : Int} {tgt : Nat} {f1 f2 : Prop} (h : (x = y → f1) ∧ (¬ x = y → f2)) (hd : decode cc pc = .ok (.if_icmp .eq off, 3)) (ht : (pc : Int) + off = (tgt : Int)) (kt : f1 → V p l e R s m args below meth c nL g A cells slots Q μ (tgt) lv (st)) (kf : f2 → V p l e R s m args below meth c nL g A cells slots Q μ (pc + 3) lv (st)) : V p l e R s m args below meth c nL g A cells slots Q μ (pc) lv (.int y :: .int x :: st) := fun H locs ls hl hP hS => lv_icmp_eq X.1 X.2.1 hd ht (fun q => kt (h.1 q) H locs ls hl hP hS) (fun q => kf (h.2 q) H locs ls hl hP hS)
theorem v_icmp_ne (X : RC p s m args c cc nL own g A) {x y : Int32} {off : Int} {tgt : Nat} {f1 f2 : Prop} (h : (¬ x = y → f1) ∧ (x = y → f2)) (hd : decode cc pc = .ok (.if_icmp .ne off, 3)) (ht : (pc : Int) + off = (tgt : Int)) (kt : f1 → V p l e R s m args below meth c nL g A cells slots Q μ (tgt) lv (st)) (kf : f2 → V p l e R s m args below meth c nL g A cells slots Q μ (pc + 3) lv (st)) : V p l e R s m args below meth c nL g A cells slots Q μ (pc) lv (.int y :: .int x :: st) := fun H locs ls hl hP hS => lv_icmp_ne X.1 X.2.1 hd ht (fun q => kt (h.1 q) H locs ls hl hP hS) (fun q => kf (h.2 q) H locs ls hl hP hS)
theorem v_icmp_lt (X : RC p s m args c cc nL own g A) {x y : Int32} {off : Int} {tgt : Nat} {f1 f2 : Prop} (h : (x < y → f1) ∧ (¬ x < y → f2)) (hd : decode cc pc = .ok (.if_icmp .lt off, 3)) (ht : (pc : Int) + off = (tgt : Int)) (kt : f1 → V p l e R s m args below meth c nL g A cells slots Q μ (tgt) lv (st)) (kf : f2 → V p l e R s m args below meth c nL g A cells slots Q μ (pc + 3) lv (st)) : V p l e R s m args below meth c nL g A cells slots Q μ (pc) lv (.int y :: .int x :: st) := fun H locs ls hl hP hS => lv_icmp_lt X.1 X.2.1 hd ht (fun q => kt (h.1 q) H locs ls hl hP hS) (fun q => kf (h.2 q) H locs ls hl hP hS)
theorem v_icmp_ge (X : RC p s m args c cc nL own g A) {x y : Int32} {off : Int} {tgt : Nat} {f1 f2 : Prop} (h : (y ≤ x → f1) ∧ (¬ y ≤ x → f2)) (hd : decode cc pc = .ok (.if_icmp .ge off, 3)) (ht : (pc : Int) + off = (tgt : Int)) (kt : f1 → V p l e R s m args below meth c nL g A cells slots Q μ (tgt) lv (st)) (kf : f2 → V p l e R s m args below meth c nL g A cells slots Q μ (pc + 3) lv (st)) : V p l e R s m args below meth c nL g A cells slots Q μ (pc) lv (.int y :: .int x :: st) := fun H locs ls hl hP hS => lv_icmp_ge X.1 X.2.1 hd ht (fun q => kt (h.1 q) H locs ls hl hP hS) (fun q => kf (h.2 q) H locs ls hl hP hS)
theorem v_icmp_gt (X : RC p s m args c cc nL own g A) {x y : Int32} {off : Int} {tgt : Nat} {f1 f2 : Prop} (h : (y < x → f1) ∧ (¬ y < x → f2)) (hd : decode cc pc = .ok (.if_icmp .gt off, 3)) (ht : (pc : Int) + off = (tgt : Int)) (kt : f1 → V p l e R s m args below meth c nL g A cells slots Q μ (tgt) lv (st)) (kf : f2 → V p l e R s m args below meth c nL g A cells slots Q μ (pc + 3) lv (st)) : V p l e R s m args below meth c nL g A cells slots Q μ (pc) lv (.int y :: .int x :: st) := fun H locs ls hl hP hS => lv_icmp_gt X.1 X.2.1 hd ht (fun q => kt (h.1 q) H locs ls hl hP hS) (fun q => kf (h.2 q) H locs ls hl hP hS)
theorem v_icmp_le (X : RC p s m args c cc nL own g A) {x y : Int32} {off : Int} {tgt : Nat} {f1 f2 : Prop} (h : (x ≤ y → f1) ∧ (¬ x ≤ y → f2)) (hd : decode cc pc = .ok (.if_icmp .le off, 3)) (ht : (pc : Int) + off = (tgt : Int)) (kt : f1 → V p l e R s m args below meth c nL g A cells slots Q μ (tgt) lv (st)) (kf : f2 → V p l e R s m args below meth c nL g A cells slots Q μ (pc + 3) lv (st)) : V p l e R s m args below meth c nL g A cells slots Q μ (pc) lv (.int y :: .int x :: st) := fun H locs ls hl hP hS => lv_icmp_le X.1 X.2.1 hd ht (fun q => kt (h.1 q) H locs ls hl hP hS) (fun q => kf (h.2 q) H locs ls hl hP hS)
theorem v_tsw (X : RC p s m args c cc nL own g A) {dflt lo hi : Int} {offs : Array Int} {len : Nat} {x : Int32} (hd : decode cc pc = .ok (.tableswitch dflt lo hi offs, len)) (hin : ¬ x.toInt < lo → ¬ hi < x.toInt → ∃ (off : Int) (tgt : Nat), offs[(x.toInt - lo).toNat]? = some off ∧ (pc : Int) + off = (tgt : Int) ∧ V p l e R s m args below meth c nL g A cells slots Q μ (tgt) lv (st)) (hout : (x.toInt < lo ∨ hi < x.toInt) → ∃ tgt : Nat, (pc : Int) + dflt = (tgt : Int) ∧ V p l e R s m args below meth c nL g A cells slots Q μ (tgt) lv (st)) : V p l e R s m args below meth c nL g A cells slots Q μ (pc) lv (.int x :: st) := by
  intro H locs ls hl hP hS
  by_cases h1 : x.toInt < lo
  · obtain ⟨tgt, ht, k⟩ := hout (Or.inl h1)
    exact lv_tableOut X.1 X.2.1 hd (Or.inl h1) ht (k H locs ls hl hP hS)
  · by_cases h2 : hi < x.toInt
    · obtain ⟨tgt, ht, k⟩ := hout (Or.inr h2)
      exact lv_tableOut X.1 X.2.1 hd (Or.inr h2) ht (k H locs ls hl hP hS)
    · obtain ⟨off, tgt, ho, ht, k⟩ := hin h1 h2
      exact lv_tableIn X.1 X.2.1 hd h1 h2 ho ht (k H locs ls hl hP hS)
theorem v_getV (X : RC p s m args c cc nL own g A) {k i ci : Nat} {fs : List Value} {C : String} {T : u_T} {N index f : Nat} {ref : String} {val : Value} (hi : i < cnt k) (hM : Mr g (μ k i) k i = .inr (ci, fs)) (hc : vwCl[ci]? = some (C, T, N)) (hin : ∀ w ∈ u_ws C T N, w ∈ wsL_law) (hf : f < N) (hw : (Cond.fieldLink own index ref (T f).2.1 (T f).2.2.1) ∈ wsL_law) (hr : (T f).1 = ref) (hv : fs[f]? = some val) (hd : decode cc pc = .ok (.getfield index, 3)) (kk : V p l e R s m args below meth c nL g A cells slots Q μ (pc + 3) lv (val :: st)) : V p l e R s m args below meth c nL g A cells slots Q μ (pc) lv (.ref (g.1 k i) :: st) := by
  intro H locs ls hl hP hS
  obtain ⟨p0, hp⟩ := wl_at hi
  exact va_get (D := g.2.1) (cl := vwCl) X.1 X.2.1 X.2.2.2.2.1 hin X.2.2.2.1 X.2.2.2.2.2.1.1 hP p0 ((wl_key hp).trans (by rw [hM])) hc f hf (X.2.2.2.2.1 _ hw) (fun x h => by rw [← hr]; exact h) hv hd (kk H locs ls hl hP hS)
theorem v_putV (X : RC p s m args c cc nL own g A) {k i ci sl : Nat} {fs : List Value} {C : String} {T : u_T} {N index f : Nat} {ref : String} {val : Value} {vi : Int32} {tyf : FieldType} (hi : i < cnt k) (hM : Mr g (μ k i) k i = .inr (ci, fs)) (hM2 : Mr g (upd (μ k i) sl vi) k i = .inr (ci, fs.set f val)) (hc : vwCl[ci]? = some (C, T, N)) (hin : ∀ w ∈ u_ws C T N, w ∈ wsL_law) (ty0 : Nat → FieldType) (hty : ∀ k, k < N → parseFieldDescriptor (T k).2.2.1 = some (ty0 k)) (hnm : ∀ a, a < N → ∀ b, b < N → a ≠ b → (T a).2.1 ≠ (T b).2.1) (hf : f < N) (hw : (Cond.fieldLink own index ref (T f).2.1 (T f).2.2.1) ∈ wsL_law) (hr : (T f).1 = ref) (hfin : (T f).2.2.2 = false) (hdsc : parseFieldDescriptor (T f).2.2.1 = some tyf) (hn : narrow tyf val = val) (hfit : fits tyf val = true) (hlen : f < fs.length) (hd : decode cc pc = .ok (.putfield index, 3)) (kk : V p l e R s m args below meth c nL g A cells slots Q (ms μ k i sl vi) (pc + 3) lv (st)) : V p l e R s m args below meth c nL g A cells slots Q μ (pc) lv (val :: .ref (g.1 k i) :: st) := by
  intro H locs ls hl hP hS
  obtain ⟨p0, hp⟩ := wl_at hi
  refine va_put (D := g.2.1) (cl := vwCl) X.1 X.2.1 X.2.2.2.2.1 hin ty0 hty hnm X.2.2.2.1 X.2.2.2.2.2.1.1 hP (wl_D X.2.2.2.2.2.2.1 X.2.2.2.2.2.2.2) hS p0 ((wl_key hp).trans (by rw [hM])) hc f hf (X.2.2.2.2.1 _ hw) (fun x h => by rw [← hr]; exact h) hfin hdsc hn hfit hlen hd (fun H1 locs1 hP1 _ hS1 => ?_)
  rw [← hM2, wl_set hp] at hP1
  exact kk H1 locs1 ls hl hP1 hS1
theorem v_ialdK (X : RC p s m args c cc nL own g A) {k i n : Nat} {x : Int32} {f : Int32 → Prop} (hi : i < cnt k) (hM : Mr g (μ k i) k i = .inl (g.2.2.1, n, .inl (μ k i))) (h : vp_in x n ∧ ∀ y : Int32, y = μ k i x.toNatClampNeg → f y) (hd : decode cc pc = .ok (.iaload, 1)) (kk : ∀ y : Int32, f y → V p l e R s m args below meth c nL g A cells slots Q μ (pc + 1) lv (.int y :: st)) : V p l e R s m args below meth c nL g A cells slots Q μ (pc) lv (.int x :: .ref (g.1 k i) :: st) := by
  intro H locs ls hl hP hS
  obtain ⟨p0, hp⟩ := wl_at hi
  exact va_iald (D := g.2.1) (cl := vwCl) X.1 X.2.1 X.2.2.2.2.2.1.1 hP p0 0 ((wl_key hp).trans (by rw [hM])) rfl h.1 hd (kk _ (h.2 _ rfl) H locs ls hl hP hS)
theorem v_zaldK (X : RC p s m args c cc nL own g A) {k i n : Nat} {x : Int32} {f : Int32 → Prop} (hi : i < cnt k) (hM : Mr g (μ k i) k i = .inl (g.2.2.2.1, n, .inl (μ k i))) (h : vp_in x n ∧ ∀ y : Int32, y = μ k i x.toNatClampNeg → f y) (hd : decode cc pc = .ok (.baload, 1)) (kk : ∀ y : Int32, f y → V p l e R s m args below meth c nL g A cells slots Q μ (pc + 1) lv (.int y :: st)) : V p l e R s m args below meth c nL g A cells slots Q μ (pc) lv (.int x :: .ref (g.1 k i) :: st) := by
  intro H locs ls hl hP hS
  obtain ⟨p0, hp⟩ := wl_at hi
  exact va_zald (D := g.2.1) (cl := vwCl) X.1 X.2.1 X.2.2.2.2.2.1.1 hP p0 1 ((wl_key hp).trans (by rw [hM])) rfl h.1 hd (kk _ (h.2 _ rfl) H locs ls hl hP hS)
theorem v_iastK (X : RC p s m args c cc nL own g A) {k i n : Nat} {x y : Int32} {f : Mem → Prop} (hi : i < cnt k) (hM : ∀ r : Nat → Int32, Mr g r k i = .inl (g.2.2.1, n, .inl r)) (h : vp_in x n ∧ ∀ μ1 : Mem, μ1 = ms μ k i x.toNatClampNeg y → f μ1) (hd : decode cc pc = .ok (.iastore, 1)) (kk : ∀ μ1 : Mem, f μ1 → V p l e R s m args below meth c nL g A cells slots Q μ1 (pc + 1) lv (st)) : V p l e R s m args below meth c nL g A cells slots Q μ (pc) lv (.int y :: .int x :: .ref (g.1 k i) :: st) := by
  intro H locs ls hl hP hS
  obtain ⟨p0, hp⟩ := wl_at hi
  refine va_iast (D := g.2.1) (cl := vwCl) X.1 X.2.1 X.2.2.2.2.2.1.1 hP (wl_D X.2.2.2.2.2.2.1 X.2.2.2.2.2.2.2) hS p0 0 ((wl_key hp).trans (by rw [hM])) rfl h.1 hd (fun H1 locs1 hP1 _ hS1 => ?_)
  rw [← hM, wl_set hp] at hP1
  exact kk _ (h.2 _ rfl) H1 locs1 ls hl hP1 hS1
theorem v_zastK (X : RC p s m args c cc nL own g A) {k i n : Nat} {x y : Int32} {f : Mem → Prop} (hi : i < cnt k) (hM : ∀ r : Nat → Int32, Mr g r k i = .inl (g.2.2.2.1, n, .inl r)) (h : nz y ∧ vp_in x n ∧ ∀ μ1 : Mem, μ1 = ms μ k i x.toNatClampNeg y → f μ1) (hd : decode cc pc = .ok (.bastore, 1)) (kk : ∀ μ1 : Mem, f μ1 → V p l e R s m args below meth c nL g A cells slots Q μ1 (pc + 1) lv (st)) : V p l e R s m args below meth c nL g A cells slots Q μ (pc) lv (.int y :: .int x :: .ref (g.1 k i) :: st) := by
  intro H locs ls hl hP hS
  obtain ⟨p0, hp⟩ := wl_at hi
  refine va_zast (D := g.2.1) (cl := vwCl) X.1 X.2.1 X.2.2.2.2.2.1.1 hP (wl_D X.2.2.2.2.2.2.1 X.2.2.2.2.2.2.2) hS p0 1 ((wl_key hp).trans (by rw [hM])) rfl h.2.1 hd (fun H1 locs1 hP1 _ hS1 => ?_)
  rw [nz_vnar h.1, ← hM, wl_set hp] at hP1
  exact kk _ (h.2.2 _ rfl) H1 locs1 ls hl hP1 hS1
theorem v_nodes (X : RC p s m args c cc nL own g A) {i : Nat} {x : Int32} {f : Nat → Prop} (hi : i < 4) (h : vp_in x 6 ∧ ∀ j : Nat, j = 6 * i + x.toNatClampNeg → f j) (hd : decode cc pc = .ok (.aaload, 1)) (kk : ∀ j : Nat, j < 24 → f j → V p l e R s m args below meth c nL g A cells slots Q μ (pc + 1) lv (.ref (g.1 3 j) :: st)) : V p l e R s m args below meth c nL g A cells slots Q μ (pc) lv (.int x :: .ref (g.1 13 i) :: st) := by
  intro H locs ls hl hP hS
  obtain ⟨p0, hp⟩ := wl_at (k := 13) (i := i) hi
  have hlt : x.toNatClampNeg < 6 := Nat.not_le.mp fun q => h.1 (Or.inr q)
  exact va_aldq (D := g.2.1) (cl := vwCl) X.1 X.2.1 X.2.2.2.2.2.1.1 hP p0 3 (wl_key hp) rfl h.1 hd (kk (6 * i + x.toNatClampNeg) (by omega) (h.2 _ rfl) H locs ls hl hP hS)
theorem v_images (X : RC p s m args c cc nL own g A) {x : Int32} {f : Nat → Prop} (h : vp_in x 2 ∧ ∀ j : Nat, j = 2 + x.toNatClampNeg → f j) (hd : decode cc pc = .ok (.aaload, 1)) (kk : ∀ j : Nat, j < 4 → f j → V p l e R s m args below meth c nL g A cells slots Q μ (pc + 1) lv (.ref (g.1 0 j) :: st)) : V p l e R s m args below meth c nL g A cells slots Q μ (pc) lv (.int x :: .ref (g.1 14 0) :: st) := by
  intro H locs ls hl hP hS
  obtain ⟨p0, hp⟩ := wl_at (k := 14) (i := 0) (show 0 < 1 by omega)
  have hlt : x.toNatClampNeg < 2 := Nat.not_le.mp fun q => h.1 (Or.inr q)
  exact va_aldq (D := g.2.1) (cl := vwCl) X.1 X.2.1 X.2.2.2.2.2.1.1 hP p0 2 (wl_key hp) rfl h.1 hd (kk (2 + x.toNatClampNeg) (by omega) (h.2 _ rfl) H locs ls hl hP hS)
theorem v_alen (X : RC p s m args c cc nL own g A) {k i t0 : Nat} {cA : ClassId} {a : vp_A} {ty : FieldType} {y : Int32} (hi : i < cnt k) (hM : Mr g (μ k i) k i = .inl (cA, a)) (ht : (tysW g)[t0]? = some (cA, ty)) (hv : nI a.1 = y) (hd : decode cc pc = .ok (.arraylength, 1)) (kk : V p l e R s m args below meth c nL g A cells slots Q μ (pc + 1) lv (.int y :: st)) : V p l e R s m args below meth c nL g A cells slots Q μ (pc) lv (.ref (g.1 k i) :: st) := by
  intro H locs ls hl hP hS
  obtain ⟨p0, hp⟩ := wl_at hi
  exact va_alen (D := g.2.1) (cl := vwCl) X.1 X.2.1 X.2.2.2.2.2.1.1 hP p0 t0 ((wl_key hp).trans (by rw [hM])) ht hv hd (kk H locs ls hl hP hS)
theorem v_mmax (X : RC p s m args c cc nL own g A) {index : Nat} {x y : Int32} {f : Int32 → Prop} (hw : (Cond.methodLink own index Lib.Math.max.name) ∈ wsL_law) (hst : (Cond.static Lib.Math.max.name) ∈ wsL_law) (hin : (Cond.initialized "java/lang/Math") ∈ wsL_law) (hco : (Cond.code Lib.Math.max.name Lib.Math.max.code 2 (some .int)) ∈ wsL_law) (hfr : 1 ≤ R.frames) (hlo : (st.map fun v => v.category).sum + 13 ≤ R.locals) (hcs : cells ≤ R.cells) (hss : slots ≤ R.slots) (h : ∀ z : Int32, z = (if x < y then y else x) → f z) (hd : decode cc pc = .ok (.invokestatic index, 3)) (kk : ∀ z : Int32, f z → V p l e R s m args below meth c nL g A cells slots Q μ (pc + 3) lv (.int z :: st)) : V p l e R s m args below meth c nL g A cells slots Q μ (pc) lv (.int y :: .int x :: st) := fun H locs ls hl hP hS => va_mmax X.1 X.2.1 (X.2.2.1.trans hl.1.symm) X.2.2.2.1 (X.2.2.2.2.1 _ hw) (X.2.2.2.2.1 _ hst) (X.2.2.2.2.1 _ hin) (X.2.2.2.2.1 _ hco) hfr hlo hcs hss hd (kk _ (h _ rfl) H locs ls hl hP hS)
theorem v_mmin (X : RC p s m args c cc nL own g A) {index : Nat} {x y : Int32} {f : Int32 → Prop} (hw : (Cond.methodLink own index Lib.Math.min.name) ∈ wsL_law) (hst : (Cond.static Lib.Math.min.name) ∈ wsL_law) (hin : (Cond.initialized "java/lang/Math") ∈ wsL_law) (hco : (Cond.code Lib.Math.min.name Lib.Math.min.code 2 (some .int)) ∈ wsL_law) (hfr : 1 ≤ R.frames) (hlo : (st.map fun v => v.category).sum + 13 ≤ R.locals) (hcs : cells ≤ R.cells) (hss : slots ≤ R.slots) (h : ∀ z : Int32, z = (if y < x then y else x) → f z) (hd : decode cc pc = .ok (.invokestatic index, 3)) (kk : ∀ z : Int32, f z → V p l e R s m args below meth c nL g A cells slots Q μ (pc + 3) lv (.int z :: st)) : V p l e R s m args below meth c nL g A cells slots Q μ (pc) lv (.int y :: .int x :: st) := fun H locs ls hl hP hS => va_mmin X.1 X.2.1 (X.2.2.1.trans hl.1.symm) X.2.2.2.1 (X.2.2.2.2.1 _ hw) (X.2.2.2.2.1 _ hst) (X.2.2.2.2.1 _ hin) (X.2.2.2.2.1 _ hco) hfr hlo hcs hss hd (kk _ (h _ rfl) H locs ls hl hP hS)
theorem v_mabs (X : RC p s m args c cc nL own g A) {index : Nat} {x : Int32} {f : Int32 → Prop} (hw : (Cond.methodLink own index Lib.Math.abs.name) ∈ wsL_law) (hst : (Cond.static Lib.Math.abs.name) ∈ wsL_law) (hin : (Cond.initialized "java/lang/Math") ∈ wsL_law) (hco : (Cond.code Lib.Math.abs.name Lib.Math.abs.code 1 (some .int)) ∈ wsL_law) (hfr : 1 ≤ R.frames) (hlo : (st.map fun v => v.category).sum + 13 ≤ R.locals) (hcs : cells ≤ R.cells) (hss : slots ≤ R.slots) (h : ∀ z : Int32, z = (if 0 ≤ x then x else 0 - x) → f z) (hd : decode cc pc = .ok (.invokestatic index, 3)) (kk : ∀ z : Int32, f z → V p l e R s m args below meth c nL g A cells slots Q μ (pc + 3) lv (.int z :: st)) : V p l e R s m args below meth c nL g A cells slots Q μ (pc) lv (.int x :: st) := fun H locs ls hl hP hS => va_mabs X.1 X.2.1 (X.2.2.1.trans hl.1.symm) X.2.2.2.1 (X.2.2.2.2.1 _ hw) (X.2.2.2.2.1 _ hst) (X.2.2.2.2.1 _ hin) (X.2.2.2.2.1 _ hco) hfr hlo hcs hss hd (kk _ (h _ rfl) H locs ls hl hP hS)
theorem v_callVi (X : RC p s m args c cc nL own g A) {index n maxL : Nat} {y : MethodName} {bytes : ByteArray} {ret : Option FieldType} {rm : Room} {As st1 : List Value} {q : Int32 → Mem → Prop} {k i ci : Nat} {fs : List Value} {C : String} {T : u_T} {N : Nat} (hMet : Met l y (Cond.code y bytes maxL ret :: wsL_law) rm (KP g (.ref (g.1 k i) :: As) μ) (KQi g q) 0 0 (AA g)) (hco : (Cond.code y bytes maxL ret) ∈ wsL_law) (hw : (Cond.methodLink own index y) ∈ wsL_law) (hins : (Cond.instanceMethod y) ∈ wsL_law) (hsel : (Cond.selects C y y) ∈ wsL_law) (hini : (Cond.initialized y.cls) ∈ wsL_law) (hrc : rm.cells = 0 ∧ rm.slots = 0) (hdc : y.cls ≠ "java/lang/invoke/MethodHandle" ∧ y.cls ≠ "java/lang/invoke/VarHandle" ∧ (parseMethodDescriptor y.desc).map (fun d => d.parameters.length) = some n) (hR : rm.frames + 1 ≤ R.frames ∧ 8 + (maxL + 11) + rm.locals ≤ R.locals) (hcs : cells ≤ R.cells ∧ slots ≤ R.slots) (hi : i < cnt k) (hM : Mr g (μ k i) k i = .inr (ci, fs)) (hc : vwCl[ci]? = some (C, T, N)) (hn : As.length = n) (hst1 : st1 = As.reverse ++ .ref (g.1 k i) :: st) (hro : (st.map fun v => v.category).sum ≤ 8) (hd : decode cc pc = .ok (.invokevirtual index, 3)) (kk : ∀ (z : Int32) (μ1 : Mem), q z μ1 → V p l e R s m args below meth c nL g A cells slots Q μ1 (pc + 3) lv (.int z :: st)) : V p l e R s m args below meth c nL g A cells slots Q μ (pc) lv (st1) := by
  subst hst1
  intro H locs ls hl hP hS
  have hts := X.2.2.2.2.1
  obtain ⟨p0, hp⟩ := wl_at hi
  exact va_calli (va_runV (As := As) (rest := st) ⟨X.1, X.2.1, X.2.2.1, X.2.2.2.1, hts⟩ hMet ⟨callB_of n hts (wsL_goodIn0 hco) rfl hrc.1 hrc.2 (hts _ hini) (hts _ hw) hdc hR, hts _ hins, hts _ hsel⟩ ⟨KP.blind, va_recv (q := (C, T, N)) X.2.2.2.2.2.1.1 hP hc ((wl_key hp).trans (by rw [hM])), fun U hU hW => ⟨rfl, by rw [hU]; exact hP, WK.warm hW X.2.2.2.2.2.1⟩⟩ rfl hn hl.1 rfl (lv_room hro) hd ⟨hcs.1, hcs.2⟩) hS (fun q _ h => X.2.2.2.2.2.2.2 q h) (fun q h => X.2.2.2.2.2.2.2 q h) (fun z u t H1 locs1 ht hvm hw2 hB hz1 hk1 hS1 => kk z u hw2 H1 locs1 ls hl (by rw [← ht]; exact hB) hS1)
theorem v_callVv (X : RC p s m args c cc nL own g A) {index n maxL : Nat} {y : MethodName} {bytes : ByteArray} {ret : Option FieldType} {rm : Room} {As st1 : List Value} {q : Mem → Prop} {k i ci : Nat} {fs : List Value} {C : String} {T : u_T} {N : Nat} (hMet : Met l y (Cond.code y bytes maxL ret :: wsL_law) rm (KP g (.ref (g.1 k i) :: As) μ) (KQv g q) 0 0 (AA g)) (hco : (Cond.code y bytes maxL ret) ∈ wsL_law) (hw : (Cond.methodLink own index y) ∈ wsL_law) (hins : (Cond.instanceMethod y) ∈ wsL_law) (hsel : (Cond.selects C y y) ∈ wsL_law) (hini : (Cond.initialized y.cls) ∈ wsL_law) (hrc : rm.cells = 0 ∧ rm.slots = 0) (hdc : y.cls ≠ "java/lang/invoke/MethodHandle" ∧ y.cls ≠ "java/lang/invoke/VarHandle" ∧ (parseMethodDescriptor y.desc).map (fun d => d.parameters.length) = some n) (hR : rm.frames + 1 ≤ R.frames ∧ 8 + (maxL + 11) + rm.locals ≤ R.locals) (hcs : cells ≤ R.cells ∧ slots ≤ R.slots) (hi : i < cnt k) (hM : Mr g (μ k i) k i = .inr (ci, fs)) (hc : vwCl[ci]? = some (C, T, N)) (hn : As.length = n) (hst1 : st1 = As.reverse ++ .ref (g.1 k i) :: st) (hro : (st.map fun v => v.category).sum ≤ 8) (hd : decode cc pc = .ok (.invokevirtual index, 3)) (kk : ∀ μ1 : Mem, q μ1 → V p l e R s m args below meth c nL g A cells slots Q μ1 (pc + 3) lv (st)) : V p l e R s m args below meth c nL g A cells slots Q μ (pc) lv (st1) := by
  subst hst1
  intro H locs ls hl hP hS
  have hts := X.2.2.2.2.1
  obtain ⟨p0, hp⟩ := wl_at hi
  exact va_callv (va_runV (As := As) (rest := st) ⟨X.1, X.2.1, X.2.2.1, X.2.2.2.1, hts⟩ hMet ⟨callB_of n hts (wsL_goodIn0 hco) rfl hrc.1 hrc.2 (hts _ hini) (hts _ hw) hdc hR, hts _ hins, hts _ hsel⟩ ⟨KP.blind, va_recv (q := (C, T, N)) X.2.2.2.2.2.1.1 hP hc ((wl_key hp).trans (by rw [hM])), fun U hU hW => ⟨rfl, by rw [hU]; exact hP, WK.warm hW X.2.2.2.2.2.1⟩⟩ rfl hn hl.1 rfl (lv_room hro) hd ⟨hcs.1, hcs.2⟩) hS (fun q _ h => X.2.2.2.2.2.2.2 q h) (fun q h => X.2.2.2.2.2.2.2 q h) (fun u t H1 locs1 ht hvm hw2 hB hz1 hk1 hS1 => kk u hw2 H1 locs1 ls hl (by rw [← ht]; exact hB) hS1)
theorem v_callSi (X : RC p s m args c cc nL own g A) {index n maxL : Nat} {y : MethodName} {bytes : ByteArray} {ret : Option FieldType} {rm : Room} {As st1 : List Value} {q : Int32 → Mem → Prop} (hMet : Met l y (Cond.code y bytes maxL ret :: wsL_law) rm (KP g As μ) (KQi g q) 0 0 (AA g)) (hco : (Cond.code y bytes maxL ret) ∈ wsL_law) (hw : (Cond.methodLink own index y) ∈ wsL_law) (hst : (Cond.static y) ∈ wsL_law) (hini : (Cond.initialized y.cls) ∈ wsL_law) (hrc : rm.cells = 0 ∧ rm.slots = 0) (hdc : y.cls ≠ "java/lang/invoke/MethodHandle" ∧ y.cls ≠ "java/lang/invoke/VarHandle" ∧ (parseMethodDescriptor y.desc).map (fun d => d.parameters.length) = some n) (hR : rm.frames + 1 ≤ R.frames ∧ 8 + (maxL + 11) + rm.locals ≤ R.locals) (hcs : cells ≤ R.cells ∧ slots ≤ R.slots) (hn : As.length = n) (hst1 : st1 = As.reverse ++ st) (hro : (st.map fun v => v.category).sum ≤ 8) (hd : decode cc pc = .ok (.invokestatic index, 3)) (kk : ∀ (z : Int32) (μ1 : Mem), q z μ1 → V p l e R s m args below meth c nL g A cells slots Q μ1 (pc + 3) lv (.int z :: st)) : V p l e R s m args below meth c nL g A cells slots Q μ (pc) lv (st1) := by
  subst hst1
  intro H locs ls hl hP hS
  have hts := X.2.2.2.2.1
  exact va_calli (va_runS (As := As) (rest := st) ⟨X.1, X.2.1, X.2.2.1, X.2.2.2.1, hts⟩ hMet ⟨callB_of n hts (wsL_goodIn0 hco) rfl hrc.1 hrc.2 (hts _ hini) (hts _ hw) hdc hR, hts _ hst⟩ ⟨KP.blind, fun U hU hW => ⟨rfl, by rw [hU]; exact hP, WK.warm hW X.2.2.2.2.2.1⟩⟩ rfl hn hl.1 rfl (lv_room hro) hd ⟨hcs.1, hcs.2⟩) hS (fun q _ h => X.2.2.2.2.2.2.2 q h) (fun q h => X.2.2.2.2.2.2.2 q h) (fun z u t H1 locs1 ht hvm hw2 hB hz1 hk1 hS1 => kk z u hw2 H1 locs1 ls hl (by rw [← ht]; exact hB) hS1)
theorem v_callSv (X : RC p s m args c cc nL own g A) {index n maxL : Nat} {y : MethodName} {bytes : ByteArray} {ret : Option FieldType} {rm : Room} {As st1 : List Value} {q : Mem → Prop} (hMet : Met l y (Cond.code y bytes maxL ret :: wsL_law) rm (KP g As μ) (KQv g q) 0 0 (AA g)) (hco : (Cond.code y bytes maxL ret) ∈ wsL_law) (hw : (Cond.methodLink own index y) ∈ wsL_law) (hst : (Cond.static y) ∈ wsL_law) (hini : (Cond.initialized y.cls) ∈ wsL_law) (hrc : rm.cells = 0 ∧ rm.slots = 0) (hdc : y.cls ≠ "java/lang/invoke/MethodHandle" ∧ y.cls ≠ "java/lang/invoke/VarHandle" ∧ (parseMethodDescriptor y.desc).map (fun d => d.parameters.length) = some n) (hR : rm.frames + 1 ≤ R.frames ∧ 8 + (maxL + 11) + rm.locals ≤ R.locals) (hcs : cells ≤ R.cells ∧ slots ≤ R.slots) (hn : As.length = n) (hst1 : st1 = As.reverse ++ st) (hro : (st.map fun v => v.category).sum ≤ 8) (hd : decode cc pc = .ok (.invokestatic index, 3)) (kk : ∀ μ1 : Mem, q μ1 → V p l e R s m args below meth c nL g A cells slots Q μ1 (pc + 3) lv (st)) : V p l e R s m args below meth c nL g A cells slots Q μ (pc) lv (st1) := by
  subst hst1
  intro H locs ls hl hP hS
  have hts := X.2.2.2.2.1
  exact va_callv (va_runS (As := As) (rest := st) ⟨X.1, X.2.1, X.2.2.1, X.2.2.2.1, hts⟩ hMet ⟨callB_of n hts (wsL_goodIn0 hco) rfl hrc.1 hrc.2 (hts _ hini) (hts _ hw) hdc hR, hts _ hst⟩ ⟨KP.blind, fun U hU hW => ⟨rfl, by rw [hU]; exact hP, WK.warm hW X.2.2.2.2.2.1⟩⟩ rfl hn hl.1 rfl (lv_room hro) hd ⟨hcs.1, hcs.2⟩) hS (fun q _ h => X.2.2.2.2.2.2.2 q h) (fun q h => X.2.2.2.2.2.2.2 q h) (fun u t H1 locs1 ht hvm hw2 hB hz1 hk1 hS1 => kk u hw2 H1 locs1 ls hl (by rw [← ht]; exact hB) hS1)
theorem v_callNi (X : RC p s m args c cc nL own g A) {index n maxL : Nat} {y : MethodName} {bytes : ByteArray} {ret : Option FieldType} {rm : Room} {As st1 : List Value} {q : Int32 → Mem → Prop} (hMet : Met l y (Cond.code y bytes maxL ret :: wsL_law) rm (KP g As μ) (KQi g q) 0 0 (AA g)) (hco : (Cond.code y bytes maxL ret) ∈ wsL_law) (hw : (Cond.methodLinkNest own index y RX5) ∈ nestW) (hst : (Cond.static y) ∈ wsL_law) (hini : (Cond.initialized y.cls) ∈ wsL_law) (hrc : rm.cells = 0 ∧ rm.slots = 0) (hdc : y.cls ≠ "java/lang/invoke/MethodHandle" ∧ y.cls ≠ "java/lang/invoke/VarHandle" ∧ (parseMethodDescriptor y.desc).map (fun d => d.parameters.length) = some n) (hR : rm.frames + 1 ≤ R.frames ∧ 8 + (maxL + 11) + rm.locals ≤ R.locals) (hcs : cells ≤ R.cells ∧ slots ≤ R.slots) (hn : As.length = n) (hst1 : st1 = As.reverse ++ st) (hro : (st.map fun v => v.category).sum ≤ 8) (hd : decode cc pc = .ok (.invokestatic index, 3)) (kk : ∀ (z : Int32) (μ1 : Mem), q z μ1 → V p l e R s m args below meth c nL g A cells slots Q μ1 (pc + 3) lv (.int z :: st)) : V p l e R s m args below meth c nL g A cells slots Q μ (pc) lv (st1) := by
  subst hst1
  intro H locs ls hl hP hS
  have hts := X.2.2.2.2.1
  exact va_calli (va_runSN (As := As) (rest := st) ⟨X.1, X.2.1, X.2.2.1, X.2.2.2.1, hts⟩ hMet ⟨va_cnB n hts (wsL_goodIn0 hco) rfl hrc.1 hrc.2 (X.2.2.2.2.2.1.2 _ hw) (hts _ hini) hdc hR, hts _ hst, trivial⟩ ⟨KP.blind, fun U hU hW => ⟨rfl, by rw [hU]; exact hP, WK.warm hW X.2.2.2.2.2.1⟩⟩ rfl hn hl.1 rfl (lv_room hro) hd ⟨hcs.1, hcs.2⟩) hS (fun q _ h => X.2.2.2.2.2.2.2 q h) (fun q h => X.2.2.2.2.2.2.2 q h) (fun z u t H1 locs1 ht hvm hw2 hB hz1 hk1 hS1 => kk z u hw2 H1 locs1 ls hl (by rw [← ht]; exact hB) hS1)
theorem v_callNv (X : RC p s m args c cc nL own g A) {index n maxL : Nat} {y : MethodName} {bytes : ByteArray} {ret : Option FieldType} {rm : Room} {As st1 : List Value} {q : Mem → Prop} (hMet : Met l y (Cond.code y bytes maxL ret :: wsL_law) rm (KP g As μ) (KQv g q) 0 0 (AA g)) (hco : (Cond.code y bytes maxL ret) ∈ wsL_law) (hw : (Cond.methodLinkNest own index y RX5) ∈ nestW) (hst : (Cond.static y) ∈ wsL_law) (hini : (Cond.initialized y.cls) ∈ wsL_law) (hrc : rm.cells = 0 ∧ rm.slots = 0) (hdc : y.cls ≠ "java/lang/invoke/MethodHandle" ∧ y.cls ≠ "java/lang/invoke/VarHandle" ∧ (parseMethodDescriptor y.desc).map (fun d => d.parameters.length) = some n) (hR : rm.frames + 1 ≤ R.frames ∧ 8 + (maxL + 11) + rm.locals ≤ R.locals) (hcs : cells ≤ R.cells ∧ slots ≤ R.slots) (hn : As.length = n) (hst1 : st1 = As.reverse ++ st) (hro : (st.map fun v => v.category).sum ≤ 8) (hd : decode cc pc = .ok (.invokestatic index, 3)) (kk : ∀ μ1 : Mem, q μ1 → V p l e R s m args below meth c nL g A cells slots Q μ1 (pc + 3) lv (st)) : V p l e R s m args below meth c nL g A cells slots Q μ (pc) lv (st1) := by
  subst hst1
  intro H locs ls hl hP hS
  have hts := X.2.2.2.2.1
  exact va_callv (va_runSN (As := As) (rest := st) ⟨X.1, X.2.1, X.2.2.1, X.2.2.2.1, hts⟩ hMet ⟨va_cnB n hts (wsL_goodIn0 hco) rfl hrc.1 hrc.2 (X.2.2.2.2.2.1.2 _ hw) (hts _ hini) hdc hR, hts _ hst, trivial⟩ ⟨KP.blind, fun U hU hW => ⟨rfl, by rw [hU]; exact hP, WK.warm hW X.2.2.2.2.2.1⟩⟩ rfl hn hl.1 rfl (lv_room hro) hd ⟨hcs.1, hcs.2⟩) hS (fun q _ h => X.2.2.2.2.2.2.2 q h) (fun q h => X.2.2.2.2.2.2.2 q h) (fun u t H1 locs1 ht hvm hw2 hB hz1 hk1 hS1 => kk u hw2 H1 locs1 ls hl (by rw [← ht]; exact hB) hS1)
end VV
section VR
variable {p : Program} {l : Launch} {e : Env} {R : Room} {s : State} {m : MethodId} {args : Array Value} {below : List Frame} {meth : Method} {c : Code} {cells slots : Nat}
variable {cc : ByteArray} {nL : Nat} {own : String} {g : GG} {μ : Mem} {pc : Nat} {lv : List (Nat × Value)}
theorem v_iret (X : RC p s m args c cc nL own g (AA g)) (hr : meth.sig.returnType = some .int) (hlocks : meth.locks = false) {q : Int32 → Mem → Prop} {x : Int32} (h : q x μ) (hd : decode cc pc = .ok (.ireturn, 1)) : V p l e R s m args below meth c nL g (AA g) cells slots (MQ below (KQi g q) args s cells slots (AA g)) μ pc lv [.int x] := fun H locs ls hl hP hS => W.iret X.1 X.2.1 hr (fun t ht hW => ⟨⟨x, μ, rfl, h, by subst ht; exact hP⟩, hS.F ht⟩) hS.2.2 hd hlocks
theorem v_zret (X : RC p s m args c cc nL own g (AA g)) (hr : meth.sig.returnType = some .boolean) (hlocks : meth.locks = false) {q : Int32 → Mem → Prop} {x : Int32} (h : nz x ∧ q x μ) (hd : decode cc pc = .ok (.ireturn, 1)) : V p l e R s m args below meth c nL g (AA g) cells slots (MQ below (KQi g q) args s cells slots (AA g)) μ pc lv [.int x] := fun H locs ls hl hP hS => W.zret (ty := .boolean) X.1 X.2.1 hr (nz_nar h.1) (fun t ht hW => ⟨⟨x, μ, rfl, h.2, by subst ht; exact hP⟩, hS.F ht⟩) hS.2.2 hd hlocks
theorem v_vret (X : RC p s m args c cc nL own g (AA g)) (hr : meth.sig.returnType = none) (hlocks : meth.locks = false) {q : Mem → Prop} (h : q μ) (hd : decode cc pc = .ok (.return_, 1)) : V p l e R s m args below meth c nL g (AA g) cells slots (MQ below (KQv g q) args s cells slots (AA g)) μ pc lv [] := fun H locs ls hl hP hS => W.vret X.1 X.2.1 hr (fun t ht hW => ⟨⟨μ, rfl, h, by subst ht; exact hP⟩, hS.F ht⟩) hS.2.2 hd hlocks
end VR
/-- a contract out of a walk -/
theorem met_V {l : Launch} {y : MethodName} {own : String} {rm : Room} {g : GG} {av : List Value} {μ : Mem} {Qc : Array Value → State → Outcome → State → Prop} {cc : ByteArray} {maxL : Nat} {ret : Option FieldType} {lv : List (Nat × Value)} (hI : Inj g) (hy : plainName y.cls = true) (hyc : y.cls = own) (hle : (lg_sl av).length ≤ maxL) (hlv : lv_args 0 av = lv)
    (body : ∀ (p : Program) (e : Env) (s : State) (m : MethodId) (args : Array Value) (below : List Frame) (meth : Method) (c : Code), RC p s m args c cc maxL own g (AA g) → meth.sig.returnType = ret → meth.locks = false → V p l e rm s m args below meth c maxL g (AA g) 0 0 (MQ below Qc args s 0 0 (AA g)) μ 0 lv []) : Met l y (Cond.code y cc maxL ret :: wsL_law) rm (KP g av μ) Qc 0 0 (AA g) := by
  refine Met.ofW (cc := cc) (maxL := maxL) (ret := ret) hy rfl ?_
  intro p e s m args below meth c s₁ B hml hv
  obtain ⟨rfl, hP, hK⟩ := hv
  have hts := atoms_spec (ws := Cond.code y cc maxL ret :: wsL_law) B.pre
  have hown : s.vm.findClass own = some m.cls := by rw [← hyc]; exact findClass_of_methodNamed B.named
  have hl := lv_entry av (n := maxL) hle
  rw [lg_entry_eq]
  rw [hlv] at hl
  exact body p e s m _ below meth c ⟨B.exec, B.bytes, hml, hown, fun w hw => hts w (List.mem_cons_of_mem _ hw), hK, hI, fun _ h => h⟩ B.returns B.notSynchronized s.heap [] _ hl hP va_S.rf
end
section
section VF
variable {p : Program} {l : Launch} {e : Env} {R : Room} {s : State} {m : MethodId} {args : Array Value} {below : List Frame} {meth : Method} {c : Code} {cells slots : Nat} {Q : State → Prop}
variable {cc : ByteArray} {nL : Nat} {own : String} {g : GG} {A : Nat → Prop} {μ : Mem} {pc : Nat} {lv : List (Nat × Value)} {st : List Value}
theorem v_iushr (X : RC p s m args c cc nL own g A) {x y : Int32} (hd : decode cc pc = .ok (.iushr, 1)) (k : V p l e R s m args below meth c nL g A cells slots Q μ (pc + 1) lv (.int ((x.toUInt32 >>> (y.toUInt32 &&& Int32.toUInt32 31)).toInt32) :: st)) : V p l e R s m args below meth c nL g A cells slots Q μ (pc) lv (.int y :: .int x :: st) := fun H locs ls hl hP hS => lv_iushr X.1 X.2.1 hd rfl (k H locs ls hl hP hS)
theorem v_ldcw (X : RC p s m args c cc nL own g A) {ix : Nat} {v : Int32} (hw : (Cond.constant own ix v) ∈ wsL_law) (hd : decode cc pc = .ok (.ldc_w ix, 3)) (k : V p l e R s m args below meth c nL g A cells slots Q μ (pc + 3) lv (.int v :: st)) : V p l e R s m args below meth c nL g A cells slots Q μ (pc) lv (st) := fun H locs ls hl hP hS => lv_ldcw X.1 X.2.1 X.2.2.2.1 (X.2.2.2.2.1 _ hw) hd (k H locs ls hl hP hS)
theorem v_tswK (X : RC p s m args c cc nL own g A) {dflt lo hi : Int} {offs : Array Int} {len : Nat} {x : Int32} {off : Int} {tgt : Nat} (t : Int) (hx : x.toInt = t) (h1 : ¬ t < lo) (h2 : ¬ hi < t) (ho : offs[(t - lo).toNat]? = some off) (ht : (pc : Int) + off = (tgt : Int)) (hd : decode cc pc = .ok (.tableswitch dflt lo hi offs, len)) (k : V p l e R s m args below meth c nL g A cells slots Q μ (tgt) lv (st)) : V p l e R s m args below meth c nL g A cells slots Q μ (pc) lv (.int x :: st) := fun H locs ls hl hP hS => lv_tableIn X.1 X.2.1 hd (by rw [hx]; exact h1) (by rw [hx]; exact h2) (by rw [hx]; exact ho) ht (k H locs ls hl hP hS)
theorem v_tswD (X : RC p s m args c cc nL own g A) {dflt lo hi : Int} {offs : Array Int} {len : Nat} {x : Int32} {tgt : Nat} (h1 : x.toInt < lo ∨ hi < x.toInt) (ht : (pc : Int) + dflt = (tgt : Int)) (hd : decode cc pc = .ok (.tableswitch dflt lo hi offs, len)) (k : V p l e R s m args below meth c nL g A cells slots Q μ (tgt) lv (st)) : V p l e R s m args below meth c nL g A cells slots Q μ (pc) lv (.int x :: st) := fun H locs ls hl hP hS => lv_tableOut X.1 X.2.1 hd h1 ht (k H locs ls hl hP hS)
theorem v_lsw (X : RC p s m args c cc nL own g A) {dflt : Int} {ps : Array (Int × Int)} {len : Nat} {x : Int32} {off : Int} {tgt : Nat} (hp : (ps.toList.zip (ps.toList.drop 1)).all (fun (a, next) => a.1 < next.1) = true) (ho : Op.lookupswitch.offset ps.toList dflt x.toInt = off) (ht : (pc : Int) + off = (tgt : Int)) (hd : decode cc pc = .ok (.lookupswitch dflt ps, len)) (k : V p l e R s m args below meth c nL g A cells slots Q μ (tgt) lv (st)) : V p l e R s m args below meth c nL g A cells slots Q μ (pc) lv (.int x :: st) := fun H locs ls hl hP hS => lv_lookup X.1 X.2.1 hd hp ho ht (k H locs ls hl hP hS)
theorem gf_0_0 (X : RC p s m args c cc nL own g A) {index i : Nat} (hi : i < 4) (hw : (Cond.fieldLink own index "SlotStart$Bus" "nodes" "[LSlotStart$Node;") ∈ wsL_law) (hd : decode cc pc = .ok (.getfield index, 3)) (kk : V p l e R s m args below meth c nL g A cells slots Q μ (pc + 3) lv (.ref (g.1 13 i) :: st)) : V p l e R s m args below meth c nL g A cells slots Q μ (pc) lv (.ref (g.1 0 i) :: st) := v_getV X (k := 0) (f := 0) hi rfl rfl inlX0 (Nat.le_of_ble_eq_true rfl) hw rfl rfl hd kk
theorem gf_0_1 (X : RC p s m args c cc nL own g A) {index i : Nat} (hi : i < 4) (hw : (Cond.fieldLink own index "SlotStart$Bus" "log" "LSlotStart$Log;") ∈ wsL_law) (hd : decode cc pc = .ok (.getfield index, 3)) (kk : V p l e R s m args below meth c nL g A cells slots Q μ (pc + 3) lv (.ref (g.1 2 i) :: st)) : V p l e R s m args below meth c nL g A cells slots Q μ (pc) lv (.ref (g.1 0 i) :: st) := v_getV X (k := 0) (f := 1) hi rfl rfl inlX0 (Nat.le_of_ble_eq_true rfl) hw rfl rfl hd kk
theorem gf_0_2 (X : RC p s m args c cc nL own g A) {index i : Nat} (hi : i < 4) (hw : (Cond.fieldLink own index "SlotStart$Bus" "numbers" "LSlotStart$Numbers;") ∈ wsL_law) (hd : decode cc pc = .ok (.getfield index, 3)) (kk : V p l e R s m args below meth c nL g A cells slots Q μ (pc + 3) lv (.ref (g.1 4 i) :: st)) : V p l e R s m args below meth c nL g A cells slots Q μ (pc) lv (.ref (g.1 0 i) :: st) := v_getV X (k := 0) (f := 2) hi rfl rfl inlX0 (Nat.le_of_ble_eq_true rfl) hw rfl rfl hd kk
theorem gf_0_3 (X : RC p s m args c cc nL own g A) {index i : Nat} {f : Int32 → Prop} (hi : i < 4) (hw : (Cond.fieldLink own index "SlotStart$Bus" "bound" "I") ∈ wsL_law) (h : ∀ y : Int32, y = μ 0 i 3 → f y) (hd : decode cc pc = .ok (.getfield index, 3)) (kk : ∀ y : Int32, f y → V p l e R s m args below meth c nL g A cells slots Q μ (pc + 3) lv (.int y :: st)) : V p l e R s m args below meth c nL g A cells slots Q μ (pc) lv (.ref (g.1 0 i) :: st) := v_getV X (k := 0) (f := 3) hi rfl rfl inlX0 (Nat.le_of_ble_eq_true rfl) hw rfl rfl hd (kk _ (h _ rfl))
theorem pf_0_3 (X : RC p s m args c cc nL own g A) {index i : Nat} {x : Int32} {f : Mem → Prop} (hi : i < 4) (hw : (Cond.fieldLink own index "SlotStart$Bus" "bound" "I") ∈ wsL_law) (h : ∀ μ1 : Mem, μ1 = ms μ 0 i 3 x → f μ1) (hd : decode cc pc = .ok (.putfield index, 3)) (kk : ∀ μ1 : Mem, f μ1 → V p l e R s m args below meth c nL g A cells slots Q μ1 (pc + 3) lv (st)) : V p l e R s m args below meth c nL g A cells slots Q μ (pc) lv (.int x :: .ref (g.1 0 i) :: st) := v_putV X (k := 0) (f := 3) (sl := 3) (vi := x) hi rfl rfl rfl inlX0 tyX0 tyX0_ok nmX0 (Nat.le_of_ble_eq_true rfl) hw rfl rfl (tyX0_ok 3 (Nat.le_of_ble_eq_true rfl)) rfl rfl (Nat.le_of_ble_eq_true rfl) hd (kk _ (h _ rfl))
theorem gf_0_4 (X : RC p s m args c cc nL own g A) {index i : Nat} {f : Int32 → Prop} (hi : i < 4) (hw : (Cond.fieldLink own index "SlotStart$Bus" "cycles" "I") ∈ wsL_law) (h : ∀ y : Int32, y = μ 0 i 4 → f y) (hd : decode cc pc = .ok (.getfield index, 3)) (kk : ∀ y : Int32, f y → V p l e R s m args below meth c nL g A cells slots Q μ (pc + 3) lv (.int y :: st)) : V p l e R s m args below meth c nL g A cells slots Q μ (pc) lv (.ref (g.1 0 i) :: st) := v_getV X (k := 0) (f := 4) hi rfl rfl inlX0 (Nat.le_of_ble_eq_true rfl) hw rfl rfl hd (kk _ (h _ rfl))
theorem pf_0_4 (X : RC p s m args c cc nL own g A) {index i : Nat} {x : Int32} {f : Mem → Prop} (hi : i < 4) (hw : (Cond.fieldLink own index "SlotStart$Bus" "cycles" "I") ∈ wsL_law) (h : ∀ μ1 : Mem, μ1 = ms μ 0 i 4 x → f μ1) (hd : decode cc pc = .ok (.putfield index, 3)) (kk : ∀ μ1 : Mem, f μ1 → V p l e R s m args below meth c nL g A cells slots Q μ1 (pc + 3) lv (st)) : V p l e R s m args below meth c nL g A cells slots Q μ (pc) lv (.int x :: .ref (g.1 0 i) :: st) := v_putV X (k := 0) (f := 4) (sl := 4) (vi := x) hi rfl rfl rfl inlX0 tyX0 tyX0_ok nmX0 (Nat.le_of_ble_eq_true rfl) hw rfl rfl (tyX0_ok 4 (Nat.le_of_ble_eq_true rfl)) rfl rfl (Nat.le_of_ble_eq_true rfl) hd (kk _ (h _ rfl))
theorem gf_0_5 (X : RC p s m args c cc nL own g A) {index i : Nat} {f : Int32 → Prop} (hi : i < 4) (hw : (Cond.fieldLink own index "SlotStart$Bus" "senders" "I") ∈ wsL_law) (h : ∀ y : Int32, y = μ 0 i 5 → f y) (hd : decode cc pc = .ok (.getfield index, 3)) (kk : ∀ y : Int32, f y → V p l e R s m args below meth c nL g A cells slots Q μ (pc + 3) lv (.int y :: st)) : V p l e R s m args below meth c nL g A cells slots Q μ (pc) lv (.ref (g.1 0 i) :: st) := v_getV X (k := 0) (f := 5) hi rfl rfl inlX0 (Nat.le_of_ble_eq_true rfl) hw rfl rfl hd (kk _ (h _ rfl))
theorem pf_0_5 (X : RC p s m args c cc nL own g A) {index i : Nat} {x : Int32} {f : Mem → Prop} (hi : i < 4) (hw : (Cond.fieldLink own index "SlotStart$Bus" "senders" "I") ∈ wsL_law) (h : ∀ μ1 : Mem, μ1 = ms μ 0 i 5 x → f μ1) (hd : decode cc pc = .ok (.putfield index, 3)) (kk : ∀ μ1 : Mem, f μ1 → V p l e R s m args below meth c nL g A cells slots Q μ1 (pc + 3) lv (st)) : V p l e R s m args below meth c nL g A cells slots Q μ (pc) lv (.int x :: .ref (g.1 0 i) :: st) := v_putV X (k := 0) (f := 5) (sl := 5) (vi := x) hi rfl rfl rfl inlX0 tyX0 tyX0_ok nmX0 (Nat.le_of_ble_eq_true rfl) hw rfl rfl (tyX0_ok 5 (Nat.le_of_ble_eq_true rfl)) rfl rfl (Nat.le_of_ble_eq_true rfl) hd (kk _ (h _ rfl))
theorem gf_1_0 (X : RC p s m args c cc nL own g A) {index i : Nat} {f : Int32 → Prop} (hi : i < 48) (hw : (Cond.fieldLink own index "SlotStart$Hearing" "heard" "I") ∈ wsL_law) (h : ∀ y : Int32, y = μ 1 i 0 → f y) (hd : decode cc pc = .ok (.getfield index, 3)) (kk : ∀ y : Int32, f y → V p l e R s m args below meth c nL g A cells slots Q μ (pc + 3) lv (.int y :: st)) : V p l e R s m args below meth c nL g A cells slots Q μ (pc) lv (.ref (g.1 1 i) :: st) := v_getV X (k := 1) (f := 0) hi rfl rfl inlX1 (Nat.le_of_ble_eq_true rfl) hw rfl rfl hd (kk _ (h _ rfl))
theorem pf_1_0 (X : RC p s m args c cc nL own g A) {index i : Nat} {x : Int32} {f : Mem → Prop} (hi : i < 48) (hw : (Cond.fieldLink own index "SlotStart$Hearing" "heard" "I") ∈ wsL_law) (h : ∀ μ1 : Mem, μ1 = ms μ 1 i 0 x → f μ1) (hd : decode cc pc = .ok (.putfield index, 3)) (kk : ∀ μ1 : Mem, f μ1 → V p l e R s m args below meth c nL g A cells slots Q μ1 (pc + 3) lv (st)) : V p l e R s m args below meth c nL g A cells slots Q μ (pc) lv (.int x :: .ref (g.1 1 i) :: st) := v_putV X (k := 1) (f := 0) (sl := 0) (vi := x) hi rfl rfl rfl inlX1 tyX1 tyX1_ok nmX1 (Nat.le_of_ble_eq_true rfl) hw rfl rfl (tyX1_ok 0 (Nat.le_of_ble_eq_true rfl)) rfl rfl (Nat.le_of_ble_eq_true rfl) hd (kk _ (h _ rfl))
theorem gf_1_1 (X : RC p s m args c cc nL own g A) {index i : Nat} {f : Int32 → Prop} (hi : i < 48) (hw : (Cond.fieldLink own index "SlotStart$Hearing" "starters" "I") ∈ wsL_law) (h : ∀ y : Int32, y = μ 1 i 1 → f y) (hd : decode cc pc = .ok (.getfield index, 3)) (kk : ∀ y : Int32, f y → V p l e R s m args below meth c nL g A cells slots Q μ (pc + 3) lv (.int y :: st)) : V p l e R s m args below meth c nL g A cells slots Q μ (pc) lv (.ref (g.1 1 i) :: st) := v_getV X (k := 1) (f := 1) hi rfl rfl inlX1 (Nat.le_of_ble_eq_true rfl) hw rfl rfl hd (kk _ (h _ rfl))
theorem pf_1_1 (X : RC p s m args c cc nL own g A) {index i : Nat} {x : Int32} {f : Mem → Prop} (hi : i < 48) (hw : (Cond.fieldLink own index "SlotStart$Hearing" "starters" "I") ∈ wsL_law) (h : ∀ μ1 : Mem, μ1 = ms μ 1 i 1 x → f μ1) (hd : decode cc pc = .ok (.putfield index, 3)) (kk : ∀ μ1 : Mem, f μ1 → V p l e R s m args below meth c nL g A cells slots Q μ1 (pc + 3) lv (st)) : V p l e R s m args below meth c nL g A cells slots Q μ (pc) lv (.int x :: .ref (g.1 1 i) :: st) := v_putV X (k := 1) (f := 1) (sl := 1) (vi := x) hi rfl rfl rfl inlX1 tyX1 tyX1_ok nmX1 (Nat.le_of_ble_eq_true rfl) hw rfl rfl (tyX1_ok 1 (Nat.le_of_ble_eq_true rfl)) rfl rfl (Nat.le_of_ble_eq_true rfl) hd (kk _ (h _ rfl))
theorem gf_1_2 (X : RC p s m args c cc nL own g A) {index i : Nat} {f : Int32 → Prop} (hi : i < 48) (hw : (Cond.fieldLink own index "SlotStart$Hearing" "guide" "I") ∈ wsL_law) (h : ∀ y : Int32, y = μ 1 i 2 → f y) (hd : decode cc pc = .ok (.getfield index, 3)) (kk : ∀ y : Int32, f y → V p l e R s m args below meth c nL g A cells slots Q μ (pc + 3) lv (.int y :: st)) : V p l e R s m args below meth c nL g A cells slots Q μ (pc) lv (.ref (g.1 1 i) :: st) := v_getV X (k := 1) (f := 2) hi rfl rfl inlX1 (Nat.le_of_ble_eq_true rfl) hw rfl rfl hd (kk _ (h _ rfl))
theorem pf_1_2 (X : RC p s m args c cc nL own g A) {index i : Nat} {x : Int32} {f : Mem → Prop} (hi : i < 48) (hw : (Cond.fieldLink own index "SlotStart$Hearing" "guide" "I") ∈ wsL_law) (h : ∀ μ1 : Mem, μ1 = ms μ 1 i 2 x → f μ1) (hd : decode cc pc = .ok (.putfield index, 3)) (kk : ∀ μ1 : Mem, f μ1 → V p l e R s m args below meth c nL g A cells slots Q μ1 (pc + 3) lv (st)) : V p l e R s m args below meth c nL g A cells slots Q μ (pc) lv (.int x :: .ref (g.1 1 i) :: st) := v_putV X (k := 1) (f := 2) (sl := 2) (vi := x) hi rfl rfl rfl inlX1 tyX1 tyX1_ok nmX1 (Nat.le_of_ble_eq_true rfl) hw rfl rfl (tyX1_ok 2 (Nat.le_of_ble_eq_true rfl)) rfl rfl (Nat.le_of_ble_eq_true rfl) hd (kk _ (h _ rfl))
theorem gf_1_3 (X : RC p s m args c cc nL own g A) {index i : Nat} {f : Int32 → Prop} (hi : i < 48) (hw : (Cond.fieldLink own index "SlotStart$Hearing" "guideSlot" "I") ∈ wsL_law) (h : ∀ y : Int32, y = μ 1 i 3 → f y) (hd : decode cc pc = .ok (.getfield index, 3)) (kk : ∀ y : Int32, f y → V p l e R s m args below meth c nL g A cells slots Q μ (pc + 3) lv (.int y :: st)) : V p l e R s m args below meth c nL g A cells slots Q μ (pc) lv (.ref (g.1 1 i) :: st) := v_getV X (k := 1) (f := 3) hi rfl rfl inlX1 (Nat.le_of_ble_eq_true rfl) hw rfl rfl hd (kk _ (h _ rfl))
theorem pf_1_3 (X : RC p s m args c cc nL own g A) {index i : Nat} {x : Int32} {f : Mem → Prop} (hi : i < 48) (hw : (Cond.fieldLink own index "SlotStart$Hearing" "guideSlot" "I") ∈ wsL_law) (h : ∀ μ1 : Mem, μ1 = ms μ 1 i 3 x → f μ1) (hd : decode cc pc = .ok (.putfield index, 3)) (kk : ∀ μ1 : Mem, f μ1 → V p l e R s m args below meth c nL g A cells slots Q μ1 (pc + 3) lv (st)) : V p l e R s m args below meth c nL g A cells slots Q μ (pc) lv (.int x :: .ref (g.1 1 i) :: st) := v_putV X (k := 1) (f := 3) (sl := 3) (vi := x) hi rfl rfl rfl inlX1 tyX1 tyX1_ok nmX1 (Nat.le_of_ble_eq_true rfl) hw rfl rfl (tyX1_ok 3 (Nat.le_of_ble_eq_true rfl)) rfl rfl (Nat.le_of_ble_eq_true rfl) hd (kk _ (h _ rfl))
theorem gf_1_4 (X : RC p s m args c cc nL own g A) {index i : Nat} {f : Int32 → Prop} (hi : i < 48) (hw : (Cond.fieldLink own index "SlotStart$Hearing" "guideSeen" "I") ∈ wsL_law) (h : ∀ y : Int32, y = μ 1 i 4 → f y) (hd : decode cc pc = .ok (.getfield index, 3)) (kk : ∀ y : Int32, f y → V p l e R s m args below meth c nL g A cells slots Q μ (pc + 3) lv (.int y :: st)) : V p l e R s m args below meth c nL g A cells slots Q μ (pc) lv (.ref (g.1 1 i) :: st) := v_getV X (k := 1) (f := 4) hi rfl rfl inlX1 (Nat.le_of_ble_eq_true rfl) hw rfl rfl hd (kk _ (h _ rfl))
theorem pf_1_4 (X : RC p s m args c cc nL own g A) {index i : Nat} {x : Int32} {f : Mem → Prop} (hi : i < 48) (hw : (Cond.fieldLink own index "SlotStart$Hearing" "guideSeen" "I") ∈ wsL_law) (h : ∀ μ1 : Mem, μ1 = ms μ 1 i 4 x → f μ1) (hd : decode cc pc = .ok (.putfield index, 3)) (kk : ∀ μ1 : Mem, f μ1 → V p l e R s m args below meth c nL g A cells slots Q μ1 (pc + 3) lv (st)) : V p l e R s m args below meth c nL g A cells slots Q μ (pc) lv (.int x :: .ref (g.1 1 i) :: st) := v_putV X (k := 1) (f := 4) (sl := 4) (vi := x) hi rfl rfl rfl inlX1 tyX1 tyX1_ok nmX1 (Nat.le_of_ble_eq_true rfl) hw rfl rfl (tyX1_ok 4 (Nat.le_of_ble_eq_true rfl)) rfl rfl (Nat.le_of_ble_eq_true rfl) hd (kk _ (h _ rfl))
theorem gf_1_5 (X : RC p s m args c cc nL own g A) {index i : Nat} {f : Int32 → Prop} (hi : i < 48) (hw : (Cond.fieldLink own index "SlotStart$Hearing" "guidePace" "I") ∈ wsL_law) (h : ∀ y : Int32, y = μ 1 i 5 → f y) (hd : decode cc pc = .ok (.getfield index, 3)) (kk : ∀ y : Int32, f y → V p l e R s m args below meth c nL g A cells slots Q μ (pc + 3) lv (.int y :: st)) : V p l e R s m args below meth c nL g A cells slots Q μ (pc) lv (.ref (g.1 1 i) :: st) := v_getV X (k := 1) (f := 5) hi rfl rfl inlX1 (Nat.le_of_ble_eq_true rfl) hw rfl rfl hd (kk _ (h _ rfl))
theorem pf_1_5 (X : RC p s m args c cc nL own g A) {index i : Nat} {x : Int32} {f : Mem → Prop} (hi : i < 48) (hw : (Cond.fieldLink own index "SlotStart$Hearing" "guidePace" "I") ∈ wsL_law) (h : ∀ μ1 : Mem, μ1 = ms μ 1 i 5 x → f μ1) (hd : decode cc pc = .ok (.putfield index, 3)) (kk : ∀ μ1 : Mem, f μ1 → V p l e R s m args below meth c nL g A cells slots Q μ1 (pc + 3) lv (st)) : V p l e R s m args below meth c nL g A cells slots Q μ (pc) lv (.int x :: .ref (g.1 1 i) :: st) := v_putV X (k := 1) (f := 5) (sl := 5) (vi := x) hi rfl rfl rfl inlX1 tyX1 tyX1_ok nmX1 (Nat.le_of_ble_eq_true rfl) hw rfl rfl (tyX1_ok 5 (Nat.le_of_ble_eq_true rfl)) rfl rfl (Nat.le_of_ble_eq_true rfl) hd (kk _ (h _ rfl))
theorem gf_1_6 (X : RC p s m args c cc nL own g A) {index i : Nat} (hi : i < 48) (hw : (Cond.fieldLink own index "SlotStart$Hearing" "seen" "[I") ∈ wsL_law) (hd : decode cc pc = .ok (.getfield index, 3)) (kk : V p l e R s m args below meth c nL g A cells slots Q μ (pc + 3) lv (.ref (g.1 7 i) :: st)) : V p l e R s m args below meth c nL g A cells slots Q μ (pc) lv (.ref (g.1 1 i) :: st) := v_getV X (k := 1) (f := 6) hi rfl rfl inlX1 (Nat.le_of_ble_eq_true rfl) hw rfl rfl hd kk
theorem gf_2_0 (X : RC p s m args c cc nL own g A) {index i : Nat} (hi : i < 4) (hw : (Cond.fieldLink own index "SlotStart$Log" "cycles" "[I") ∈ wsL_law) (hd : decode cc pc = .ok (.getfield index, 3)) (kk : V p l e R s m args below meth c nL g A cells slots Q μ (pc + 3) lv (.ref (g.1 8 i) :: st)) : V p l e R s m args below meth c nL g A cells slots Q μ (pc) lv (.ref (g.1 2 i) :: st) := v_getV X (k := 2) (f := 0) hi rfl rfl inlX2 (Nat.le_of_ble_eq_true rfl) hw rfl rfl hd kk
theorem gf_2_1 (X : RC p s m args c cc nL own g A) {index i : Nat} (hi : i < 4) (hw : (Cond.fieldLink own index "SlotStart$Log" "nodes" "[I") ∈ wsL_law) (hd : decode cc pc = .ok (.getfield index, 3)) (kk : V p l e R s m args below meth c nL g A cells slots Q μ (pc + 3) lv (.ref (g.1 9 i) :: st)) : V p l e R s m args below meth c nL g A cells slots Q μ (pc) lv (.ref (g.1 2 i) :: st) := v_getV X (k := 2) (f := 1) hi rfl rfl inlX2 (Nat.le_of_ble_eq_true rfl) hw rfl rfl hd kk
theorem gf_2_2 (X : RC p s m args c cc nL own g A) {index i : Nat} (hi : i < 4) (hw : (Cond.fieldLink own index "SlotStart$Log" "things" "[I") ∈ wsL_law) (hd : decode cc pc = .ok (.getfield index, 3)) (kk : V p l e R s m args below meth c nL g A cells slots Q μ (pc + 3) lv (.ref (g.1 10 i) :: st)) : V p l e R s m args below meth c nL g A cells slots Q μ (pc) lv (.ref (g.1 2 i) :: st) := v_getV X (k := 2) (f := 2) hi rfl rfl inlX2 (Nat.le_of_ble_eq_true rfl) hw rfl rfl hd kk
theorem gf_2_3 (X : RC p s m args c cc nL own g A) {index i : Nat} {f : Int32 → Prop} (hi : i < 4) (hw : (Cond.fieldLink own index "SlotStart$Log" "size" "I") ∈ wsL_law) (h : ∀ y : Int32, y = μ 2 i 3 → f y) (hd : decode cc pc = .ok (.getfield index, 3)) (kk : ∀ y : Int32, f y → V p l e R s m args below meth c nL g A cells slots Q μ (pc + 3) lv (.int y :: st)) : V p l e R s m args below meth c nL g A cells slots Q μ (pc) lv (.ref (g.1 2 i) :: st) := v_getV X (k := 2) (f := 3) hi rfl rfl inlX2 (Nat.le_of_ble_eq_true rfl) hw rfl rfl hd (kk _ (h _ rfl))
theorem pf_2_3 (X : RC p s m args c cc nL own g A) {index i : Nat} {x : Int32} {f : Mem → Prop} (hi : i < 4) (hw : (Cond.fieldLink own index "SlotStart$Log" "size" "I") ∈ wsL_law) (h : ∀ μ1 : Mem, μ1 = ms μ 2 i 3 x → f μ1) (hd : decode cc pc = .ok (.putfield index, 3)) (kk : ∀ μ1 : Mem, f μ1 → V p l e R s m args below meth c nL g A cells slots Q μ1 (pc + 3) lv (st)) : V p l e R s m args below meth c nL g A cells slots Q μ (pc) lv (.int x :: .ref (g.1 2 i) :: st) := v_putV X (k := 2) (f := 3) (sl := 3) (vi := x) hi rfl rfl rfl inlX2 tyX2 tyX2_ok nmX2 (Nat.le_of_ble_eq_true rfl) hw rfl rfl (tyX2_ok 3 (Nat.le_of_ble_eq_true rfl)) rfl rfl (Nat.le_of_ble_eq_true rfl) hd (kk _ (h _ rfl))
theorem gf_2_4 (X : RC p s m args c cc nL own g A) {index i : Nat} {f : Int32 → Prop} (hi : i < 4) (hw : (Cond.fieldLink own index "SlotStart$Log" "first" "I") ∈ wsL_law) (h : ∀ y : Int32, y = μ 2 i 4 → f y) (hd : decode cc pc = .ok (.getfield index, 3)) (kk : ∀ y : Int32, f y → V p l e R s m args below meth c nL g A cells slots Q μ (pc + 3) lv (.int y :: st)) : V p l e R s m args below meth c nL g A cells slots Q μ (pc) lv (.ref (g.1 2 i) :: st) := v_getV X (k := 2) (f := 4) hi rfl rfl inlX2 (Nat.le_of_ble_eq_true rfl) hw rfl rfl hd (kk _ (h _ rfl))
theorem pf_2_4 (X : RC p s m args c cc nL own g A) {index i : Nat} {x : Int32} {f : Mem → Prop} (hi : i < 4) (hw : (Cond.fieldLink own index "SlotStart$Log" "first" "I") ∈ wsL_law) (h : ∀ μ1 : Mem, μ1 = ms μ 2 i 4 x → f μ1) (hd : decode cc pc = .ok (.putfield index, 3)) (kk : ∀ μ1 : Mem, f μ1 → V p l e R s m args below meth c nL g A cells slots Q μ1 (pc + 3) lv (st)) : V p l e R s m args below meth c nL g A cells slots Q μ (pc) lv (.int x :: .ref (g.1 2 i) :: st) := v_putV X (k := 2) (f := 4) (sl := 4) (vi := x) hi rfl rfl rfl inlX2 tyX2 tyX2_ok nmX2 (Nat.le_of_ble_eq_true rfl) hw rfl rfl (tyX2_ok 4 (Nat.le_of_ble_eq_true rfl)) rfl rfl (Nat.le_of_ble_eq_true rfl) hd (kk _ (h _ rfl))
theorem gf_3_0 (X : RC p s m args c cc nL own g A) {index i : Nat} {f : Int32 → Prop} (hi : i < 24) (hw : (Cond.fieldLink own index "SlotStart$Node" "kind" "I") ∈ wsL_law) (h : ∀ y : Int32, y = μ 3 i 0 → f y) (hd : decode cc pc = .ok (.getfield index, 3)) (kk : ∀ y : Int32, f y → V p l e R s m args below meth c nL g A cells slots Q μ (pc + 3) lv (.int y :: st)) : V p l e R s m args below meth c nL g A cells slots Q μ (pc) lv (.ref (g.1 3 i) :: st) := v_getV X (k := 3) (f := 0) hi rfl rfl inlX3 (Nat.le_of_ble_eq_true rfl) hw rfl rfl hd (kk _ (h _ rfl))
theorem pf_3_0 (X : RC p s m args c cc nL own g A) {index i : Nat} {x : Int32} {f : Mem → Prop} (hi : i < 24) (hw : (Cond.fieldLink own index "SlotStart$Node" "kind" "I") ∈ wsL_law) (h : ∀ μ1 : Mem, μ1 = ms μ 3 i 0 x → f μ1) (hd : decode cc pc = .ok (.putfield index, 3)) (kk : ∀ μ1 : Mem, f μ1 → V p l e R s m args below meth c nL g A cells slots Q μ1 (pc + 3) lv (st)) : V p l e R s m args below meth c nL g A cells slots Q μ (pc) lv (.int x :: .ref (g.1 3 i) :: st) := v_putV X (k := 3) (f := 0) (sl := 0) (vi := x) hi rfl rfl rfl inlX3 tyX3 tyX3_ok nmX3 (Nat.le_of_ble_eq_true rfl) hw rfl rfl (tyX3_ok 0 (Nat.le_of_ble_eq_true rfl)) rfl rfl (Nat.le_of_ble_eq_true rfl) hd (kk _ (h _ rfl))
theorem gf_3_1 (X : RC p s m args c cc nL own g A) {index i : Nat} {f : Int32 → Prop} (hi : i < 24) (hw : (Cond.fieldLink own index "SlotStart$Node" "slot" "I") ∈ wsL_law) (h : ∀ y : Int32, y = μ 3 i 1 → f y) (hd : decode cc pc = .ok (.getfield index, 3)) (kk : ∀ y : Int32, f y → V p l e R s m args below meth c nL g A cells slots Q μ (pc + 3) lv (.int y :: st)) : V p l e R s m args below meth c nL g A cells slots Q μ (pc) lv (.ref (g.1 3 i) :: st) := v_getV X (k := 3) (f := 1) hi rfl rfl inlX3 (Nat.le_of_ble_eq_true rfl) hw rfl rfl hd (kk _ (h _ rfl))
theorem pf_3_1 (X : RC p s m args c cc nL own g A) {index i : Nat} {x : Int32} {f : Mem → Prop} (hi : i < 24) (hw : (Cond.fieldLink own index "SlotStart$Node" "slot" "I") ∈ wsL_law) (h : ∀ μ1 : Mem, μ1 = ms μ 3 i 1 x → f μ1) (hd : decode cc pc = .ok (.putfield index, 3)) (kk : ∀ μ1 : Mem, f μ1 → V p l e R s m args below meth c nL g A cells slots Q μ1 (pc + 3) lv (st)) : V p l e R s m args below meth c nL g A cells slots Q μ (pc) lv (.int x :: .ref (g.1 3 i) :: st) := v_putV X (k := 3) (f := 1) (sl := 1) (vi := x) hi rfl rfl rfl inlX3 tyX3 tyX3_ok nmX3 (Nat.le_of_ble_eq_true rfl) hw rfl rfl (tyX3_ok 1 (Nat.le_of_ble_eq_true rfl)) rfl rfl (Nat.le_of_ble_eq_true rfl) hd (kk _ (h _ rfl))
theorem gf_3_2 (X : RC p s m args c cc nL own g A) {index i : Nat} {f : Int32 → Prop} (hi : i < 24) (hw : (Cond.fieldLink own index "SlotStart$Node" "wait" "I") ∈ wsL_law) (h : ∀ y : Int32, y = μ 3 i 2 → f y) (hd : decode cc pc = .ok (.getfield index, 3)) (kk : ∀ y : Int32, f y → V p l e R s m args below meth c nL g A cells slots Q μ (pc + 3) lv (.int y :: st)) : V p l e R s m args below meth c nL g A cells slots Q μ (pc) lv (.ref (g.1 3 i) :: st) := v_getV X (k := 3) (f := 2) hi rfl rfl inlX3 (Nat.le_of_ble_eq_true rfl) hw rfl rfl hd (kk _ (h _ rfl))
theorem pf_3_2 (X : RC p s m args c cc nL own g A) {index i : Nat} {x : Int32} {f : Mem → Prop} (hi : i < 24) (hw : (Cond.fieldLink own index "SlotStart$Node" "wait" "I") ∈ wsL_law) (h : ∀ μ1 : Mem, μ1 = ms μ 3 i 2 x → f μ1) (hd : decode cc pc = .ok (.putfield index, 3)) (kk : ∀ μ1 : Mem, f μ1 → V p l e R s m args below meth c nL g A cells slots Q μ1 (pc + 3) lv (st)) : V p l e R s m args below meth c nL g A cells slots Q μ (pc) lv (.int x :: .ref (g.1 3 i) :: st) := v_putV X (k := 3) (f := 2) (sl := 2) (vi := x) hi rfl rfl rfl inlX3 tyX3 tyX3_ok nmX3 (Nat.le_of_ble_eq_true rfl) hw rfl rfl (tyX3_ok 2 (Nat.le_of_ble_eq_true rfl)) rfl rfl (Nat.le_of_ble_eq_true rfl) hd (kk _ (h _ rfl))
theorem gf_3_3 (X : RC p s m args c cc nL own g A) {index i : Nat} {f : Int32 → Prop} (hi : i < 24) (hw : (Cond.fieldLink own index "SlotStart$Node" "drift" "I") ∈ wsL_law) (h : ∀ y : Int32, y = μ 3 i 3 → f y) (hd : decode cc pc = .ok (.getfield index, 3)) (kk : ∀ y : Int32, f y → V p l e R s m args below meth c nL g A cells slots Q μ (pc + 3) lv (.int y :: st)) : V p l e R s m args below meth c nL g A cells slots Q μ (pc) lv (.ref (g.1 3 i) :: st) := v_getV X (k := 3) (f := 3) hi rfl rfl inlX3 (Nat.le_of_ble_eq_true rfl) hw rfl rfl hd (kk _ (h _ rfl))
theorem pf_3_3 (X : RC p s m args c cc nL own g A) {index i : Nat} {x : Int32} {f : Mem → Prop} (hi : i < 24) (hw : (Cond.fieldLink own index "SlotStart$Node" "drift" "I") ∈ wsL_law) (h : ∀ μ1 : Mem, μ1 = ms μ 3 i 3 x → f μ1) (hd : decode cc pc = .ok (.putfield index, 3)) (kk : ∀ μ1 : Mem, f μ1 → V p l e R s m args below meth c nL g A cells slots Q μ1 (pc + 3) lv (st)) : V p l e R s m args below meth c nL g A cells slots Q μ (pc) lv (.int x :: .ref (g.1 3 i) :: st) := v_putV X (k := 3) (f := 3) (sl := 3) (vi := x) hi rfl rfl rfl inlX3 tyX3 tyX3_ok nmX3 (Nat.le_of_ble_eq_true rfl) hw rfl rfl (tyX3_ok 3 (Nat.le_of_ble_eq_true rfl)) rfl rfl (Nat.le_of_ble_eq_true rfl) hd (kk _ (h _ rfl))
theorem gf_3_4 (X : RC p s m args c cc nL own g A) {index i : Nat} {f : Int32 → Prop} (hi : i < 24) (hw : (Cond.fieldLink own index "SlotStart$Node" "lie" "I") ∈ wsL_law) (h : ∀ y : Int32, y = μ 3 i 4 → f y) (hd : decode cc pc = .ok (.getfield index, 3)) (kk : ∀ y : Int32, f y → V p l e R s m args below meth c nL g A cells slots Q μ (pc + 3) lv (.int y :: st)) : V p l e R s m args below meth c nL g A cells slots Q μ (pc) lv (.ref (g.1 3 i) :: st) := v_getV X (k := 3) (f := 4) hi rfl rfl inlX3 (Nat.le_of_ble_eq_true rfl) hw rfl rfl hd (kk _ (h _ rfl))
theorem pf_3_4 (X : RC p s m args c cc nL own g A) {index i : Nat} {x : Int32} {f : Mem → Prop} (hi : i < 24) (hw : (Cond.fieldLink own index "SlotStart$Node" "lie" "I") ∈ wsL_law) (h : ∀ μ1 : Mem, μ1 = ms μ 3 i 4 x → f μ1) (hd : decode cc pc = .ok (.putfield index, 3)) (kk : ∀ μ1 : Mem, f μ1 → V p l e R s m args below meth c nL g A cells slots Q μ1 (pc + 3) lv (st)) : V p l e R s m args below meth c nL g A cells slots Q μ (pc) lv (.int x :: .ref (g.1 3 i) :: st) := v_putV X (k := 3) (f := 4) (sl := 4) (vi := x) hi rfl rfl rfl inlX3 tyX3 tyX3_ok nmX3 (Nat.le_of_ble_eq_true rfl) hw rfl rfl (tyX3_ok 4 (Nat.le_of_ble_eq_true rfl)) rfl rfl (Nat.le_of_ble_eq_true rfl) hd (kk _ (h _ rfl))
theorem gf_3_5 (X : RC p s m args c cc nL own g A) {index i : Nat} {f : Int32 → Prop} (hi : i < 24) (hw : (Cond.fieldLink own index "SlotStart$Node" "is" "I") ∈ wsL_law) (h : ∀ y : Int32, y = μ 3 i 5 → f y) (hd : decode cc pc = .ok (.getfield index, 3)) (kk : ∀ y : Int32, f y → V p l e R s m args below meth c nL g A cells slots Q μ (pc + 3) lv (.int y :: st)) : V p l e R s m args below meth c nL g A cells slots Q μ (pc) lv (.ref (g.1 3 i) :: st) := v_getV X (k := 3) (f := 5) hi rfl rfl inlX3 (Nat.le_of_ble_eq_true rfl) hw rfl rfl hd (kk _ (h _ rfl))
theorem pf_3_5 (X : RC p s m args c cc nL own g A) {index i : Nat} {x : Int32} {f : Mem → Prop} (hi : i < 24) (hw : (Cond.fieldLink own index "SlotStart$Node" "is" "I") ∈ wsL_law) (h : ∀ μ1 : Mem, μ1 = ms μ 3 i 5 x → f μ1) (hd : decode cc pc = .ok (.putfield index, 3)) (kk : ∀ μ1 : Mem, f μ1 → V p l e R s m args below meth c nL g A cells slots Q μ1 (pc + 3) lv (st)) : V p l e R s m args below meth c nL g A cells slots Q μ (pc) lv (.int x :: .ref (g.1 3 i) :: st) := v_putV X (k := 3) (f := 5) (sl := 5) (vi := x) hi rfl rfl rfl inlX3 tyX3 tyX3_ok nmX3 (Nat.le_of_ble_eq_true rfl) hw rfl rfl (tyX3_ok 5 (Nat.le_of_ble_eq_true rfl)) rfl rfl (Nat.le_of_ble_eq_true rfl) hd (kk _ (h _ rfl))
theorem gf_3_6 (X : RC p s m args c cc nL own g A) {index i : Nat} {f : Int32 → Prop} (hi : i < 24) (hw : (Cond.fieldLink own index "SlotStart$Node" "isNew" "Z") ∈ wsL_law) (h : ∀ y : Int32, y = μ 3 i 6 → f y) (hd : decode cc pc = .ok (.getfield index, 3)) (kk : ∀ y : Int32, f y → V p l e R s m args below meth c nL g A cells slots Q μ (pc + 3) lv (.int y :: st)) : V p l e R s m args below meth c nL g A cells slots Q μ (pc) lv (.ref (g.1 3 i) :: st) := v_getV X (k := 3) (f := 6) hi rfl rfl inlX3 (Nat.le_of_ble_eq_true rfl) hw rfl rfl hd (kk _ (h _ rfl))
theorem pf_3_6 (X : RC p s m args c cc nL own g A) {index i : Nat} {x : Int32} {f : Mem → Prop} (hi : i < 24) (hw : (Cond.fieldLink own index "SlotStart$Node" "isNew" "Z") ∈ wsL_law) (h : nz x ∧ ∀ μ1 : Mem, μ1 = ms μ 3 i 6 x → f μ1) (hd : decode cc pc = .ok (.putfield index, 3)) (kk : ∀ μ1 : Mem, f μ1 → V p l e R s m args below meth c nL g A cells slots Q μ1 (pc + 3) lv (st)) : V p l e R s m args below meth c nL g A cells slots Q μ (pc) lv (.int x :: .ref (g.1 3 i) :: st) := v_putV X (k := 3) (f := 6) (sl := 6) (vi := x) hi rfl rfl rfl inlX3 tyX3 tyX3_ok nmX3 (Nat.le_of_ble_eq_true rfl) hw rfl rfl (tyX3_ok 6 (Nat.le_of_ble_eq_true rfl)) (nz_nar h.1) (nz_fit h.1) (Nat.le_of_ble_eq_true rfl) hd (kk _ (h.2 _ rfl))
theorem gf_3_7 (X : RC p s m args c cc nL own g A) {index i : Nat} {f : Int32 → Prop} (hi : i < 24) (hw : (Cond.fieldLink own index "SlotStart$Node" "age" "I") ∈ wsL_law) (h : ∀ y : Int32, y = μ 3 i 7 → f y) (hd : decode cc pc = .ok (.getfield index, 3)) (kk : ∀ y : Int32, f y → V p l e R s m args below meth c nL g A cells slots Q μ (pc + 3) lv (.int y :: st)) : V p l e R s m args below meth c nL g A cells slots Q μ (pc) lv (.ref (g.1 3 i) :: st) := v_getV X (k := 3) (f := 7) hi rfl rfl inlX3 (Nat.le_of_ble_eq_true rfl) hw rfl rfl hd (kk _ (h _ rfl))
theorem pf_3_7 (X : RC p s m args c cc nL own g A) {index i : Nat} {x : Int32} {f : Mem → Prop} (hi : i < 24) (hw : (Cond.fieldLink own index "SlotStart$Node" "age" "I") ∈ wsL_law) (h : ∀ μ1 : Mem, μ1 = ms μ 3 i 7 x → f μ1) (hd : decode cc pc = .ok (.putfield index, 3)) (kk : ∀ μ1 : Mem, f μ1 → V p l e R s m args below meth c nL g A cells slots Q μ1 (pc + 3) lv (st)) : V p l e R s m args below meth c nL g A cells slots Q μ (pc) lv (.int x :: .ref (g.1 3 i) :: st) := v_putV X (k := 3) (f := 7) (sl := 7) (vi := x) hi rfl rfl rfl inlX3 tyX3 tyX3_ok nmX3 (Nat.le_of_ble_eq_true rfl) hw rfl rfl (tyX3_ok 7 (Nat.le_of_ble_eq_true rfl)) rfl rfl (Nat.le_of_ble_eq_true rfl) hd (kk _ (h _ rfl))
theorem gf_3_8 (X : RC p s m args c cc nL own g A) {index i : Nat} {f : Int32 → Prop} (hi : i < 24) (hw : (Cond.fieldLink own index "SlotStart$Node" "quiet" "I") ∈ wsL_law) (h : ∀ y : Int32, y = μ 3 i 8 → f y) (hd : decode cc pc = .ok (.getfield index, 3)) (kk : ∀ y : Int32, f y → V p l e R s m args below meth c nL g A cells slots Q μ (pc + 3) lv (.int y :: st)) : V p l e R s m args below meth c nL g A cells slots Q μ (pc) lv (.ref (g.1 3 i) :: st) := v_getV X (k := 3) (f := 8) hi rfl rfl inlX3 (Nat.le_of_ble_eq_true rfl) hw rfl rfl hd (kk _ (h _ rfl))
theorem pf_3_8 (X : RC p s m args c cc nL own g A) {index i : Nat} {x : Int32} {f : Mem → Prop} (hi : i < 24) (hw : (Cond.fieldLink own index "SlotStart$Node" "quiet" "I") ∈ wsL_law) (h : ∀ μ1 : Mem, μ1 = ms μ 3 i 8 x → f μ1) (hd : decode cc pc = .ok (.putfield index, 3)) (kk : ∀ μ1 : Mem, f μ1 → V p l e R s m args below meth c nL g A cells slots Q μ1 (pc + 3) lv (st)) : V p l e R s m args below meth c nL g A cells slots Q μ (pc) lv (.int x :: .ref (g.1 3 i) :: st) := v_putV X (k := 3) (f := 8) (sl := 8) (vi := x) hi rfl rfl rfl inlX3 tyX3 tyX3_ok nmX3 (Nat.le_of_ble_eq_true rfl) hw rfl rfl (tyX3_ok 8 (Nat.le_of_ble_eq_true rfl)) rfl rfl (Nat.le_of_ble_eq_true rfl) hd (kk _ (h _ rfl))
theorem gf_3_9 (X : RC p s m args c cc nL own g A) {index i : Nat} {f : Int32 → Prop} (hi : i < 24) (hw : (Cond.fieldLink own index "SlotStart$Node" "good" "I") ∈ wsL_law) (h : ∀ y : Int32, y = μ 3 i 9 → f y) (hd : decode cc pc = .ok (.getfield index, 3)) (kk : ∀ y : Int32, f y → V p l e R s m args below meth c nL g A cells slots Q μ (pc + 3) lv (.int y :: st)) : V p l e R s m args below meth c nL g A cells slots Q μ (pc) lv (.ref (g.1 3 i) :: st) := v_getV X (k := 3) (f := 9) hi rfl rfl inlX3 (Nat.le_of_ble_eq_true rfl) hw rfl rfl hd (kk _ (h _ rfl))
theorem pf_3_9 (X : RC p s m args c cc nL own g A) {index i : Nat} {x : Int32} {f : Mem → Prop} (hi : i < 24) (hw : (Cond.fieldLink own index "SlotStart$Node" "good" "I") ∈ wsL_law) (h : ∀ μ1 : Mem, μ1 = ms μ 3 i 9 x → f μ1) (hd : decode cc pc = .ok (.putfield index, 3)) (kk : ∀ μ1 : Mem, f μ1 → V p l e R s m args below meth c nL g A cells slots Q μ1 (pc + 3) lv (st)) : V p l e R s m args below meth c nL g A cells slots Q μ (pc) lv (.int x :: .ref (g.1 3 i) :: st) := v_putV X (k := 3) (f := 9) (sl := 9) (vi := x) hi rfl rfl rfl inlX3 tyX3 tyX3_ok nmX3 (Nat.le_of_ble_eq_true rfl) hw rfl rfl (tyX3_ok 9 (Nat.le_of_ble_eq_true rfl)) rfl rfl (Nat.le_of_ble_eq_true rfl) hd (kk _ (h _ rfl))
theorem gf_3_10 (X : RC p s m args c cc nL own g A) {index i : Nat} {f : Int32 → Prop} (hi : i < 24) (hw : (Cond.fieldLink own index "SlotStart$Node" "bad" "I") ∈ wsL_law) (h : ∀ y : Int32, y = μ 3 i 10 → f y) (hd : decode cc pc = .ok (.getfield index, 3)) (kk : ∀ y : Int32, f y → V p l e R s m args below meth c nL g A cells slots Q μ (pc + 3) lv (.int y :: st)) : V p l e R s m args below meth c nL g A cells slots Q μ (pc) lv (.ref (g.1 3 i) :: st) := v_getV X (k := 3) (f := 10) hi rfl rfl inlX3 (Nat.le_of_ble_eq_true rfl) hw rfl rfl hd (kk _ (h _ rfl))
theorem pf_3_10 (X : RC p s m args c cc nL own g A) {index i : Nat} {x : Int32} {f : Mem → Prop} (hi : i < 24) (hw : (Cond.fieldLink own index "SlotStart$Node" "bad" "I") ∈ wsL_law) (h : ∀ μ1 : Mem, μ1 = ms μ 3 i 10 x → f μ1) (hd : decode cc pc = .ok (.putfield index, 3)) (kk : ∀ μ1 : Mem, f μ1 → V p l e R s m args below meth c nL g A cells slots Q μ1 (pc + 3) lv (st)) : V p l e R s m args below meth c nL g A cells slots Q μ (pc) lv (.int x :: .ref (g.1 3 i) :: st) := v_putV X (k := 3) (f := 10) (sl := 10) (vi := x) hi rfl rfl rfl inlX3 tyX3 tyX3_ok nmX3 (Nat.le_of_ble_eq_true rfl) hw rfl rfl (tyX3_ok 10 (Nat.le_of_ble_eq_true rfl)) rfl rfl (Nat.le_of_ble_eq_true rfl) hd (kk _ (h _ rfl))
theorem gf_3_11 (X : RC p s m args c cc nL own g A) {index i : Nat} {f : Int32 → Prop} (hi : i < 24) (hw : (Cond.fieldLink own index "SlotStart$Node" "at" "I") ∈ wsL_law) (h : ∀ y : Int32, y = μ 3 i 11 → f y) (hd : decode cc pc = .ok (.getfield index, 3)) (kk : ∀ y : Int32, f y → V p l e R s m args below meth c nL g A cells slots Q μ (pc + 3) lv (.int y :: st)) : V p l e R s m args below meth c nL g A cells slots Q μ (pc) lv (.ref (g.1 3 i) :: st) := v_getV X (k := 3) (f := 11) hi rfl rfl inlX3 (Nat.le_of_ble_eq_true rfl) hw rfl rfl hd (kk _ (h _ rfl))
theorem pf_3_11 (X : RC p s m args c cc nL own g A) {index i : Nat} {x : Int32} {f : Mem → Prop} (hi : i < 24) (hw : (Cond.fieldLink own index "SlotStart$Node" "at" "I") ∈ wsL_law) (h : ∀ μ1 : Mem, μ1 = ms μ 3 i 11 x → f μ1) (hd : decode cc pc = .ok (.putfield index, 3)) (kk : ∀ μ1 : Mem, f μ1 → V p l e R s m args below meth c nL g A cells slots Q μ1 (pc + 3) lv (st)) : V p l e R s m args below meth c nL g A cells slots Q μ (pc) lv (.int x :: .ref (g.1 3 i) :: st) := v_putV X (k := 3) (f := 11) (sl := 11) (vi := x) hi rfl rfl rfl inlX3 tyX3 tyX3_ok nmX3 (Nat.le_of_ble_eq_true rfl) hw rfl rfl (tyX3_ok 11 (Nat.le_of_ble_eq_true rfl)) rfl rfl (Nat.le_of_ble_eq_true rfl) hd (kk _ (h _ rfl))
theorem gf_3_12 (X : RC p s m args c cc nL own g A) {index i : Nat} {f : Int32 → Prop} (hi : i < 24) (hw : (Cond.fieldLink own index "SlotStart$Node" "rate" "I") ∈ wsL_law) (h : ∀ y : Int32, y = μ 3 i 12 → f y) (hd : decode cc pc = .ok (.getfield index, 3)) (kk : ∀ y : Int32, f y → V p l e R s m args below meth c nL g A cells slots Q μ (pc + 3) lv (.int y :: st)) : V p l e R s m args below meth c nL g A cells slots Q μ (pc) lv (.ref (g.1 3 i) :: st) := v_getV X (k := 3) (f := 12) hi rfl rfl inlX3 (Nat.le_of_ble_eq_true rfl) hw rfl rfl hd (kk _ (h _ rfl))
theorem pf_3_12 (X : RC p s m args c cc nL own g A) {index i : Nat} {x : Int32} {f : Mem → Prop} (hi : i < 24) (hw : (Cond.fieldLink own index "SlotStart$Node" "rate" "I") ∈ wsL_law) (h : ∀ μ1 : Mem, μ1 = ms μ 3 i 12 x → f μ1) (hd : decode cc pc = .ok (.putfield index, 3)) (kk : ∀ μ1 : Mem, f μ1 → V p l e R s m args below meth c nL g A cells slots Q μ1 (pc + 3) lv (st)) : V p l e R s m args below meth c nL g A cells slots Q μ (pc) lv (.int x :: .ref (g.1 3 i) :: st) := v_putV X (k := 3) (f := 12) (sl := 12) (vi := x) hi rfl rfl rfl inlX3 tyX3 tyX3_ok nmX3 (Nat.le_of_ble_eq_true rfl) hw rfl rfl (tyX3_ok 12 (Nat.le_of_ble_eq_true rfl)) rfl rfl (Nat.le_of_ble_eq_true rfl) hd (kk _ (h _ rfl))
theorem gf_3_13 (X : RC p s m args c cc nL own g A) {index i : Nat} {f : Int32 → Prop} (hi : i < 24) (hw : (Cond.fieldLink own index "SlotStart$Node" "sent" "I") ∈ wsL_law) (h : ∀ y : Int32, y = μ 3 i 13 → f y) (hd : decode cc pc = .ok (.getfield index, 3)) (kk : ∀ y : Int32, f y → V p l e R s m args below meth c nL g A cells slots Q μ (pc + 3) lv (.int y :: st)) : V p l e R s m args below meth c nL g A cells slots Q μ (pc) lv (.ref (g.1 3 i) :: st) := v_getV X (k := 3) (f := 13) hi rfl rfl inlX3 (Nat.le_of_ble_eq_true rfl) hw rfl rfl hd (kk _ (h _ rfl))
theorem pf_3_13 (X : RC p s m args c cc nL own g A) {index i : Nat} {x : Int32} {f : Mem → Prop} (hi : i < 24) (hw : (Cond.fieldLink own index "SlotStart$Node" "sent" "I") ∈ wsL_law) (h : ∀ μ1 : Mem, μ1 = ms μ 3 i 13 x → f μ1) (hd : decode cc pc = .ok (.putfield index, 3)) (kk : ∀ μ1 : Mem, f μ1 → V p l e R s m args below meth c nL g A cells slots Q μ1 (pc + 3) lv (st)) : V p l e R s m args below meth c nL g A cells slots Q μ (pc) lv (.int x :: .ref (g.1 3 i) :: st) := v_putV X (k := 3) (f := 13) (sl := 13) (vi := x) hi rfl rfl rfl inlX3 tyX3 tyX3_ok nmX3 (Nat.le_of_ble_eq_true rfl) hw rfl rfl (tyX3_ok 13 (Nat.le_of_ble_eq_true rfl)) rfl rfl (Nat.le_of_ble_eq_true rfl) hd (kk _ (h _ rfl))
theorem gf_3_14 (X : RC p s m args c cc nL own g A) {index i : Nat} {f : Nat → Prop} (hi : i < 24) (hw : (Cond.fieldLink own index "SlotStart$Node" "last" "LSlotStart$Hearing;") ∈ wsL_law) (h : ∀ j : Nat, j = hx i (μ 3 i 14) → f j) (hd : decode cc pc = .ok (.getfield index, 3)) (kk : ∀ j : Nat, j < 48 → f j → V p l e R s m args below meth c nL g A cells slots Q μ (pc + 3) lv (.ref (g.1 1 j) :: st)) : V p l e R s m args below meth c nL g A cells slots Q μ (pc) lv (.ref (g.1 3 i) :: st) := v_getV X (k := 3) (f := 14) hi rfl rfl inlX3 (Nat.le_of_ble_eq_true rfl) hw rfl rfl hd (kk _ (hx_lt hi) (h _ rfl))
theorem pf_3_14 (X : RC p s m args c cc nL own g A) {index i j : Nat} {f : Mem → Prop} (hi : i < 24) (hw : (Cond.fieldLink own index "SlotStart$Node" "last" "LSlotStart$Hearing;") ∈ wsL_law) (h : (j = 2 * i ∨ j = 2 * i + 1) ∧ ∀ μ1 : Mem, μ1 = ms μ 3 i 14 (if j = 2 * i then 0 else 1) → f μ1) (hd : decode cc pc = .ok (.putfield index, 3)) (kk : ∀ μ1 : Mem, f μ1 → V p l e R s m args below meth c nL g A cells slots Q μ1 (pc + 3) lv (st)) : V p l e R s m args below meth c nL g A cells slots Q μ (pc) lv (.ref (g.1 1 j) :: .ref (g.1 3 i) :: st) := by
  have hj : hx i (if j = 2 * i then 0 else 1) = j := by
    unfold hx
    rcases h.1 with e | e
    · rw [if_pos e]; simp [e]
    · have hne : ¬ j = 2 * i := by omega
      rw [if_neg hne]; simp; omega
  refine v_putV X (k := 3) (f := 14) (sl := 14) (vi := if j = 2 * i then 0 else 1) hi rfl ?_ rfl inlX3 tyX3 tyX3_ok nmX3 (Nat.le_of_ble_eq_true rfl) hw rfl rfl (tyX3_ok 14 (Nat.le_of_ble_eq_true rfl)) rfl rfl (Nat.le_of_ble_eq_true rfl) hd (kk _ (h.2 _ rfl))
  have e : ∀ w : Nat, w = j → (Mr g (upd (μ 3 i) 14 (if j = 2 * i then 0 else 1)) 3 i) = Mr g (upd (μ 3 i) 14 (if j = 2 * i then 0 else 1)) 3 i := fun _ _ => rfl
  show (Sum.inr (3, _) : va_E) = _
  rw [show hx i (upd (μ 3 i) 14 (if j = 2 * i then 0 else 1) 14) = j from hj]
  rfl
theorem gf_3_15 (X : RC p s m args c cc nL own g A) {index i : Nat} {f : Nat → Prop} (hi : i < 24) (hw : (Cond.fieldLink own index "SlotStart$Node" "ahead" "LSlotStart$Hearing;") ∈ wsL_law) (h : ∀ j : Nat, j = hx i (μ 3 i 15) → f j) (hd : decode cc pc = .ok (.getfield index, 3)) (kk : ∀ j : Nat, j < 48 → f j → V p l e R s m args below meth c nL g A cells slots Q μ (pc + 3) lv (.ref (g.1 1 j) :: st)) : V p l e R s m args below meth c nL g A cells slots Q μ (pc) lv (.ref (g.1 3 i) :: st) := v_getV X (k := 3) (f := 15) hi rfl rfl inlX3 (Nat.le_of_ble_eq_true rfl) hw rfl rfl hd (kk _ (hx_lt hi) (h _ rfl))
theorem pf_3_15 (X : RC p s m args c cc nL own g A) {index i j : Nat} {f : Mem → Prop} (hi : i < 24) (hw : (Cond.fieldLink own index "SlotStart$Node" "ahead" "LSlotStart$Hearing;") ∈ wsL_law) (h : (j = 2 * i ∨ j = 2 * i + 1) ∧ ∀ μ1 : Mem, μ1 = ms μ 3 i 15 (if j = 2 * i then 0 else 1) → f μ1) (hd : decode cc pc = .ok (.putfield index, 3)) (kk : ∀ μ1 : Mem, f μ1 → V p l e R s m args below meth c nL g A cells slots Q μ1 (pc + 3) lv (st)) : V p l e R s m args below meth c nL g A cells slots Q μ (pc) lv (.ref (g.1 1 j) :: .ref (g.1 3 i) :: st) := by
  have hj : hx i (if j = 2 * i then 0 else 1) = j := by
    unfold hx
    rcases h.1 with e | e
    · rw [if_pos e]; simp [e]
    · have hne : ¬ j = 2 * i := by omega
      rw [if_neg hne]; simp; omega
  refine v_putV X (k := 3) (f := 15) (sl := 15) (vi := if j = 2 * i then 0 else 1) hi rfl ?_ rfl inlX3 tyX3 tyX3_ok nmX3 (Nat.le_of_ble_eq_true rfl) hw rfl rfl (tyX3_ok 15 (Nat.le_of_ble_eq_true rfl)) rfl rfl (Nat.le_of_ble_eq_true rfl) hd (kk _ (h.2 _ rfl))
  have e : ∀ w : Nat, w = j → (Mr g (upd (μ 3 i) 15 (if j = 2 * i then 0 else 1)) 3 i) = Mr g (upd (μ 3 i) 15 (if j = 2 * i then 0 else 1)) 3 i := fun _ _ => rfl
  show (Sum.inr (3, _) : va_E) = _
  rw [show hx i (upd (μ 3 i) 15 (if j = 2 * i then 0 else 1) 15) = j from hj]
  rfl
theorem gf_4_0 (X : RC p s m args c cc nL own g A) {index i : Nat} (hi : i < 5) (hw : (Cond.fieldLink own index "SlotStart$Numbers" "row" "[I") ∈ wsL_law) (hd : decode cc pc = .ok (.getfield index, 3)) (kk : V p l e R s m args below meth c nL g A cells slots Q μ (pc + 3) lv (.ref (g.1 11 i) :: st)) : V p l e R s m args below meth c nL g A cells slots Q μ (pc) lv (.ref (g.1 4 i) :: st) := v_getV X (k := 4) (f := 0) hi rfl rfl inlX4 (Nat.le_of_ble_eq_true rfl) hw rfl rfl hd kk
theorem gf_4_1 (X : RC p s m args c cc nL own g A) {index i : Nat} {f : Int32 → Prop} (hi : i < 5) (hw : (Cond.fieldLink own index "SlotStart$Numbers" "size" "I") ∈ wsL_law) (h : ∀ y : Int32, y = μ 4 i 1 → f y) (hd : decode cc pc = .ok (.getfield index, 3)) (kk : ∀ y : Int32, f y → V p l e R s m args below meth c nL g A cells slots Q μ (pc + 3) lv (.int y :: st)) : V p l e R s m args below meth c nL g A cells slots Q μ (pc) lv (.ref (g.1 4 i) :: st) := v_getV X (k := 4) (f := 1) hi rfl rfl inlX4 (Nat.le_of_ble_eq_true rfl) hw rfl rfl hd (kk _ (h _ rfl))
theorem pf_4_1 (X : RC p s m args c cc nL own g A) {index i : Nat} {x : Int32} {f : Mem → Prop} (hi : i < 5) (hw : (Cond.fieldLink own index "SlotStart$Numbers" "size" "I") ∈ wsL_law) (h : ∀ μ1 : Mem, μ1 = ms μ 4 i 1 x → f μ1) (hd : decode cc pc = .ok (.putfield index, 3)) (kk : ∀ μ1 : Mem, f μ1 → V p l e R s m args below meth c nL g A cells slots Q μ1 (pc + 3) lv (st)) : V p l e R s m args below meth c nL g A cells slots Q μ (pc) lv (.int x :: .ref (g.1 4 i) :: st) := v_putV X (k := 4) (f := 1) (sl := 1) (vi := x) hi rfl rfl rfl inlX4 tyX4 tyX4_ok nmX4 (Nat.le_of_ble_eq_true rfl) hw rfl rfl (tyX4_ok 1 (Nat.le_of_ble_eq_true rfl)) rfl rfl (Nat.le_of_ble_eq_true rfl) hd (kk _ (h _ rfl))
theorem gf_5_0 (X : RC p s m args c cc nL own g A) {index i : Nat} (hi : i < 1) (hw : (Cond.fieldLink own index "SlotStart" "bus" "LSlotStart$Bus;") ∈ wsL_law) (hd : decode cc pc = .ok (.getfield index, 3)) (kk : V p l e R s m args below meth c nL g A cells slots Q μ (pc + 3) lv (.ref (g.1 0 0) :: st)) : V p l e R s m args below meth c nL g A cells slots Q μ (pc) lv (.ref (g.1 5 i) :: st) := v_getV X (k := 5) (f := 0) hi rfl rfl inlX5 (Nat.le_of_ble_eq_true rfl) hw rfl rfl hd kk
theorem gf_5_1 (X : RC p s m args c cc nL own g A) {index i : Nat} (hi : i < 1) (hw : (Cond.fieldLink own index "SlotStart" "trial" "LSlotStart$Bus;") ∈ wsL_law) (hd : decode cc pc = .ok (.getfield index, 3)) (kk : V p l e R s m args below meth c nL g A cells slots Q μ (pc + 3) lv (.ref (g.1 0 1) :: st)) : V p l e R s m args below meth c nL g A cells slots Q μ (pc) lv (.ref (g.1 5 i) :: st) := v_getV X (k := 5) (f := 1) hi rfl rfl inlX5 (Nat.le_of_ble_eq_true rfl) hw rfl rfl hd kk
theorem gf_5_2 (X : RC p s m args c cc nL own g A) {index i : Nat} (hi : i < 1) (hw : (Cond.fieldLink own index "SlotStart" "images" "[LSlotStart$Bus;") ∈ wsL_law) (hd : decode cc pc = .ok (.getfield index, 3)) (kk : V p l e R s m args below meth c nL g A cells slots Q μ (pc + 3) lv (.ref (g.1 14 0) :: st)) : V p l e R s m args below meth c nL g A cells slots Q μ (pc) lv (.ref (g.1 5 i) :: st) := v_getV X (k := 5) (f := 2) hi rfl rfl inlX5 (Nat.le_of_ble_eq_true rfl) hw rfl rfl hd kk
theorem gf_5_3 (X : RC p s m args c cc nL own g A) {index i : Nat} {f : Int32 → Prop} (hi : i < 1) (hw : (Cond.fieldLink own index "SlotStart" "kept" "I") ∈ wsL_law) (h : ∀ y : Int32, y = μ 5 i 3 → f y) (hd : decode cc pc = .ok (.getfield index, 3)) (kk : ∀ y : Int32, f y → V p l e R s m args below meth c nL g A cells slots Q μ (pc + 3) lv (.int y :: st)) : V p l e R s m args below meth c nL g A cells slots Q μ (pc) lv (.ref (g.1 5 i) :: st) := v_getV X (k := 5) (f := 3) hi rfl rfl inlX5 (Nat.le_of_ble_eq_true rfl) hw rfl rfl hd (kk _ (h _ rfl))
theorem pf_5_3 (X : RC p s m args c cc nL own g A) {index i : Nat} {x : Int32} {f : Mem → Prop} (hi : i < 1) (hw : (Cond.fieldLink own index "SlotStart" "kept" "I") ∈ wsL_law) (h : ∀ μ1 : Mem, μ1 = ms μ 5 i 3 x → f μ1) (hd : decode cc pc = .ok (.putfield index, 3)) (kk : ∀ μ1 : Mem, f μ1 → V p l e R s m args below meth c nL g A cells slots Q μ1 (pc + 3) lv (st)) : V p l e R s m args below meth c nL g A cells slots Q μ (pc) lv (.int x :: .ref (g.1 5 i) :: st) := v_putV X (k := 5) (f := 3) (sl := 3) (vi := x) hi rfl rfl rfl inlX5 tyX5 tyX5_ok nmX5 (Nat.le_of_ble_eq_true rfl) hw rfl rfl (tyX5_ok 3 (Nat.le_of_ble_eq_true rfl)) rfl rfl (Nat.le_of_ble_eq_true rfl) hd (kk _ (h _ rfl))
theorem gf_5_4 (X : RC p s m args c cc nL own g A) {index i : Nat} (hi : i < 1) (hw : (Cond.fieldLink own index "SlotStart" "given" "LSlotStart$Numbers;") ∈ wsL_law) (hd : decode cc pc = .ok (.getfield index, 3)) (kk : V p l e R s m args below meth c nL g A cells slots Q μ (pc + 3) lv (.ref (g.1 4 4) :: st)) : V p l e R s m args below meth c nL g A cells slots Q μ (pc) lv (.ref (g.1 5 i) :: st) := v_getV X (k := 5) (f := 4) hi rfl rfl inlX5 (Nat.le_of_ble_eq_true rfl) hw rfl rfl hd kk
theorem gf_6_0 (X : RC p s m args c cc nL own g A) {index i : Nat} (hi : i < 1) (hw : (Cond.fieldLink own index "SlotStartModel" "state" "[I") ∈ wsL_law) (hd : decode cc pc = .ok (.getfield index, 3)) (kk : V p l e R s m args below meth c nL g A cells slots Q μ (pc + 3) lv (.ref (g.1 20 0) :: st)) : V p l e R s m args below meth c nL g A cells slots Q μ (pc) lv (.ref (g.1 6 i) :: st) := v_getV X (k := 6) (f := 0) hi rfl rfl inlX6 (Nat.le_of_ble_eq_true rfl) hw rfl rfl hd kk
theorem gf_6_1 (X : RC p s m args c cc nL own g A) {index i : Nat} (hi : i < 1) (hw : (Cond.fieldLink own index "SlotStartModel" "images" "[I") ∈ wsL_law) (hd : decode cc pc = .ok (.getfield index, 3)) (kk : V p l e R s m args below meth c nL g A cells slots Q μ (pc + 3) lv (.ref (g.1 21 0) :: st)) : V p l e R s m args below meth c nL g A cells slots Q μ (pc) lv (.ref (g.1 6 i) :: st) := v_getV X (k := 6) (f := 1) hi rfl rfl inlX6 (Nat.le_of_ble_eq_true rfl) hw rfl rfl hd kk
theorem gf_6_2 (X : RC p s m args c cc nL own g A) {index i : Nat} (hi : i < 1) (hw : (Cond.fieldLink own index "SlotStartModel" "isKept" "[Z") ∈ wsL_law) (hd : decode cc pc = .ok (.getfield index, 3)) (kk : V p l e R s m args below meth c nL g A cells slots Q μ (pc + 3) lv (.ref (g.1 22 0) :: st)) : V p l e R s m args below meth c nL g A cells slots Q μ (pc) lv (.ref (g.1 6 i) :: st) := v_getV X (k := 6) (f := 2) hi rfl rfl inlX6 (Nat.le_of_ble_eq_true rfl) hw rfl rfl hd kk
theorem gf_6_3 (X : RC p s m args c cc nL own g A) {index i : Nat} (hi : i < 1) (hw : (Cond.fieldLink own index "SlotStartModel" "numbers" "[I") ∈ wsL_law) (hd : decode cc pc = .ok (.getfield index, 3)) (kk : V p l e R s m args below meth c nL g A cells slots Q μ (pc + 3) lv (.ref (g.1 23 0) :: st)) : V p l e R s m args below meth c nL g A cells slots Q μ (pc) lv (.ref (g.1 6 i) :: st) := v_getV X (k := 6) (f := 3) hi rfl rfl inlX6 (Nat.le_of_ble_eq_true rfl) hw rfl rfl hd kk
theorem gf_6_4 (X : RC p s m args c cc nL own g A) {index i : Nat} {f : Int32 → Prop} (hi : i < 1) (hw : (Cond.fieldLink own index "SlotStartModel" "many" "I") ∈ wsL_law) (h : ∀ y : Int32, y = μ 6 i 4 → f y) (hd : decode cc pc = .ok (.getfield index, 3)) (kk : ∀ y : Int32, f y → V p l e R s m args below meth c nL g A cells slots Q μ (pc + 3) lv (.int y :: st)) : V p l e R s m args below meth c nL g A cells slots Q μ (pc) lv (.ref (g.1 6 i) :: st) := v_getV X (k := 6) (f := 4) hi rfl rfl inlX6 (Nat.le_of_ble_eq_true rfl) hw rfl rfl hd (kk _ (h _ rfl))
theorem pf_6_4 (X : RC p s m args c cc nL own g A) {index i : Nat} {x : Int32} {f : Mem → Prop} (hi : i < 1) (hw : (Cond.fieldLink own index "SlotStartModel" "many" "I") ∈ wsL_law) (h : ∀ μ1 : Mem, μ1 = ms μ 6 i 4 x → f μ1) (hd : decode cc pc = .ok (.putfield index, 3)) (kk : ∀ μ1 : Mem, f μ1 → V p l e R s m args below meth c nL g A cells slots Q μ1 (pc + 3) lv (st)) : V p l e R s m args below meth c nL g A cells slots Q μ (pc) lv (.int x :: .ref (g.1 6 i) :: st) := v_putV X (k := 6) (f := 4) (sl := 4) (vi := x) hi rfl rfl rfl inlX6 tyX6 tyX6_ok nmX6 (Nat.le_of_ble_eq_true rfl) hw rfl rfl (tyX6_ok 4 (Nat.le_of_ble_eq_true rfl)) rfl rfl (Nat.le_of_ble_eq_true rfl) hd (kk _ (h _ rfl))
theorem gf_6_5 (X : RC p s m args c cc nL own g A) {index i : Nat} (hi : i < 1) (hw : (Cond.fieldLink own index "SlotStartModel" "sends" "[Z") ∈ wsL_law) (hd : decode cc pc = .ok (.getfield index, 3)) (kk : V p l e R s m args below meth c nL g A cells slots Q μ (pc + 3) lv (.ref (g.1 24 0) :: st)) : V p l e R s m args below meth c nL g A cells slots Q μ (pc) lv (.ref (g.1 6 i) :: st) := v_getV X (k := 6) (f := 5) hi rfl rfl inlX6 (Nat.le_of_ble_eq_true rfl) hw rfl rfl hd kk
theorem gf_6_6 (X : RC p s m args c cc nL own g A) {index i : Nat} (hi : i < 1) (hw : (Cond.fieldLink own index "SlotStartModel" "signs" "[Z") ∈ wsL_law) (hd : decode cc pc = .ok (.getfield index, 3)) (kk : V p l e R s m args below meth c nL g A cells slots Q μ (pc + 3) lv (.ref (g.1 25 0) :: st)) : V p l e R s m args below meth c nL g A cells slots Q μ (pc) lv (.ref (g.1 6 i) :: st) := v_getV X (k := 6) (f := 6) hi rfl rfl inlX6 (Nat.le_of_ble_eq_true rfl) hw rfl rfl hd kk
theorem gf_6_7 (X : RC p s m args c cc nL own g A) {index i : Nat} (hi : i < 1) (hw : (Cond.fieldLink own index "SlotStartModel" "fell" "[Z") ∈ wsL_law) (hd : decode cc pc = .ok (.getfield index, 3)) (kk : V p l e R s m args below meth c nL g A cells slots Q μ (pc + 3) lv (.ref (g.1 26 0) :: st)) : V p l e R s m args below meth c nL g A cells slots Q μ (pc) lv (.ref (g.1 6 i) :: st) := v_getV X (k := 6) (f := 7) hi rfl rfl inlX6 (Nat.le_of_ble_eq_true rfl) hw rfl rfl hd kk
theorem gf_6_8 (X : RC p s m args c cc nL own g A) {index i : Nat} (hi : i < 1) (hw : (Cond.fieldLink own index "SlotStartModel" "changed" "[Z") ∈ wsL_law) (hd : decode cc pc = .ok (.getfield index, 3)) (kk : V p l e R s m args below meth c nL g A cells slots Q μ (pc + 3) lv (.ref (g.1 27 0) :: st)) : V p l e R s m args below meth c nL g A cells slots Q μ (pc) lv (.ref (g.1 6 i) :: st) := v_getV X (k := 6) (f := 8) hi rfl rfl inlX6 (Nat.le_of_ble_eq_true rfl) hw rfl rfl hd kk
theorem gf_6_9 (X : RC p s m args c cc nL own g A) {index i : Nat} (hi : i < 1) (hw : (Cond.fieldLink own index "SlotStartModel" "heard" "[I") ∈ wsL_law) (hd : decode cc pc = .ok (.getfield index, 3)) (kk : V p l e R s m args below meth c nL g A cells slots Q μ (pc + 3) lv (.ref (g.1 28 0) :: st)) : V p l e R s m args below meth c nL g A cells slots Q μ (pc) lv (.ref (g.1 6 i) :: st) := v_getV X (k := 6) (f := 9) hi rfl rfl inlX6 (Nat.le_of_ble_eq_true rfl) hw rfl rfl hd kk
theorem gf_6_10 (X : RC p s m args c cc nL own g A) {index i : Nat} (hi : i < 1) (hw : (Cond.fieldLink own index "SlotStartModel" "starters" "[I") ∈ wsL_law) (hd : decode cc pc = .ok (.getfield index, 3)) (kk : V p l e R s m args below meth c nL g A cells slots Q μ (pc + 3) lv (.ref (g.1 29 0) :: st)) : V p l e R s m args below meth c nL g A cells slots Q μ (pc) lv (.ref (g.1 6 i) :: st) := v_getV X (k := 6) (f := 10) hi rfl rfl inlX6 (Nat.le_of_ble_eq_true rfl) hw rfl rfl hd kk
theorem gf_6_11 (X : RC p s m args c cc nL own g A) {index i : Nat} (hi : i < 1) (hw : (Cond.fieldLink own index "SlotStartModel" "guide" "[I") ∈ wsL_law) (hd : decode cc pc = .ok (.getfield index, 3)) (kk : V p l e R s m args below meth c nL g A cells slots Q μ (pc + 3) lv (.ref (g.1 30 0) :: st)) : V p l e R s m args below meth c nL g A cells slots Q μ (pc) lv (.ref (g.1 6 i) :: st) := v_getV X (k := 6) (f := 11) hi rfl rfl inlX6 (Nat.le_of_ble_eq_true rfl) hw rfl rfl hd kk
theorem gf_6_12 (X : RC p s m args c cc nL own g A) {index i : Nat} (hi : i < 1) (hw : (Cond.fieldLink own index "SlotStartModel" "seen" "[I") ∈ wsL_law) (hd : decode cc pc = .ok (.getfield index, 3)) (kk : V p l e R s m args below meth c nL g A cells slots Q μ (pc + 3) lv (.ref (g.1 31 0) :: st)) : V p l e R s m args below meth c nL g A cells slots Q μ (pc) lv (.ref (g.1 6 i) :: st) := v_getV X (k := 6) (f := 12) hi rfl rfl inlX6 (Nat.le_of_ble_eq_true rfl) hw rfl rfl hd kk
theorem gf_6_13 (X : RC p s m args c cc nL own g A) {index i : Nat} (hi : i < 1) (hw : (Cond.fieldLink own index "SlotStartModel" "rate" "[I") ∈ wsL_law) (hd : decode cc pc = .ok (.getfield index, 3)) (kk : V p l e R s m args below meth c nL g A cells slots Q μ (pc + 3) lv (.ref (g.1 32 0) :: st)) : V p l e R s m args below meth c nL g A cells slots Q μ (pc) lv (.ref (g.1 6 i) :: st) := v_getV X (k := 6) (f := 13) hi rfl rfl inlX6 (Nat.le_of_ble_eq_true rfl) hw rfl rfl hd kk
theorem al_7 (X : RC p s m args c cc nL own g A) {i : Nat} {x : Int32} {f : Int32 → Prop} (hi : i < 48) (h : vp_in x 6 ∧ ∀ y : Int32, y = μ 7 i x.toNatClampNeg → f y) (hd : decode cc pc = .ok (.iaload, 1)) (kk : ∀ y : Int32, f y → V p l e R s m args below meth c nL g A cells slots Q μ (pc + 1) lv (.int y :: st)) : V p l e R s m args below meth c nL g A cells slots Q μ (pc) lv (.int x :: .ref (g.1 7 i) :: st) := v_ialdK X (k := 7) hi rfl h hd kk
theorem as_7 (X : RC p s m args c cc nL own g A) {i : Nat} {x y : Int32} {f : Mem → Prop} (hi : i < 48) (h : vp_in x 6 ∧ ∀ μ1 : Mem, μ1 = ms μ 7 i x.toNatClampNeg y → f μ1) (hd : decode cc pc = .ok (.iastore, 1)) (kk : ∀ μ1 : Mem, f μ1 → V p l e R s m args below meth c nL g A cells slots Q μ1 (pc + 1) lv (st)) : V p l e R s m args below meth c nL g A cells slots Q μ (pc) lv (.int y :: .int x :: .ref (g.1 7 i) :: st) := v_iastK X (k := 7) hi (fun _ => rfl) h hd kk
theorem len_7 (X : RC p s m args c cc nL own g A) {i : Nat} (hi : i < 48) (hd : decode cc pc = .ok (.arraylength, 1)) (kk : V p l e R s m args below meth c nL g A cells slots Q μ (pc + 1) lv (.int (nI 6) :: st)) : V p l e R s m args below meth c nL g A cells slots Q μ (pc) lv (.ref (g.1 7 i) :: st) := v_alen X (k := 7) (t0 := 0) hi rfl rfl rfl hd kk
theorem al_8 (X : RC p s m args c cc nL own g A) {i : Nat} {x : Int32} {f : Int32 → Prop} (hi : i < 4) (h : vp_in x 40 ∧ ∀ y : Int32, y = μ 8 i x.toNatClampNeg → f y) (hd : decode cc pc = .ok (.iaload, 1)) (kk : ∀ y : Int32, f y → V p l e R s m args below meth c nL g A cells slots Q μ (pc + 1) lv (.int y :: st)) : V p l e R s m args below meth c nL g A cells slots Q μ (pc) lv (.int x :: .ref (g.1 8 i) :: st) := v_ialdK X (k := 8) hi rfl h hd kk
theorem as_8 (X : RC p s m args c cc nL own g A) {i : Nat} {x y : Int32} {f : Mem → Prop} (hi : i < 4) (h : vp_in x 40 ∧ ∀ μ1 : Mem, μ1 = ms μ 8 i x.toNatClampNeg y → f μ1) (hd : decode cc pc = .ok (.iastore, 1)) (kk : ∀ μ1 : Mem, f μ1 → V p l e R s m args below meth c nL g A cells slots Q μ1 (pc + 1) lv (st)) : V p l e R s m args below meth c nL g A cells slots Q μ (pc) lv (.int y :: .int x :: .ref (g.1 8 i) :: st) := v_iastK X (k := 8) hi (fun _ => rfl) h hd kk
theorem len_8 (X : RC p s m args c cc nL own g A) {i : Nat} (hi : i < 4) (hd : decode cc pc = .ok (.arraylength, 1)) (kk : V p l e R s m args below meth c nL g A cells slots Q μ (pc + 1) lv (.int (nI 40) :: st)) : V p l e R s m args below meth c nL g A cells slots Q μ (pc) lv (.ref (g.1 8 i) :: st) := v_alen X (k := 8) (t0 := 0) hi rfl rfl rfl hd kk
theorem al_9 (X : RC p s m args c cc nL own g A) {i : Nat} {x : Int32} {f : Int32 → Prop} (hi : i < 4) (h : vp_in x 40 ∧ ∀ y : Int32, y = μ 9 i x.toNatClampNeg → f y) (hd : decode cc pc = .ok (.iaload, 1)) (kk : ∀ y : Int32, f y → V p l e R s m args below meth c nL g A cells slots Q μ (pc + 1) lv (.int y :: st)) : V p l e R s m args below meth c nL g A cells slots Q μ (pc) lv (.int x :: .ref (g.1 9 i) :: st) := v_ialdK X (k := 9) hi rfl h hd kk
theorem as_9 (X : RC p s m args c cc nL own g A) {i : Nat} {x y : Int32} {f : Mem → Prop} (hi : i < 4) (h : vp_in x 40 ∧ ∀ μ1 : Mem, μ1 = ms μ 9 i x.toNatClampNeg y → f μ1) (hd : decode cc pc = .ok (.iastore, 1)) (kk : ∀ μ1 : Mem, f μ1 → V p l e R s m args below meth c nL g A cells slots Q μ1 (pc + 1) lv (st)) : V p l e R s m args below meth c nL g A cells slots Q μ (pc) lv (.int y :: .int x :: .ref (g.1 9 i) :: st) := v_iastK X (k := 9) hi (fun _ => rfl) h hd kk
theorem len_9 (X : RC p s m args c cc nL own g A) {i : Nat} (hi : i < 4) (hd : decode cc pc = .ok (.arraylength, 1)) (kk : V p l e R s m args below meth c nL g A cells slots Q μ (pc + 1) lv (.int (nI 40) :: st)) : V p l e R s m args below meth c nL g A cells slots Q μ (pc) lv (.ref (g.1 9 i) :: st) := v_alen X (k := 9) (t0 := 0) hi rfl rfl rfl hd kk
theorem al_10 (X : RC p s m args c cc nL own g A) {i : Nat} {x : Int32} {f : Int32 → Prop} (hi : i < 4) (h : vp_in x 40 ∧ ∀ y : Int32, y = μ 10 i x.toNatClampNeg → f y) (hd : decode cc pc = .ok (.iaload, 1)) (kk : ∀ y : Int32, f y → V p l e R s m args below meth c nL g A cells slots Q μ (pc + 1) lv (.int y :: st)) : V p l e R s m args below meth c nL g A cells slots Q μ (pc) lv (.int x :: .ref (g.1 10 i) :: st) := v_ialdK X (k := 10) hi rfl h hd kk
theorem as_10 (X : RC p s m args c cc nL own g A) {i : Nat} {x y : Int32} {f : Mem → Prop} (hi : i < 4) (h : vp_in x 40 ∧ ∀ μ1 : Mem, μ1 = ms μ 10 i x.toNatClampNeg y → f μ1) (hd : decode cc pc = .ok (.iastore, 1)) (kk : ∀ μ1 : Mem, f μ1 → V p l e R s m args below meth c nL g A cells slots Q μ1 (pc + 1) lv (st)) : V p l e R s m args below meth c nL g A cells slots Q μ (pc) lv (.int y :: .int x :: .ref (g.1 10 i) :: st) := v_iastK X (k := 10) hi (fun _ => rfl) h hd kk
theorem len_10 (X : RC p s m args c cc nL own g A) {i : Nat} (hi : i < 4) (hd : decode cc pc = .ok (.arraylength, 1)) (kk : V p l e R s m args below meth c nL g A cells slots Q μ (pc + 1) lv (.int (nI 40) :: st)) : V p l e R s m args below meth c nL g A cells slots Q μ (pc) lv (.ref (g.1 10 i) :: st) := v_alen X (k := 10) (t0 := 0) hi rfl rfl rfl hd kk
theorem al_11 (X : RC p s m args c cc nL own g A) {i : Nat} {x : Int32} {f : Int32 → Prop} (hi : i < 5) (h : vp_in x 6 ∧ ∀ y : Int32, y = μ 11 i x.toNatClampNeg → f y) (hd : decode cc pc = .ok (.iaload, 1)) (kk : ∀ y : Int32, f y → V p l e R s m args below meth c nL g A cells slots Q μ (pc + 1) lv (.int y :: st)) : V p l e R s m args below meth c nL g A cells slots Q μ (pc) lv (.int x :: .ref (g.1 11 i) :: st) := v_ialdK X (k := 11) hi rfl h hd kk
theorem as_11 (X : RC p s m args c cc nL own g A) {i : Nat} {x y : Int32} {f : Mem → Prop} (hi : i < 5) (h : vp_in x 6 ∧ ∀ μ1 : Mem, μ1 = ms μ 11 i x.toNatClampNeg y → f μ1) (hd : decode cc pc = .ok (.iastore, 1)) (kk : ∀ μ1 : Mem, f μ1 → V p l e R s m args below meth c nL g A cells slots Q μ1 (pc + 1) lv (st)) : V p l e R s m args below meth c nL g A cells slots Q μ (pc) lv (.int y :: .int x :: .ref (g.1 11 i) :: st) := v_iastK X (k := 11) hi (fun _ => rfl) h hd kk
theorem len_11 (X : RC p s m args c cc nL own g A) {i : Nat} (hi : i < 5) (hd : decode cc pc = .ok (.arraylength, 1)) (kk : V p l e R s m args below meth c nL g A cells slots Q μ (pc + 1) lv (.int (nI 6) :: st)) : V p l e R s m args below meth c nL g A cells slots Q μ (pc) lv (.ref (g.1 11 i) :: st) := v_alen X (k := 11) (t0 := 0) hi rfl rfl rfl hd kk
theorem al_20 (X : RC p s m args c cc nL own g A) {i : Nat} {x : Int32} {f : Int32 → Prop} (hi : i < 1) (h : vp_in x 256 ∧ ∀ y : Int32, y = μ 20 i x.toNatClampNeg → f y) (hd : decode cc pc = .ok (.iaload, 1)) (kk : ∀ y : Int32, f y → V p l e R s m args below meth c nL g A cells slots Q μ (pc + 1) lv (.int y :: st)) : V p l e R s m args below meth c nL g A cells slots Q μ (pc) lv (.int x :: .ref (g.1 20 i) :: st) := v_ialdK X (k := 20) hi rfl h hd kk
theorem as_20 (X : RC p s m args c cc nL own g A) {i : Nat} {x y : Int32} {f : Mem → Prop} (hi : i < 1) (h : vp_in x 256 ∧ ∀ μ1 : Mem, μ1 = ms μ 20 i x.toNatClampNeg y → f μ1) (hd : decode cc pc = .ok (.iastore, 1)) (kk : ∀ μ1 : Mem, f μ1 → V p l e R s m args below meth c nL g A cells slots Q μ1 (pc + 1) lv (st)) : V p l e R s m args below meth c nL g A cells slots Q μ (pc) lv (.int y :: .int x :: .ref (g.1 20 i) :: st) := v_iastK X (k := 20) hi (fun _ => rfl) h hd kk
theorem al_21 (X : RC p s m args c cc nL own g A) {i : Nat} {x : Int32} {f : Int32 → Prop} (hi : i < 1) (h : vp_in x 768 ∧ ∀ y : Int32, y = μ 21 i x.toNatClampNeg → f y) (hd : decode cc pc = .ok (.iaload, 1)) (kk : ∀ y : Int32, f y → V p l e R s m args below meth c nL g A cells slots Q μ (pc + 1) lv (.int y :: st)) : V p l e R s m args below meth c nL g A cells slots Q μ (pc) lv (.int x :: .ref (g.1 21 i) :: st) := v_ialdK X (k := 21) hi rfl h hd kk
theorem as_21 (X : RC p s m args c cc nL own g A) {i : Nat} {x y : Int32} {f : Mem → Prop} (hi : i < 1) (h : vp_in x 768 ∧ ∀ μ1 : Mem, μ1 = ms μ 21 i x.toNatClampNeg y → f μ1) (hd : decode cc pc = .ok (.iastore, 1)) (kk : ∀ μ1 : Mem, f μ1 → V p l e R s m args below meth c nL g A cells slots Q μ1 (pc + 1) lv (st)) : V p l e R s m args below meth c nL g A cells slots Q μ (pc) lv (.int y :: .int x :: .ref (g.1 21 i) :: st) := v_iastK X (k := 21) hi (fun _ => rfl) h hd kk
theorem al_22 (X : RC p s m args c cc nL own g A) {i : Nat} {x : Int32} {f : Int32 → Prop} (hi : i < 1) (h : vp_in x 2 ∧ ∀ y : Int32, y = μ 22 i x.toNatClampNeg → f y) (hd : decode cc pc = .ok (.baload, 1)) (kk : ∀ y : Int32, f y → V p l e R s m args below meth c nL g A cells slots Q μ (pc + 1) lv (.int y :: st)) : V p l e R s m args below meth c nL g A cells slots Q μ (pc) lv (.int x :: .ref (g.1 22 i) :: st) := v_zaldK X (k := 22) hi rfl h hd kk
theorem as_22 (X : RC p s m args c cc nL own g A) {i : Nat} {x y : Int32} {f : Mem → Prop} (hi : i < 1) (h : nz y ∧ vp_in x 2 ∧ ∀ μ1 : Mem, μ1 = ms μ 22 i x.toNatClampNeg y → f μ1) (hd : decode cc pc = .ok (.bastore, 1)) (kk : ∀ μ1 : Mem, f μ1 → V p l e R s m args below meth c nL g A cells slots Q μ1 (pc + 1) lv (st)) : V p l e R s m args below meth c nL g A cells slots Q μ (pc) lv (.int y :: .int x :: .ref (g.1 22 i) :: st) := v_zastK X (k := 22) hi (fun _ => rfl) h hd kk
theorem al_23 (X : RC p s m args c cc nL own g A) {i : Nat} {x : Int32} {f : Int32 → Prop} (hi : i < 1) (h : vp_in x 8 ∧ ∀ y : Int32, y = μ 23 i x.toNatClampNeg → f y) (hd : decode cc pc = .ok (.iaload, 1)) (kk : ∀ y : Int32, f y → V p l e R s m args below meth c nL g A cells slots Q μ (pc + 1) lv (.int y :: st)) : V p l e R s m args below meth c nL g A cells slots Q μ (pc) lv (.int x :: .ref (g.1 23 i) :: st) := v_ialdK X (k := 23) hi rfl h hd kk
theorem as_23 (X : RC p s m args c cc nL own g A) {i : Nat} {x y : Int32} {f : Mem → Prop} (hi : i < 1) (h : vp_in x 8 ∧ ∀ μ1 : Mem, μ1 = ms μ 23 i x.toNatClampNeg y → f μ1) (hd : decode cc pc = .ok (.iastore, 1)) (kk : ∀ μ1 : Mem, f μ1 → V p l e R s m args below meth c nL g A cells slots Q μ1 (pc + 1) lv (st)) : V p l e R s m args below meth c nL g A cells slots Q μ (pc) lv (.int y :: .int x :: .ref (g.1 23 i) :: st) := v_iastK X (k := 23) hi (fun _ => rfl) h hd kk
theorem al_24 (X : RC p s m args c cc nL own g A) {i : Nat} {x : Int32} {f : Int32 → Prop} (hi : i < 1) (h : vp_in x 6 ∧ ∀ y : Int32, y = μ 24 i x.toNatClampNeg → f y) (hd : decode cc pc = .ok (.baload, 1)) (kk : ∀ y : Int32, f y → V p l e R s m args below meth c nL g A cells slots Q μ (pc + 1) lv (.int y :: st)) : V p l e R s m args below meth c nL g A cells slots Q μ (pc) lv (.int x :: .ref (g.1 24 i) :: st) := v_zaldK X (k := 24) hi rfl h hd kk
theorem as_24 (X : RC p s m args c cc nL own g A) {i : Nat} {x y : Int32} {f : Mem → Prop} (hi : i < 1) (h : nz y ∧ vp_in x 6 ∧ ∀ μ1 : Mem, μ1 = ms μ 24 i x.toNatClampNeg y → f μ1) (hd : decode cc pc = .ok (.bastore, 1)) (kk : ∀ μ1 : Mem, f μ1 → V p l e R s m args below meth c nL g A cells slots Q μ1 (pc + 1) lv (st)) : V p l e R s m args below meth c nL g A cells slots Q μ (pc) lv (.int y :: .int x :: .ref (g.1 24 i) :: st) := v_zastK X (k := 24) hi (fun _ => rfl) h hd kk
theorem al_25 (X : RC p s m args c cc nL own g A) {i : Nat} {x : Int32} {f : Int32 → Prop} (hi : i < 1) (h : vp_in x 6 ∧ ∀ y : Int32, y = μ 25 i x.toNatClampNeg → f y) (hd : decode cc pc = .ok (.baload, 1)) (kk : ∀ y : Int32, f y → V p l e R s m args below meth c nL g A cells slots Q μ (pc + 1) lv (.int y :: st)) : V p l e R s m args below meth c nL g A cells slots Q μ (pc) lv (.int x :: .ref (g.1 25 i) :: st) := v_zaldK X (k := 25) hi rfl h hd kk
theorem as_25 (X : RC p s m args c cc nL own g A) {i : Nat} {x y : Int32} {f : Mem → Prop} (hi : i < 1) (h : nz y ∧ vp_in x 6 ∧ ∀ μ1 : Mem, μ1 = ms μ 25 i x.toNatClampNeg y → f μ1) (hd : decode cc pc = .ok (.bastore, 1)) (kk : ∀ μ1 : Mem, f μ1 → V p l e R s m args below meth c nL g A cells slots Q μ1 (pc + 1) lv (st)) : V p l e R s m args below meth c nL g A cells slots Q μ (pc) lv (.int y :: .int x :: .ref (g.1 25 i) :: st) := v_zastK X (k := 25) hi (fun _ => rfl) h hd kk
theorem al_26 (X : RC p s m args c cc nL own g A) {i : Nat} {x : Int32} {f : Int32 → Prop} (hi : i < 1) (h : vp_in x 6 ∧ ∀ y : Int32, y = μ 26 i x.toNatClampNeg → f y) (hd : decode cc pc = .ok (.baload, 1)) (kk : ∀ y : Int32, f y → V p l e R s m args below meth c nL g A cells slots Q μ (pc + 1) lv (.int y :: st)) : V p l e R s m args below meth c nL g A cells slots Q μ (pc) lv (.int x :: .ref (g.1 26 i) :: st) := v_zaldK X (k := 26) hi rfl h hd kk
theorem as_26 (X : RC p s m args c cc nL own g A) {i : Nat} {x y : Int32} {f : Mem → Prop} (hi : i < 1) (h : nz y ∧ vp_in x 6 ∧ ∀ μ1 : Mem, μ1 = ms μ 26 i x.toNatClampNeg y → f μ1) (hd : decode cc pc = .ok (.bastore, 1)) (kk : ∀ μ1 : Mem, f μ1 → V p l e R s m args below meth c nL g A cells slots Q μ1 (pc + 1) lv (st)) : V p l e R s m args below meth c nL g A cells slots Q μ (pc) lv (.int y :: .int x :: .ref (g.1 26 i) :: st) := v_zastK X (k := 26) hi (fun _ => rfl) h hd kk
theorem al_27 (X : RC p s m args c cc nL own g A) {i : Nat} {x : Int32} {f : Int32 → Prop} (hi : i < 1) (h : vp_in x 6 ∧ ∀ y : Int32, y = μ 27 i x.toNatClampNeg → f y) (hd : decode cc pc = .ok (.baload, 1)) (kk : ∀ y : Int32, f y → V p l e R s m args below meth c nL g A cells slots Q μ (pc + 1) lv (.int y :: st)) : V p l e R s m args below meth c nL g A cells slots Q μ (pc) lv (.int x :: .ref (g.1 27 i) :: st) := v_zaldK X (k := 27) hi rfl h hd kk
theorem as_27 (X : RC p s m args c cc nL own g A) {i : Nat} {x y : Int32} {f : Mem → Prop} (hi : i < 1) (h : nz y ∧ vp_in x 6 ∧ ∀ μ1 : Mem, μ1 = ms μ 27 i x.toNatClampNeg y → f μ1) (hd : decode cc pc = .ok (.bastore, 1)) (kk : ∀ μ1 : Mem, f μ1 → V p l e R s m args below meth c nL g A cells slots Q μ1 (pc + 1) lv (st)) : V p l e R s m args below meth c nL g A cells slots Q μ (pc) lv (.int y :: .int x :: .ref (g.1 27 i) :: st) := v_zastK X (k := 27) hi (fun _ => rfl) h hd kk
theorem al_28 (X : RC p s m args c cc nL own g A) {i : Nat} {x : Int32} {f : Int32 → Prop} (hi : i < 1) (h : vp_in x 6 ∧ ∀ y : Int32, y = μ 28 i x.toNatClampNeg → f y) (hd : decode cc pc = .ok (.iaload, 1)) (kk : ∀ y : Int32, f y → V p l e R s m args below meth c nL g A cells slots Q μ (pc + 1) lv (.int y :: st)) : V p l e R s m args below meth c nL g A cells slots Q μ (pc) lv (.int x :: .ref (g.1 28 i) :: st) := v_ialdK X (k := 28) hi rfl h hd kk
theorem as_28 (X : RC p s m args c cc nL own g A) {i : Nat} {x y : Int32} {f : Mem → Prop} (hi : i < 1) (h : vp_in x 6 ∧ ∀ μ1 : Mem, μ1 = ms μ 28 i x.toNatClampNeg y → f μ1) (hd : decode cc pc = .ok (.iastore, 1)) (kk : ∀ μ1 : Mem, f μ1 → V p l e R s m args below meth c nL g A cells slots Q μ1 (pc + 1) lv (st)) : V p l e R s m args below meth c nL g A cells slots Q μ (pc) lv (.int y :: .int x :: .ref (g.1 28 i) :: st) := v_iastK X (k := 28) hi (fun _ => rfl) h hd kk
theorem al_29 (X : RC p s m args c cc nL own g A) {i : Nat} {x : Int32} {f : Int32 → Prop} (hi : i < 1) (h : vp_in x 6 ∧ ∀ y : Int32, y = μ 29 i x.toNatClampNeg → f y) (hd : decode cc pc = .ok (.iaload, 1)) (kk : ∀ y : Int32, f y → V p l e R s m args below meth c nL g A cells slots Q μ (pc + 1) lv (.int y :: st)) : V p l e R s m args below meth c nL g A cells slots Q μ (pc) lv (.int x :: .ref (g.1 29 i) :: st) := v_ialdK X (k := 29) hi rfl h hd kk
theorem as_29 (X : RC p s m args c cc nL own g A) {i : Nat} {x y : Int32} {f : Mem → Prop} (hi : i < 1) (h : vp_in x 6 ∧ ∀ μ1 : Mem, μ1 = ms μ 29 i x.toNatClampNeg y → f μ1) (hd : decode cc pc = .ok (.iastore, 1)) (kk : ∀ μ1 : Mem, f μ1 → V p l e R s m args below meth c nL g A cells slots Q μ1 (pc + 1) lv (st)) : V p l e R s m args below meth c nL g A cells slots Q μ (pc) lv (.int y :: .int x :: .ref (g.1 29 i) :: st) := v_iastK X (k := 29) hi (fun _ => rfl) h hd kk
theorem al_30 (X : RC p s m args c cc nL own g A) {i : Nat} {x : Int32} {f : Int32 → Prop} (hi : i < 1) (h : vp_in x 6 ∧ ∀ y : Int32, y = μ 30 i x.toNatClampNeg → f y) (hd : decode cc pc = .ok (.iaload, 1)) (kk : ∀ y : Int32, f y → V p l e R s m args below meth c nL g A cells slots Q μ (pc + 1) lv (.int y :: st)) : V p l e R s m args below meth c nL g A cells slots Q μ (pc) lv (.int x :: .ref (g.1 30 i) :: st) := v_ialdK X (k := 30) hi rfl h hd kk
theorem as_30 (X : RC p s m args c cc nL own g A) {i : Nat} {x y : Int32} {f : Mem → Prop} (hi : i < 1) (h : vp_in x 6 ∧ ∀ μ1 : Mem, μ1 = ms μ 30 i x.toNatClampNeg y → f μ1) (hd : decode cc pc = .ok (.iastore, 1)) (kk : ∀ μ1 : Mem, f μ1 → V p l e R s m args below meth c nL g A cells slots Q μ1 (pc + 1) lv (st)) : V p l e R s m args below meth c nL g A cells slots Q μ (pc) lv (.int y :: .int x :: .ref (g.1 30 i) :: st) := v_iastK X (k := 30) hi (fun _ => rfl) h hd kk
theorem al_31 (X : RC p s m args c cc nL own g A) {i : Nat} {x : Int32} {f : Int32 → Prop} (hi : i < 1) (h : vp_in x 36 ∧ ∀ y : Int32, y = μ 31 i x.toNatClampNeg → f y) (hd : decode cc pc = .ok (.iaload, 1)) (kk : ∀ y : Int32, f y → V p l e R s m args below meth c nL g A cells slots Q μ (pc + 1) lv (.int y :: st)) : V p l e R s m args below meth c nL g A cells slots Q μ (pc) lv (.int x :: .ref (g.1 31 i) :: st) := v_ialdK X (k := 31) hi rfl h hd kk
theorem as_31 (X : RC p s m args c cc nL own g A) {i : Nat} {x y : Int32} {f : Mem → Prop} (hi : i < 1) (h : vp_in x 36 ∧ ∀ μ1 : Mem, μ1 = ms μ 31 i x.toNatClampNeg y → f μ1) (hd : decode cc pc = .ok (.iastore, 1)) (kk : ∀ μ1 : Mem, f μ1 → V p l e R s m args below meth c nL g A cells slots Q μ1 (pc + 1) lv (st)) : V p l e R s m args below meth c nL g A cells slots Q μ (pc) lv (.int y :: .int x :: .ref (g.1 31 i) :: st) := v_iastK X (k := 31) hi (fun _ => rfl) h hd kk
theorem al_32 (X : RC p s m args c cc nL own g A) {i : Nat} {x : Int32} {f : Int32 → Prop} (hi : i < 1) (h : vp_in x 6 ∧ ∀ y : Int32, y = μ 32 i x.toNatClampNeg → f y) (hd : decode cc pc = .ok (.iaload, 1)) (kk : ∀ y : Int32, f y → V p l e R s m args below meth c nL g A cells slots Q μ (pc + 1) lv (.int y :: st)) : V p l e R s m args below meth c nL g A cells slots Q μ (pc) lv (.int x :: .ref (g.1 32 i) :: st) := v_ialdK X (k := 32) hi rfl h hd kk
theorem as_32 (X : RC p s m args c cc nL own g A) {i : Nat} {x y : Int32} {f : Mem → Prop} (hi : i < 1) (h : vp_in x 6 ∧ ∀ μ1 : Mem, μ1 = ms μ 32 i x.toNatClampNeg y → f μ1) (hd : decode cc pc = .ok (.iastore, 1)) (kk : ∀ μ1 : Mem, f μ1 → V p l e R s m args below meth c nL g A cells slots Q μ1 (pc + 1) lv (st)) : V p l e R s m args below meth c nL g A cells slots Q μ (pc) lv (.int y :: .int x :: .ref (g.1 32 i) :: st) := v_iastK X (k := 32) hi (fun _ => rfl) h hd kk
theorem len_13 (X : RC p s m args c cc nL own g A) {i : Nat} (hi : i < 4) (hd : decode cc pc = .ok (.arraylength, 1)) (kk : V p l e R s m args below meth c nL g A cells slots Q μ (pc + 1) lv (.int (nI 6) :: st)) : V p l e R s m args below meth c nL g A cells slots Q μ (pc) lv (.ref (g.1 13 i) :: st) := v_alen X (k := 13) (t0 := 3) hi rfl rfl rfl hd kk
theorem len_14 (X : RC p s m args c cc nL own g A) {i : Nat} (hi : i < 1) (hd : decode cc pc = .ok (.arraylength, 1)) (kk : V p l e R s m args below meth c nL g A cells slots Q μ (pc + 1) lv (.int (nI 2) :: st)) : V p l e R s m args below meth c nL g A cells slots Q μ (pc) lv (.ref (g.1 14 i) :: st) := v_alen X (k := 14) (t0 := 2) hi rfl rfl rfl hd kk
end VF
end
section
theorem cst_b_16 : (Int8.ofInt 16).toInt32 = ((nI 16) : Int32) := by decide +kernel
theorem cst_b_63 : (Int8.ofInt 63).toInt32 = ((nI 63) : Int32) := by decide +kernel
theorem cst_b_8 : (Int8.ofInt 8).toInt32 = ((nI 8) : Int32) := by decide +kernel
theorem cst_i_0 : Int32.ofInt 0 = (0 : Int32) := by decide +kernel
theorem cst_i_1 : Int32.ofInt 1 = (1 : Int32) := by decide +kernel
theorem cst_i_2 : Int32.ofInt 2 = ((nI 2) : Int32) := by decide +kernel
theorem cst_i_4 : Int32.ofInt 4 = ((nI 4) : Int32) := by decide +kernel
theorem cst_i_5 : Int32.ofInt 5 = ((nI 5) : Int32) := by decide +kernel
theorem cst_i_m1 : Int32.ofInt (-1) = ((-1) : Int32) := by decide +kernel
theorem nst_0 : (.methodLinkNest RX0 57 yX5_bitOf RX5 : Cond) ∈ nestW := List.mem_of_getElem? (i := 0) rfl
theorem nst_1 : (.methodLinkNest RX0 65 yX5_isIn RX5 : Cond) ∈ nestW := List.mem_of_getElem? (i := 1) rfl
theorem nst_2 : (.methodLinkNest RX1 42 yX5_bitOf RX5 : Cond) ∈ nestW := List.mem_of_getElem? (i := 2) rfl
theorem nst_3 : (.methodLinkNest RX1 67 yX5_isIn RX5 : Cond) ∈ nestW := List.mem_of_getElem? (i := 3) rfl
theorem nst_4 : (.methodLinkNest RX4 19 yX5_isWithin RX5 : Cond) ∈ nestW := List.mem_of_getElem? (i := 4) rfl
theorem hdc_X5_bitOf : yX5_bitOf.cls ≠ "java/lang/invoke/MethodHandle" ∧ yX5_bitOf.cls ≠ "java/lang/invoke/VarHandle" ∧ (parseMethodDescriptor yX5_bitOf.desc).map (fun d => d.parameters.length) = some 1 := by decide +kernel
theorem hdc_X5_isWithin : yX5_isWithin.cls ≠ "java/lang/invoke/MethodHandle" ∧ yX5_isWithin.cls ≠ "java/lang/invoke/VarHandle" ∧ (parseMethodDescriptor yX5_isWithin.desc).map (fun d => d.parameters.length) = some 3 := by decide +kernel
def wp_X5_isWithin (a0 : Int32) (a1 : Int32) (a2 : Int32) (μ : Mem) (q : Int32 → Mem → Prop) : Prop :=
((a0 < a1 →
q 0 μ) ∧ (¬ a0 < a1 →
((a2 < a0 →
q 0 μ) ∧ (¬ a2 < a0 →
q 1 μ))))
set_option maxRecDepth 100000 in
set_option maxHeartbeats 4000000 in
theorem c_X5_isWithin (l : Launch) (g : GG) (hI : Inj g) (μ : Mem) (a0 : Int32) (a1 : Int32) (a2 : Int32) (q : Int32 → Mem → Prop) (h : wp_X5_isWithin a0 a1 a2 μ q) : Met l yX5_isWithin (Cond.code yX5_isWithin cX5_isWithin 3 (some .boolean) :: wsL_law) ({ frames := 0, cells := 0, slots := 0, locals := 0 }) (KP g [.int a0, .int a1, .int a2] μ) (KQi g q) 0 0 (AA g) := by
  refine met_V (own := RX5) hI (by decide) rfl (Nat.le_of_ble_eq_true rfl) rfl (fun p e s m args below meth c X hr hlk => ?_)
  unfold wp_X5_isWithin at h
  refine v_iload_n (pc := 0) X rfl 0 rfl dX5_isWithin_0 ?_
  refine v_iload_n (pc := 1) X rfl 1 rfl dX5_isWithin_1 ?_
  refine v_icmp_lt (pc := 2) (tgt := 14) X h dX5_isWithin_2 (by decide) (fun h => ?_) (fun h => ?_)
  · refine v_iconst (pc := 14) X cst_i_0 dX5_isWithin_14 ?_
    exact v_zret (pc := 15) X hr hlk ⟨nz_0, h⟩ dX5_isWithin_15
  · refine v_iload_n (pc := 5) X rfl 0 rfl dX5_isWithin_5 ?_
    refine v_iload_n (pc := 6) X rfl 2 rfl dX5_isWithin_6 ?_
    refine v_icmp_gt (pc := 7) (tgt := 14) X h dX5_isWithin_7 (by decide) (fun h => ?_) (fun h => ?_)
    · refine v_iconst (pc := 14) X cst_i_0 dX5_isWithin_14 ?_
      exact v_zret (pc := 15) X hr hlk ⟨nz_0, h⟩ dX5_isWithin_15
    · refine v_iconst (pc := 10) X cst_i_1 dX5_isWithin_10 ?_
      refine v_goto (pc := 11) (tgt := 15) X dX5_isWithin_11 (by decide) ?_
      exact v_zret (pc := 15) X hr hlk ⟨nz_1, h⟩ dX5_isWithin_15

def wp_X5_isNode (a0 : Int32) (μ : Mem) (q : Int32 → Mem → Prop) : Prop :=
wp_X5_isWithin a0 0 (nI 5) μ (fun x_2 m_1 =>
nz x_2 ∧ q x_2 m_1)
set_option maxRecDepth 100000 in
set_option maxHeartbeats 4000000 in
theorem c_X5_isNode (l : Launch) (g : GG) (hI : Inj g) (μ : Mem) (a0 : Int32) (q : Int32 → Mem → Prop) (h : wp_X5_isNode a0 μ q) : Met l yX5_isNode (Cond.code yX5_isNode cX5_isNode 1 (some .boolean) :: wsL_law) ({ frames := 1, cells := 0, slots := 0, locals := 22 }) (KP g [.int a0] μ) (KQi g q) 0 0 (AA g) := by
  refine met_V (own := RX5) hI (by decide) rfl (Nat.le_of_ble_eq_true rfl) rfl (fun p e s m args below meth c X hr hlk => ?_)
  unfold wp_X5_isNode at h
  refine v_iload_n (pc := 0) X rfl 0 rfl dX5_isNode_0 ?_
  refine v_iconst (pc := 1) X cst_i_0 dX5_isNode_1 ?_
  refine v_iconst (pc := 2) X cst_i_5 dX5_isNode_2 ?_
  refine v_callSi (pc := 3) X (c_X5_isWithin l g hI _ _ _ _ _ h) wd_119 wd_117 wd_118 wd_2 ⟨rfl, rfl⟩ hdc_X5_isWithin ⟨Nat.le_of_ble_eq_true rfl, Nat.le_of_ble_eq_true rfl⟩ ⟨Nat.le_refl 0, Nat.le_refl 0⟩ (As := [.int a0, .int 0, .int (nI 5)]) rfl rfl (Nat.le_of_ble_eq_true rfl) dX5_isNode_3 (fun x_2 m_1 h => ?_)
  exact v_zret (pc := 6) X hr hlk h dX5_isNode_6

def wp_X5_bitOf (a0 : Int32) (μ : Mem) (q : Int32 → Mem → Prop) : Prop :=
q (1 <<< (a0 &&& 31)) μ
set_option maxRecDepth 100000 in
set_option maxHeartbeats 4000000 in
theorem c_X5_bitOf (l : Launch) (g : GG) (hI : Inj g) (μ : Mem) (a0 : Int32) (q : Int32 → Mem → Prop) (h : wp_X5_bitOf a0 μ q) : Met l yX5_bitOf (Cond.code yX5_bitOf cX5_bitOf 1 (some .int) :: wsL_law) ({ frames := 0, cells := 0, slots := 0, locals := 0 }) (KP g [.int a0] μ) (KQi g q) 0 0 (AA g) := by
  refine met_V (own := RX5) hI (by decide) rfl (Nat.le_of_ble_eq_true rfl) rfl (fun p e s m args below meth c X hr hlk => ?_)
  unfold wp_X5_bitOf at h
  refine v_iconst (pc := 0) X cst_i_1 dX5_bitOf_0 ?_
  refine v_iload_n (pc := 1) X rfl 0 rfl dX5_bitOf_1 ?_
  refine v_ishl (pc := 2) X dX5_bitOf_2 ?_
  exact v_iret (pc := 3) X hr hlk h dX5_bitOf_3

def wp_X5_isIn (a0 : Int32) (a1 : Int32) (μ : Mem) (q : Int32 → Mem → Prop) : Prop :=
wp_X5_bitOf a1 μ (fun x_2 m_1 =>
(((a0 &&& x_2) = 0 →
q 0 m_1) ∧ (¬ (a0 &&& x_2) = 0 →
q 1 m_1)))
set_option maxRecDepth 100000 in
set_option maxHeartbeats 4000000 in
theorem c_X5_isIn (l : Launch) (g : GG) (hI : Inj g) (μ : Mem) (a0 : Int32) (a1 : Int32) (q : Int32 → Mem → Prop) (h : wp_X5_isIn a0 a1 μ q) : Met l yX5_isIn (Cond.code yX5_isIn cX5_isIn 2 (some .boolean) :: wsL_law) ({ frames := 1, cells := 0, slots := 0, locals := 20 }) (KP g [.int a0, .int a1] μ) (KQi g q) 0 0 (AA g) := by
  refine met_V (own := RX5) hI (by decide) rfl (Nat.le_of_ble_eq_true rfl) rfl (fun p e s m args below meth c X hr hlk => ?_)
  unfold wp_X5_isIn at h
  refine v_iload_n (pc := 0) X rfl 0 rfl dX5_isIn_0 ?_
  refine v_iload_n (pc := 1) X rfl 1 rfl dX5_isIn_1 ?_
  refine v_callSi (pc := 2) X (c_X5_bitOf l g hI _ _ _ h) wd_184 wd_244 wd_183 wd_2 ⟨rfl, rfl⟩ hdc_X5_bitOf ⟨Nat.le_of_ble_eq_true rfl, Nat.le_of_ble_eq_true rfl⟩ ⟨Nat.le_refl 0, Nat.le_refl 0⟩ (As := [.int a1]) rfl rfl (Nat.le_of_ble_eq_true rfl) dX5_isIn_2 (fun x_2 m_1 h => ?_)
  refine v_iand (pc := 5) X dX5_isIn_5 ?_
  refine v_if_eq (pc := 6) (tgt := 13) X h dX5_isIn_6 (by decide) (fun h => ?_) (fun h => ?_)
  · refine v_iconst (pc := 13) X cst_i_0 dX5_isIn_13 ?_
    exact v_zret (pc := 14) X hr hlk ⟨nz_0, h⟩ dX5_isIn_14
  · refine v_iconst (pc := 9) X cst_i_1 dX5_isIn_9 ?_
    refine v_goto (pc := 10) (tgt := 14) X dX5_isIn_10 (by decide) ?_
    exact v_zret (pc := 14) X hr hlk ⟨nz_1, h⟩ dX5_isIn_14

def wp_X5_areAllIn (a0 : Int32) (a1 : Int32) (μ : Mem) (q : Int32 → Mem → Prop) : Prop :=
((¬ (a0 &&& (a1 ^^^ (-1))) = 0 →
q 0 μ) ∧ ((a0 &&& (a1 ^^^ (-1))) = 0 →
q 1 μ))
set_option maxRecDepth 100000 in
set_option maxHeartbeats 4000000 in
theorem c_X5_areAllIn (l : Launch) (g : GG) (hI : Inj g) (μ : Mem) (a0 : Int32) (a1 : Int32) (q : Int32 → Mem → Prop) (h : wp_X5_areAllIn a0 a1 μ q) : Met l yX5_areAllIn (Cond.code yX5_areAllIn cX5_areAllIn 2 (some .boolean) :: wsL_law) ({ frames := 0, cells := 0, slots := 0, locals := 0 }) (KP g [.int a0, .int a1] μ) (KQi g q) 0 0 (AA g) := by
  refine met_V (own := RX5) hI (by decide) rfl (Nat.le_of_ble_eq_true rfl) rfl (fun p e s m args below meth c X hr hlk => ?_)
  unfold wp_X5_areAllIn at h
  refine v_iload_n (pc := 0) X rfl 0 rfl dX5_areAllIn_0 ?_
  refine v_iload_n (pc := 1) X rfl 1 rfl dX5_areAllIn_1 ?_
  refine v_iconst (pc := 2) X cst_i_m1 dX5_areAllIn_2 ?_
  refine v_ixor (pc := 3) X dX5_areAllIn_3 ?_
  refine v_iand (pc := 4) X dX5_areAllIn_4 ?_
  refine v_if_ne (pc := 5) (tgt := 12) X h dX5_areAllIn_5 (by decide) (fun h => ?_) (fun h => ?_)
  · refine v_iconst (pc := 12) X cst_i_0 dX5_areAllIn_12 ?_
    exact v_zret (pc := 13) X hr hlk ⟨nz_0, h⟩ dX5_areAllIn_13
  · refine v_iconst (pc := 8) X cst_i_1 dX5_areAllIn_8 ?_
    refine v_goto (pc := 9) (tgt := 13) X dX5_areAllIn_9 (by decide) ?_
    exact v_zret (pc := 13) X hr hlk ⟨nz_1, h⟩ dX5_areAllIn_13

def wp_J6_bitCount_0f7a4 (a0 : Int32) (μ : Mem) (q : Int32 → Mem → Prop) : Prop :=
∀ y_1 : Int32, y_1 = (a0 - ((((a0).toUInt32 >>> ((1).toUInt32 &&& Int32.toUInt32 31)).toInt32) &&& (1431655765))) →
∀ y_2 : Int32, y_2 = ((y_1 &&& (858993459)) + ((((y_1).toUInt32 >>> (((nI 2)).toUInt32 &&& Int32.toUInt32 31)).toInt32) &&& (858993459))) →
∀ y_3 : Int32, y_3 = ((y_2 + (((y_2).toUInt32 >>> (((nI 4)).toUInt32 &&& Int32.toUInt32 31)).toInt32)) &&& (252645135)) →
∀ y_4 : Int32, y_4 = (y_3 + (((y_3).toUInt32 >>> (((nI 8)).toUInt32 &&& Int32.toUInt32 31)).toInt32)) →
∀ y_5 : Int32, y_5 = (y_4 + (((y_4).toUInt32 >>> (((nI 16)).toUInt32 &&& Int32.toUInt32 31)).toInt32)) →
q (y_5 &&& (nI 63)) μ
set_option maxRecDepth 100000 in
set_option maxHeartbeats 4000000 in
theorem c_J6_bitCount_0f7a4 (l : Launch) (g : GG) (hI : Inj g) (μ : Mem) (a0 : Int32) (q : Int32 → Mem → Prop) (h : wp_J6_bitCount_0f7a4 a0 μ q) : Met l yJ6_bitCount_0f7a4 (Cond.code yJ6_bitCount_0f7a4 cJ6_bitCount_0f7a4 1 (some .int) :: wsL_law) ({ frames := 0, cells := 0, slots := 0, locals := 0 }) (KP g [.int a0] μ) (KQi g q) 0 0 (AA g) := by
  refine met_V (own := RJ6) hI (by decide) rfl (Nat.le_of_ble_eq_true rfl) rfl (fun p e s m args below meth c X hr hlk => ?_)
  unfold wp_J6_bitCount_0f7a4 at h
  refine v_iload_n (pc := 0) X rfl 0 rfl dJ6_bitCount_0f7a4_0 ?_
  refine v_iload_n (pc := 1) X rfl 0 rfl dJ6_bitCount_0f7a4_1 ?_
  refine v_iconst (pc := 2) X cst_i_1 dJ6_bitCount_0f7a4_2 ?_
  refine v_iushr (pc := 3) X dJ6_bitCount_0f7a4_3 ?_
  refine v_ldcw (pc := 4) X wd_189 dJ6_bitCount_0f7a4_4 ?_
  refine v_iand (pc := 7) X dJ6_bitCount_0f7a4_7 ?_
  refine v_isub (pc := 8) X dJ6_bitCount_0f7a4_8 ?_
  refine v_nm h (fun y_1 h => ?_)
  refine v_istore_n (pc := 9) (lv' := [(0, .int y_1)]) X rfl (by decide) rfl dJ6_bitCount_0f7a4_9 ?_
  refine v_iload_n (pc := 10) X rfl 0 rfl dJ6_bitCount_0f7a4_10 ?_
  refine v_ldcw (pc := 11) X wd_190 dJ6_bitCount_0f7a4_11 ?_
  refine v_iand (pc := 14) X dJ6_bitCount_0f7a4_14 ?_
  refine v_iload_n (pc := 15) X rfl 0 rfl dJ6_bitCount_0f7a4_15 ?_
  refine v_iconst (pc := 16) X cst_i_2 dJ6_bitCount_0f7a4_16 ?_
  refine v_iushr (pc := 17) X dJ6_bitCount_0f7a4_17 ?_
  refine v_ldcw (pc := 18) X wd_190 dJ6_bitCount_0f7a4_18 ?_
  refine v_iand (pc := 21) X dJ6_bitCount_0f7a4_21 ?_
  refine v_iadd (pc := 22) X dJ6_bitCount_0f7a4_22 ?_
  refine v_nm h (fun y_2 h => ?_)
  refine v_istore_n (pc := 23) (lv' := [(0, .int y_2)]) X rfl (by decide) rfl dJ6_bitCount_0f7a4_23 ?_
  refine v_iload_n (pc := 24) X rfl 0 rfl dJ6_bitCount_0f7a4_24 ?_
  refine v_iload_n (pc := 25) X rfl 0 rfl dJ6_bitCount_0f7a4_25 ?_
  refine v_iconst (pc := 26) X cst_i_4 dJ6_bitCount_0f7a4_26 ?_
  refine v_iushr (pc := 27) X dJ6_bitCount_0f7a4_27 ?_
  refine v_iadd (pc := 28) X dJ6_bitCount_0f7a4_28 ?_
  refine v_ldcw (pc := 29) X wd_191 dJ6_bitCount_0f7a4_29 ?_
  refine v_iand (pc := 32) X dJ6_bitCount_0f7a4_32 ?_
  refine v_nm h (fun y_3 h => ?_)
  refine v_istore_n (pc := 33) (lv' := [(0, .int y_3)]) X rfl (by decide) rfl dJ6_bitCount_0f7a4_33 ?_
  refine v_iload_n (pc := 34) X rfl 0 rfl dJ6_bitCount_0f7a4_34 ?_
  refine v_iload_n (pc := 35) X rfl 0 rfl dJ6_bitCount_0f7a4_35 ?_
  refine v_bipush (pc := 36) X cst_b_8 dJ6_bitCount_0f7a4_36 ?_
  refine v_iushr (pc := 38) X dJ6_bitCount_0f7a4_38 ?_
  refine v_iadd (pc := 39) X dJ6_bitCount_0f7a4_39 ?_
  refine v_nm h (fun y_4 h => ?_)
  refine v_istore_n (pc := 40) (lv' := [(0, .int y_4)]) X rfl (by decide) rfl dJ6_bitCount_0f7a4_40 ?_
  refine v_iload_n (pc := 41) X rfl 0 rfl dJ6_bitCount_0f7a4_41 ?_
  refine v_iload_n (pc := 42) X rfl 0 rfl dJ6_bitCount_0f7a4_42 ?_
  refine v_bipush (pc := 43) X cst_b_16 dJ6_bitCount_0f7a4_43 ?_
  refine v_iushr (pc := 45) X dJ6_bitCount_0f7a4_45 ?_
  refine v_iadd (pc := 46) X dJ6_bitCount_0f7a4_46 ?_
  refine v_nm h (fun y_5 h => ?_)
  refine v_istore_n (pc := 47) (lv' := [(0, .int y_5)]) X rfl (by decide) rfl dJ6_bitCount_0f7a4_47 ?_
  refine v_iload_n (pc := 48) X rfl 0 rfl dJ6_bitCount_0f7a4_48 ?_
  refine v_bipush (pc := 49) X cst_b_63 dJ6_bitCount_0f7a4_49 ?_
  refine v_iand (pc := 51) X dJ6_bitCount_0f7a4_51 ?_
  exact v_iret (pc := 52) X hr hlk h dJ6_bitCount_0f7a4_52
end
