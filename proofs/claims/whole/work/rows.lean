section
-- ===== PART A: goes FIRST, ahead of the names: the tables' words, and 'selects' of the private methods out of them =====
/-- a private method of a class that the tables say can be made, by its rows of tables_1 -/
def lw_okq (q : MethodName × Nat) : Prop := (q.1.cls ≠ "java/lang/invoke/MethodHandle" ∧ q.1.cls ≠ "java/lang/invoke/VarHandle") ∧ Cond.instantiable q.1.cls q.2 ∈ tables_1 ∧ Cond.privateMethod q.1 ∈ tables_1 ∧ Cond.instanceMethod q.1 ∈ tables_1
theorem lw_p0 : lw_okq (⟨"java/util/ArrayList", "add", "(Ljava/lang/Object;[Ljava/lang/Object;I)V"⟩, 3) := ⟨⟨by decide +kernel, by decide +kernel⟩, List.mem_of_getElem? (i := 50) (by decide +kernel), List.mem_of_getElem? (i := 203) (by decide +kernel), List.mem_of_getElem? (i := 204) (by decide +kernel)⟩
theorem lw_p1 : lw_okq (⟨"java/util/ArrayList", "grow", "()[Ljava/lang/Object;"⟩, 3) := ⟨⟨by decide +kernel, by decide +kernel⟩, List.mem_of_getElem? (i := 50) (by decide +kernel), List.mem_of_getElem? (i := 207) (by decide +kernel), List.mem_of_getElem? (i := 208) (by decide +kernel)⟩
theorem lw_p2 : lw_okq (⟨"java/util/ArrayList", "grow", "(I)[Ljava/lang/Object;"⟩, 3) := ⟨⟨by decide +kernel, by decide +kernel⟩, List.mem_of_getElem? (i := 50) (by decide +kernel), List.mem_of_getElem? (i := 211) (by decide +kernel), List.mem_of_getElem? (i := 212) (by decide +kernel)⟩
theorem lw_p3 : lw_okq (⟨"WeddingRegister", "canBeParents", "(II)Z"⟩, 12) := ⟨⟨by decide +kernel, by decide +kernel⟩, List.mem_of_getElem? (i := 24) (by decide +kernel), List.mem_of_getElem? (i := 268) (by decide +kernel), List.mem_of_getElem? (i := 269) (by decide +kernel)⟩
theorem lw_p4 : lw_okq (⟨"WeddingRegister", "personAt", "(I)LWeddingRegister$Person;"⟩, 12) := ⟨⟨by decide +kernel, by decide +kernel⟩, List.mem_of_getElem? (i := 24) (by decide +kernel), List.mem_of_getElem? (i := 272) (by decide +kernel), List.mem_of_getElem? (i := 273) (by decide +kernel)⟩
theorem lw_p5 : lw_okq (⟨"WeddingRegister", "barToCouple", "(LWeddingRegister$Person;LWeddingRegister$Person;I)I"⟩, 12) := ⟨⟨by decide +kernel, by decide +kernel⟩, List.mem_of_getElem? (i := 24) (by decide +kernel), List.mem_of_getElem? (i := 404) (by decide +kernel), List.mem_of_getElem? (i := 405) (by decide +kernel)⟩
theorem lw_p6 : lw_okq (⟨"WeddingRegister", "hasOpenNotice", "(LWeddingRegister$Person;LWeddingRegister$Person;)Z"⟩, 12) := ⟨⟨by decide +kernel, by decide +kernel⟩, List.mem_of_getElem? (i := 24) (by decide +kernel), List.mem_of_getElem? (i := 434) (by decide +kernel), List.mem_of_getElem? (i := 435) (by decide +kernel)⟩
theorem lw_p7 : lw_okq (⟨"WeddingRegister", "noticeAt", "(I)LWeddingRegister$Notice;"⟩, 12) := ⟨⟨by decide +kernel, by decide +kernel⟩, List.mem_of_getElem? (i := 24) (by decide +kernel), List.mem_of_getElem? (i := 488) (by decide +kernel), List.mem_of_getElem? (i := 489) (by decide +kernel)⟩
theorem lw_p8 : lw_okq (⟨"WeddingRegister$Calendar", "feastsAheadOf", "(I)I"⟩, 1) := ⟨⟨by decide +kernel, by decide +kernel⟩, List.mem_of_getElem? (i := 32) (by decide +kernel), List.mem_of_getElem? (i := 504) (by decide +kernel), List.mem_of_getElem? (i := 505) (by decide +kernel)⟩
theorem lw_p9 : lw_okq (⟨"WeddingRegister", "firstRipeDay", "(LWeddingRegister$Notice;)I"⟩, 12) := ⟨⟨by decide +kernel, by decide +kernel⟩, List.mem_of_getElem? (i := 24) (by decide +kernel), List.mem_of_getElem? (i := 518) (by decide +kernel), List.mem_of_getElem? (i := 519) (by decide +kernel)⟩
theorem lw_p10 : lw_okq (⟨"WeddingRegister", "hangingAsked", "(LWeddingRegister$Notice;I)I"⟩, 12) := ⟨⟨by decide +kernel, by decide +kernel⟩, List.mem_of_getElem? (i := 24) (by decide +kernel), List.mem_of_getElem? (i := 522) (by decide +kernel), List.mem_of_getElem? (i := 523) (by decide +kernel)⟩
theorem lw_p11 : lw_okq (⟨"WeddingRegister", "isDayToCome", "(I)Z"⟩, 12) := ⟨⟨by decide +kernel, by decide +kernel⟩, List.mem_of_getElem? (i := 24) (by decide +kernel), List.mem_of_getElem? (i := 558) (by decide +kernel), List.mem_of_getElem? (i := 559) (by decide +kernel)⟩
theorem lw_p12 : lw_okq (⟨"WeddingRegister", "isSlot", "(I)Z"⟩, 12) := ⟨⟨by decide +kernel, by decide +kernel⟩, List.mem_of_getElem? (i := 24) (by decide +kernel), List.mem_of_getElem? (i := 562) (by decide +kernel), List.mem_of_getElem? (i := 563) (by decide +kernel)⟩
theorem lw_p13 : lw_okq (⟨"WeddingRegister", "barToDay", "(LWeddingRegister$Notice;I)I"⟩, 12) := ⟨⟨by decide +kernel, by decide +kernel⟩, List.mem_of_getElem? (i := 24) (by decide +kernel), List.mem_of_getElem? (i := 575) (by decide +kernel), List.mem_of_getElem? (i := 576) (by decide +kernel)⟩
theorem lw_p14 : lw_okq (⟨"WeddingRegister", "isRipeOn", "(LWeddingRegister$Notice;I)Z"⟩, 12) := ⟨⟨by decide +kernel, by decide +kernel⟩, List.mem_of_getElem? (i := 24) (by decide +kernel), List.mem_of_getElem? (i := 579) (by decide +kernel), List.mem_of_getElem? (i := 580) (by decide +kernel)⟩
theorem lw_p15 : lw_okq (⟨"WeddingRegister", "fillPlan", "(ILWeddingRegister$Notice;)V"⟩, 12) := ⟨⟨by decide +kernel, by decide +kernel⟩, List.mem_of_getElem? (i := 24) (by decide +kernel), List.mem_of_getElem? (i := 583) (by decide +kernel), List.mem_of_getElem? (i := 584) (by decide +kernel)⟩
def lw_privs_1 : List (MethodName × Nat) := [(⟨"java/util/ArrayList", "add", "(Ljava/lang/Object;[Ljava/lang/Object;I)V"⟩, 3), (⟨"java/util/ArrayList", "grow", "()[Ljava/lang/Object;"⟩, 3), (⟨"java/util/ArrayList", "grow", "(I)[Ljava/lang/Object;"⟩, 3), (⟨"WeddingRegister", "canBeParents", "(II)Z"⟩, 12), (⟨"WeddingRegister", "personAt", "(I)LWeddingRegister$Person;"⟩, 12), (⟨"WeddingRegister", "barToCouple", "(LWeddingRegister$Person;LWeddingRegister$Person;I)I"⟩, 12), (⟨"WeddingRegister", "hasOpenNotice", "(LWeddingRegister$Person;LWeddingRegister$Person;)Z"⟩, 12), (⟨"WeddingRegister", "noticeAt", "(I)LWeddingRegister$Notice;"⟩, 12), (⟨"WeddingRegister$Calendar", "feastsAheadOf", "(I)I"⟩, 1), (⟨"WeddingRegister", "firstRipeDay", "(LWeddingRegister$Notice;)I"⟩, 12), (⟨"WeddingRegister", "hangingAsked", "(LWeddingRegister$Notice;I)I"⟩, 12), (⟨"WeddingRegister", "isDayToCome", "(I)Z"⟩, 12), (⟨"WeddingRegister", "isSlot", "(I)Z"⟩, 12), (⟨"WeddingRegister", "barToDay", "(LWeddingRegister$Notice;I)I"⟩, 12), (⟨"WeddingRegister", "isRipeOn", "(LWeddingRegister$Notice;I)Z"⟩, 12), (⟨"WeddingRegister", "fillPlan", "(ILWeddingRegister$Notice;)V"⟩, 12)]
theorem lw_r1 : ∀ q ∈ lw_privs_1, lw_okq q := List.forall_mem_cons.mpr ⟨lw_p0, List.forall_mem_cons.mpr ⟨lw_p1, List.forall_mem_cons.mpr ⟨lw_p2, List.forall_mem_cons.mpr ⟨lw_p3, List.forall_mem_cons.mpr ⟨lw_p4, List.forall_mem_cons.mpr ⟨lw_p5, List.forall_mem_cons.mpr ⟨lw_p6, List.forall_mem_cons.mpr ⟨lw_p7, List.forall_mem_cons.mpr ⟨lw_p8, List.forall_mem_cons.mpr ⟨lw_p9, List.forall_mem_cons.mpr ⟨lw_p10, List.forall_mem_cons.mpr ⟨lw_p11, List.forall_mem_cons.mpr ⟨lw_p12, List.forall_mem_cons.mpr ⟨lw_p13, List.forall_mem_cons.mpr ⟨lw_p14, List.forall_mem_cons.mpr ⟨lw_p15, fun _ h => absurd h List.not_mem_nil⟩⟩⟩⟩⟩⟩⟩⟩⟩⟩⟩⟩⟩⟩⟩⟩
theorem lw_p16 : lw_okq (⟨"WeddingRegister$DayPlan", "placeOf", "(II)I"⟩, 2) := ⟨⟨by decide +kernel, by decide +kernel⟩, List.mem_of_getElem? (i := 125) (by decide +kernel), List.mem_of_getElem? (i := 604) (by decide +kernel), List.mem_of_getElem? (i := 605) (by decide +kernel)⟩
theorem lw_p17 : lw_okq (⟨"WeddingRegister", "barToSlot", "(LWeddingRegister$Notice;I)I"⟩, 12) := ⟨⟨by decide +kernel, by decide +kernel⟩, List.mem_of_getElem? (i := 24) (by decide +kernel), List.mem_of_getElem? (i := 609) (by decide +kernel), List.mem_of_getElem? (i := 610) (by decide +kernel)⟩
theorem lw_p18 : lw_okq (⟨"WeddingRegister$DayPlan", "isTaken", "(II)Z"⟩, 2) := ⟨⟨by decide +kernel, by decide +kernel⟩, List.mem_of_getElem? (i := 125) (by decide +kernel), List.mem_of_getElem? (i := 617) (by decide +kernel), List.mem_of_getElem? (i := 618) (by decide +kernel)⟩
theorem lw_p19 : lw_okq (⟨"WeddingRegister$DayPlan", "hallAt", "(II)I"⟩, 2) := ⟨⟨by decide +kernel, by decide +kernel⟩, List.mem_of_getElem? (i := 125) (by decide +kernel), List.mem_of_getElem? (i := 621) (by decide +kernel), List.mem_of_getElem? (i := 622) (by decide +kernel)⟩
theorem lw_p20 : lw_okq (⟨"WeddingRegister", "speaksWithBoth", "(ILWeddingRegister$Notice;)Z"⟩, 12) := ⟨⟨by decide +kernel, by decide +kernel⟩, List.mem_of_getElem? (i := 24) (by decide +kernel), List.mem_of_getElem? (i := 625) (by decide +kernel), List.mem_of_getElem? (i := 626) (by decide +kernel)⟩
theorem lw_p21 : lw_okq (⟨"WeddingRegister", "bookByOrder", "(LWeddingRegister$Notice;I)Z"⟩, 12) := ⟨⟨by decide +kernel, by decide +kernel⟩, List.mem_of_getElem? (i := 24) (by decide +kernel), List.mem_of_getElem? (i := 633) (by decide +kernel), List.mem_of_getElem? (i := 634) (by decide +kernel)⟩
theorem lw_p22 : lw_okq (⟨"WeddingRegister", "firstFreeSlot", "(LWeddingRegister$Notice;)I"⟩, 12) := ⟨⟨by decide +kernel, by decide +kernel⟩, List.mem_of_getElem? (i := 24) (by decide +kernel), List.mem_of_getElem? (i := 637) (by decide +kernel), List.mem_of_getElem? (i := 638) (by decide +kernel)⟩
theorem lw_p23 : lw_okq (⟨"WeddingRegister", "entryAt", "(I)LWeddingRegister$Entry;"⟩, 12) := ⟨⟨by decide +kernel, by decide +kernel⟩, List.mem_of_getElem? (i := 24) (by decide +kernel), List.mem_of_getElem? (i := 687) (by decide +kernel), List.mem_of_getElem? (i := 688) (by decide +kernel)⟩
theorem lw_p24 : lw_okq (⟨"WeddingRegister", "nameAfter", "(LWeddingRegister$Entry;II)I"⟩, 12) := ⟨⟨by decide +kernel, by decide +kernel⟩, List.mem_of_getElem? (i := 24) (by decide +kernel), List.mem_of_getElem? (i := 726) (by decide +kernel), List.mem_of_getElem? (i := 727) (by decide +kernel)⟩
theorem lw_p25 : lw_okq (⟨"WeddingRegister", "openBookings", "()I"⟩, 12) := ⟨⟨by decide +kernel, by decide +kernel⟩, List.mem_of_getElem? (i := 24) (by decide +kernel), List.mem_of_getElem? (i := 746) (by decide +kernel), List.mem_of_getElem? (i := 747) (by decide +kernel)⟩
theorem lw_p26 : lw_okq (⟨"WeddingRegisterModel", "isPerson", "(I)Z"⟩, 36) := ⟨⟨by decide +kernel, by decide +kernel⟩, List.mem_of_getElem? (i := 750) (by decide +kernel), List.mem_of_getElem? (i := 881) (by decide +kernel), List.mem_of_getElem? (i := 882) (by decide +kernel)⟩
theorem lw_p27 : lw_okq (⟨"WeddingRegisterModel", "isFree", "(I)Z"⟩, 36) := ⟨⟨by decide +kernel, by decide +kernel⟩, List.mem_of_getElem? (i := 750) (by decide +kernel), List.mem_of_getElem? (i := 893) (by decide +kernel), List.mem_of_getElem? (i := 894) (by decide +kernel)⟩
theorem lw_p28 : lw_okq (⟨"WeddingRegisterModel", "kinOf", "(II)I"⟩, 36) := ⟨⟨by decide +kernel, by decide +kernel⟩, List.mem_of_getElem? (i := 750) (by decide +kernel), List.mem_of_getElem? (i := 906) (by decide +kernel), List.mem_of_getElem? (i := 907) (by decide +kernel)⟩
theorem lw_p29 : lw_okq (⟨"WeddingRegisterModel", "isParent", "(II)Z"⟩, 36) := ⟨⟨by decide +kernel, by decide +kernel⟩, List.mem_of_getElem? (i := 750) (by decide +kernel), List.mem_of_getElem? (i := 910) (by decide +kernel), List.mem_of_getElem? (i := 911) (by decide +kernel)⟩
theorem lw_p30 : lw_okq (⟨"WeddingRegisterModel", "share", "(II)Z"⟩, 36) := ⟨⟨by decide +kernel, by decide +kernel⟩, List.mem_of_getElem? (i := 750) (by decide +kernel), List.mem_of_getElem? (i := 914) (by decide +kernel), List.mem_of_getElem? (i := 915) (by decide +kernel)⟩
theorem lw_p31 : lw_okq (⟨"WeddingRegisterModel", "parent", "(II)I"⟩, 36) := ⟨⟨by decide +kernel, by decide +kernel⟩, List.mem_of_getElem? (i := 750) (by decide +kernel), List.mem_of_getElem? (i := 918) (by decide +kernel), List.mem_of_getElem? (i := 919) (by decide +kernel)⟩
def lw_privs_2 : List (MethodName × Nat) := [(⟨"WeddingRegister$DayPlan", "placeOf", "(II)I"⟩, 2), (⟨"WeddingRegister", "barToSlot", "(LWeddingRegister$Notice;I)I"⟩, 12), (⟨"WeddingRegister$DayPlan", "isTaken", "(II)Z"⟩, 2), (⟨"WeddingRegister$DayPlan", "hallAt", "(II)I"⟩, 2), (⟨"WeddingRegister", "speaksWithBoth", "(ILWeddingRegister$Notice;)Z"⟩, 12), (⟨"WeddingRegister", "bookByOrder", "(LWeddingRegister$Notice;I)Z"⟩, 12), (⟨"WeddingRegister", "firstFreeSlot", "(LWeddingRegister$Notice;)I"⟩, 12), (⟨"WeddingRegister", "entryAt", "(I)LWeddingRegister$Entry;"⟩, 12), (⟨"WeddingRegister", "nameAfter", "(LWeddingRegister$Entry;II)I"⟩, 12), (⟨"WeddingRegister", "openBookings", "()I"⟩, 12), (⟨"WeddingRegisterModel", "isPerson", "(I)Z"⟩, 36), (⟨"WeddingRegisterModel", "isFree", "(I)Z"⟩, 36), (⟨"WeddingRegisterModel", "kinOf", "(II)I"⟩, 36), (⟨"WeddingRegisterModel", "isParent", "(II)Z"⟩, 36), (⟨"WeddingRegisterModel", "share", "(II)Z"⟩, 36), (⟨"WeddingRegisterModel", "parent", "(II)I"⟩, 36)]
theorem lw_r2 : ∀ q ∈ lw_privs_2, lw_okq q := List.forall_mem_cons.mpr ⟨lw_p16, List.forall_mem_cons.mpr ⟨lw_p17, List.forall_mem_cons.mpr ⟨lw_p18, List.forall_mem_cons.mpr ⟨lw_p19, List.forall_mem_cons.mpr ⟨lw_p20, List.forall_mem_cons.mpr ⟨lw_p21, List.forall_mem_cons.mpr ⟨lw_p22, List.forall_mem_cons.mpr ⟨lw_p23, List.forall_mem_cons.mpr ⟨lw_p24, List.forall_mem_cons.mpr ⟨lw_p25, List.forall_mem_cons.mpr ⟨lw_p26, List.forall_mem_cons.mpr ⟨lw_p27, List.forall_mem_cons.mpr ⟨lw_p28, List.forall_mem_cons.mpr ⟨lw_p29, List.forall_mem_cons.mpr ⟨lw_p30, List.forall_mem_cons.mpr ⟨lw_p31, fun _ h => absurd h List.not_mem_nil⟩⟩⟩⟩⟩⟩⟩⟩⟩⟩⟩⟩⟩⟩⟩⟩
theorem lw_p32 : lw_okq (⟨"WeddingRegisterModel", "stands", "(III)I"⟩, 36) := ⟨⟨by decide +kernel, by decide +kernel⟩, List.mem_of_getElem? (i := 750) (by decide +kernel), List.mem_of_getElem? (i := 926) (by decide +kernel), List.mem_of_getElem? (i := 927) (by decide +kernel)⟩
theorem lw_p33 : lw_okq (⟨"WeddingRegisterModel", "isYoung", "(II)Z"⟩, 36) := ⟨⟨by decide +kernel, by decide +kernel⟩, List.mem_of_getElem? (i := 750) (by decide +kernel), List.mem_of_getElem? (i := 930) (by decide +kernel), List.mem_of_getElem? (i := 931) (by decide +kernel)⟩
theorem lw_p34 : lw_okq (⟨"WeddingRegisterModel", "asks", "(III)I"⟩, 36) := ⟨⟨by decide +kernel, by decide +kernel⟩, List.mem_of_getElem? (i := 750) (by decide +kernel), List.mem_of_getElem? (i := 934) (by decide +kernel), List.mem_of_getElem? (i := 935) (by decide +kernel)⟩
theorem lw_p35 : lw_okq (⟨"WeddingRegisterModel", "inForce", "(II)[I"⟩, 36) := ⟨⟨by decide +kernel, by decide +kernel⟩, List.mem_of_getElem? (i := 750) (by decide +kernel), List.mem_of_getElem? (i := 938) (by decide +kernel), List.mem_of_getElem? (i := 939) (by decide +kernel)⟩
theorem lw_p36 : lw_okq (⟨"WeddingRegisterModel", "lacks", "(II)Z"⟩, 36) := ⟨⟨by decide +kernel, by decide +kernel⟩, List.mem_of_getElem? (i := 750) (by decide +kernel), List.mem_of_getElem? (i := 942) (by decide +kernel), List.mem_of_getElem? (i := 943) (by decide +kernel)⟩
theorem lw_p37 : lw_okq (⟨"WeddingRegisterModel", "hasPaper", "(III)Z"⟩, 36) := ⟨⟨by decide +kernel, by decide +kernel⟩, List.mem_of_getElem? (i := 750) (by decide +kernel), List.mem_of_getElem? (i := 946) (by decide +kernel), List.mem_of_getElem? (i := 947) (by decide +kernel)⟩
theorem lw_p38 : lw_okq (⟨"WeddingRegisterModel", "isNotice", "(I)Z"⟩, 36) := ⟨⟨by decide +kernel, by decide +kernel⟩, List.mem_of_getElem? (i := 750) (by decide +kernel), List.mem_of_getElem? (i := 958) (by decide +kernel), List.mem_of_getElem? (i := 959) (by decide +kernel)⟩
theorem lw_p39 : lw_okq (⟨"WeddingRegisterModel", "hungOf", "(II)I"⟩, 36) := ⟨⟨by decide +kernel, by decide +kernel⟩, List.mem_of_getElem? (i := 750) (by decide +kernel), List.mem_of_getElem? (i := 966) (by decide +kernel), List.mem_of_getElem? (i := 967) (by decide +kernel)⟩
theorem lw_p40 : lw_okq (⟨"WeddingRegisterModel", "ripeOf", "(I)I"⟩, 36) := ⟨⟨by decide +kernel, by decide +kernel⟩, List.mem_of_getElem? (i := 750) (by decide +kernel), List.mem_of_getElem? (i := 974) (by decide +kernel), List.mem_of_getElem? (i := 975) (by decide +kernel)⟩
theorem lw_p41 : lw_okq (⟨"WeddingRegisterModel", "wanted", "(II)I"⟩, 36) := ⟨⟨by decide +kernel, by decide +kernel⟩, List.mem_of_getElem? (i := 750) (by decide +kernel), List.mem_of_getElem? (i := 978) (by decide +kernel), List.mem_of_getElem? (i := 979) (by decide +kernel)⟩
theorem lw_p42 : lw_okq (⟨"WeddingRegisterModel", "bars", "(IIIII)I"⟩, 36) := ⟨⟨by decide +kernel, by decide +kernel⟩, List.mem_of_getElem? (i := 750) (by decide +kernel), List.mem_of_getElem? (i := 999) (by decide +kernel), List.mem_of_getElem? (i := 1000) (by decide +kernel)⟩
theorem lw_p43 : lw_okq (⟨"WeddingRegisterModel", "isRipe", "(II)Z"⟩, 36) := ⟨⟨by decide +kernel, by decide +kernel⟩, List.mem_of_getElem? (i := 750) (by decide +kernel), List.mem_of_getElem? (i := 1003) (by decide +kernel), List.mem_of_getElem? (i := 1004) (by decide +kernel)⟩
theorem lw_p44 : lw_okq (⟨"WeddingRegisterModel", "objected", "(I)I"⟩, 36) := ⟨⟨by decide +kernel, by decide +kernel⟩, List.mem_of_getElem? (i := 750) (by decide +kernel), List.mem_of_getElem? (i := 1007) (by decide +kernel), List.mem_of_getElem? (i := 1008) (by decide +kernel)⟩
theorem lw_p45 : lw_okq (⟨"WeddingRegisterModel", "finds", "(II)Z"⟩, 36) := ⟨⟨by decide +kernel, by decide +kernel⟩, List.mem_of_getElem? (i := 750) (by decide +kernel), List.mem_of_getElem? (i := 1015) (by decide +kernel), List.mem_of_getElem? (i := 1016) (by decide +kernel)⟩
theorem lw_p46 : lw_okq (⟨"WeddingRegisterModel", "nameOf", "(III)I"⟩, 36) := ⟨⟨by decide +kernel, by decide +kernel⟩, List.mem_of_getElem? (i := 750) (by decide +kernel), List.mem_of_getElem? (i := 1039) (by decide +kernel), List.mem_of_getElem? (i := 1040) (by decide +kernel)⟩
def lw_privs_3 : List (MethodName × Nat) := [(⟨"WeddingRegisterModel", "stands", "(III)I"⟩, 36), (⟨"WeddingRegisterModel", "isYoung", "(II)Z"⟩, 36), (⟨"WeddingRegisterModel", "asks", "(III)I"⟩, 36), (⟨"WeddingRegisterModel", "inForce", "(II)[I"⟩, 36), (⟨"WeddingRegisterModel", "lacks", "(II)Z"⟩, 36), (⟨"WeddingRegisterModel", "hasPaper", "(III)Z"⟩, 36), (⟨"WeddingRegisterModel", "isNotice", "(I)Z"⟩, 36), (⟨"WeddingRegisterModel", "hungOf", "(II)I"⟩, 36), (⟨"WeddingRegisterModel", "ripeOf", "(I)I"⟩, 36), (⟨"WeddingRegisterModel", "wanted", "(II)I"⟩, 36), (⟨"WeddingRegisterModel", "bars", "(IIIII)I"⟩, 36), (⟨"WeddingRegisterModel", "isRipe", "(II)Z"⟩, 36), (⟨"WeddingRegisterModel", "objected", "(I)I"⟩, 36), (⟨"WeddingRegisterModel", "finds", "(II)Z"⟩, 36), (⟨"WeddingRegisterModel", "nameOf", "(III)I"⟩, 36)]
theorem lw_r3 : ∀ q ∈ lw_privs_3, lw_okq q := List.forall_mem_cons.mpr ⟨lw_p32, List.forall_mem_cons.mpr ⟨lw_p33, List.forall_mem_cons.mpr ⟨lw_p34, List.forall_mem_cons.mpr ⟨lw_p35, List.forall_mem_cons.mpr ⟨lw_p36, List.forall_mem_cons.mpr ⟨lw_p37, List.forall_mem_cons.mpr ⟨lw_p38, List.forall_mem_cons.mpr ⟨lw_p39, List.forall_mem_cons.mpr ⟨lw_p40, List.forall_mem_cons.mpr ⟨lw_p41, List.forall_mem_cons.mpr ⟨lw_p42, List.forall_mem_cons.mpr ⟨lw_p43, List.forall_mem_cons.mpr ⟨lw_p44, List.forall_mem_cons.mpr ⟨lw_p45, List.forall_mem_cons.mpr ⟨lw_p46, fun _ h => absurd h List.not_mem_nil⟩⟩⟩⟩⟩⟩⟩⟩⟩⟩⟩⟩⟩⟩⟩
def lw_privs : List (MethodName × Nat) := lw_privs_1 ++ (lw_privs_2 ++ (lw_privs_3))
def lw_tbl : List Cond := k2_sels lw_privs ++ tables_1
theorem lw_privs_ok : ∀ q ∈ lw_privs, lw_okq q := by
  show ∀ q ∈ lw_privs_1 ++ (lw_privs_2 ++ (lw_privs_3)), lw_okq q
  exact List.forall_mem_append.mpr ⟨lw_r1, List.forall_mem_append.mpr ⟨lw_r2, lw_r3⟩⟩
end
section
def RX0 : String := "WeddingRegister$Calendar"
def TX0 : u_T := fun k => match k with
  | _ => ("WeddingRegister$Calendar", "toldFeasts", "[J", true)
def tyX0 : Nat → FieldType := fun k => match k with
  | _ => .array .long
theorem nmX0 : ∀ a, a < 1 → ∀ b, b < 1 → a ≠ b → (TX0 a).2.1 ≠ (TX0 b).2.1 := by decide +kernel
theorem tyX0_ok : ∀ k, k < 1 → parseFieldDescriptor (TX0 k).2.2.1 = some (tyX0 k) := by decide +kernel
abbrev cX0_init : ByteArray := prog_2_method_1_code
def yX0_init : MethodName := ⟨RX0, "<init>", "()V"⟩
abbrev cX0_isFeast : ByteArray := prog_2_method_2_code
def yX0_isFeast : MethodName := ⟨RX0, "isFeast", "(I)Z"⟩
abbrev cX0_addFeast : ByteArray := prog_2_method_3_code
def yX0_addFeast : MethodName := ⟨RX0, "addFeast", "(I)V"⟩
abbrev cX0_workdaysBetween : ByteArray := prog_2_method_4_code
def yX0_workdaysBetween : MethodName := ⟨RX0, "workdaysBetween", "(II)I"⟩
abbrev cX0_feastsAheadOf : ByteArray := prog_2_method_5_code
def yX0_feastsAheadOf : MethodName := ⟨RX0, "feastsAheadOf", "(I)I"⟩
def RX1 : String := "WeddingRegister$Correction"
def TX1 : u_T := fun k => match k with
  | 0 => ("WeddingRegister$Correction", "entry", "I", true)
  | 1 => ("WeddingRegister$Correction", "field", "I", true)
  | 2 => ("WeddingRegister$Correction", "value", "I", true)
  | _ => ("WeddingRegister$Correction", "day", "I", true)
def tyX1 : Nat → FieldType := fun k => match k with
  | 0 => .int
  | 1 => .int
  | 2 => .int
  | _ => .int
theorem nmX1 : ∀ a, a < 4 → ∀ b, b < 4 → a ≠ b → (TX1 a).2.1 ≠ (TX1 b).2.1 := by decide +kernel
theorem tyX1_ok : ∀ k, k < 4 → parseFieldDescriptor (TX1 k).2.2.1 = some (tyX1 k) := by decide +kernel
abbrev cX1_init : ByteArray := prog_3_method_1_code
def yX1_init : MethodName := ⟨RX1, "<init>", "(IIII)V"⟩
def RX2 : String := "WeddingRegister$DayPlan"
def TX2 : u_T := fun k => match k with
  | 0 => ("WeddingRegister$DayPlan", "takenHalls", "[I", true)
  | _ => ("WeddingRegister$DayPlan", "hallOfRegistrar", "[I", true)
def tyX2 : Nat → FieldType := fun k => match k with
  | 0 => .array .int
  | _ => .array .int
theorem nmX2 : ∀ a, a < 2 → ∀ b, b < 2 → a ≠ b → (TX2 a).2.1 ≠ (TX2 b).2.1 := by decide +kernel
theorem tyX2_ok : ∀ k, k < 2 → parseFieldDescriptor (TX2 k).2.2.1 = some (tyX2 k) := by decide +kernel
abbrev cX2_init : ByteArray := prog_4_method_1_code
def yX2_init : MethodName := ⟨RX2, "<init>", "()V"⟩
abbrev cX2_clear : ByteArray := prog_4_method_2_code
def yX2_clear : MethodName := ⟨RX2, "clear", "()V"⟩
abbrev cX2_take : ByteArray := prog_4_method_3_code
def yX2_take : MethodName := ⟨RX2, "take", "(I)V"⟩
abbrev cX2_barTo : ByteArray := prog_4_method_4_code
def yX2_barTo : MethodName := ⟨RX2, "barTo", "(I)I"⟩
abbrev cX2_isTaken : ByteArray := prog_4_method_5_code
def yX2_isTaken : MethodName := ⟨RX2, "isTaken", "(II)Z"⟩
abbrev cX2_hallAt : ByteArray := prog_4_method_6_code
def yX2_hallAt : MethodName := ⟨RX2, "hallAt", "(II)I"⟩
abbrev cX2_placeOf : ByteArray := prog_4_method_7_code
def yX2_placeOf : MethodName := ⟨RX2, "placeOf", "(II)I"⟩
def RX3 : String := "WeddingRegister$Entry"
def TX3 : u_T := fun k => match k with
  | 0 => ("WeddingRegister$Entry", "notice", "LWeddingRegister$Notice;", true)
  | 1 => ("WeddingRegister$Entry", "day", "I", true)
  | 2 => ("WeddingRegister$Entry", "firstName", "I", true)
  | 3 => ("WeddingRegister$Entry", "secondName", "I", true)
  | 4 => ("WeddingRegister$Entry", "hall", "I", true)
  | _ => ("WeddingRegister$Entry", "registrar", "I", true)
def tyX3 : Nat → FieldType := fun k => match k with
  | 0 => .object "WeddingRegister$Notice"
  | 1 => .int
  | 2 => .int
  | 3 => .int
  | 4 => .int
  | _ => .int
theorem nmX3 : ∀ a, a < 6 → ∀ b, b < 6 → a ≠ b → (TX3 a).2.1 ≠ (TX3 b).2.1 := by decide +kernel
theorem tyX3_ok : ∀ k, k < 6 → parseFieldDescriptor (TX3 k).2.2.1 = some (tyX3 k) := by decide +kernel
abbrev cX3_init : ByteArray := prog_5_method_1_code
def yX3_init : MethodName := ⟨RX3, "<init>", "(LWeddingRegister$Notice;I)V"⟩
abbrev cX3_written : ByteArray := prog_5_method_2_code
def yX3_written : MethodName := ⟨RX3, "written", "(I)I"⟩
def RX4 : String := "WeddingRegister$Law"
def TX4 : u_T := fun k => match k with
  | 0 => ("WeddingRegister$Law", "land", "I", true)
  | 1 => ("WeddingRegister$Law", "day", "I", true)
  | 2 => ("WeddingRegister$Law", "age", "I", true)
  | 3 => ("WeddingRegister$Law", "kin", "I", true)
  | 4 => ("WeddingRegister$Law", "papers", "I", true)
  | 5 => ("WeddingRegister$Law", "names", "I", true)
  | 6 => ("WeddingRegister$Law", "valid", "I", true)
  | _ => ("WeddingRegister$Law", "notice", "I", true)
def tyX4 : Nat → FieldType := fun k => match k with
  | 0 => .int
  | 1 => .int
  | 2 => .int
  | 3 => .int
  | 4 => .int
  | 5 => .int
  | 6 => .int
  | _ => .int
theorem nmX4 : ∀ a, a < 8 → ∀ b, b < 8 → a ≠ b → (TX4 a).2.1 ≠ (TX4 b).2.1 := by decide +kernel
theorem tyX4_ok : ∀ k, k < 8 → parseFieldDescriptor (TX4 k).2.2.1 = some (tyX4 k) := by decide +kernel
abbrev cX4_init : ByteArray := prog_6_method_1_code
def yX4_init : MethodName := ⟨RX4, "<init>", "(IIII)V"⟩
abbrev cX4_canBe : ByteArray := prog_6_method_2_code
def yX4_canBe : MethodName := ⟨RX4, "canBe", "(II)Z"⟩
abbrev cX4_wantsPaper : ByteArray := prog_6_method_3_code
def yX4_wantsPaper : MethodName := ⟨RX4, "wantsPaper", "(I)Z"⟩
def RX5 : String := "WeddingRegister$LawBook"
def TX5 : u_T := fun k => match k with
  | 0 => ("WeddingRegister$LawBook", "told", "Ljava/util/ArrayList;", true)
  | _ => ("WeddingRegister$LawBook", "nothingAsked", "LWeddingRegister$Law;", true)
def tyX5 : Nat → FieldType := fun k => match k with
  | 0 => .object "java/util/ArrayList"
  | _ => .object "WeddingRegister$Law"
theorem nmX5 : ∀ a, a < 2 → ∀ b, b < 2 → a ≠ b → (TX5 a).2.1 ≠ (TX5 b).2.1 := by decide +kernel
theorem tyX5_ok : ∀ k, k < 2 → parseFieldDescriptor (TX5 k).2.2.1 = some (tyX5 k) := by decide +kernel
abbrev cX5_init : ByteArray := prog_7_method_1_code
def yX5_init : MethodName := ⟨RX5, "<init>", "()V"⟩
abbrev cX5_isFull : ByteArray := prog_7_method_2_code
def yX5_isFull : MethodName := ⟨RX5, "isFull", "()Z"⟩
abbrev cX5_tell : ByteArray := prog_7_method_3_code
def yX5_tell : MethodName := ⟨RX5, "tell", "(LWeddingRegister$Law;)V"⟩
abbrev cX5_inForce : ByteArray := prog_7_method_4_code
def yX5_inForce : MethodName := ⟨RX5, "inForce", "(II)LWeddingRegister$Law;"⟩
def RX6 : String := "WeddingRegister$Notice"
def TX6 : u_T := fun k => match k with
  | 0 => ("WeddingRegister$Notice", "number", "I", true)
  | 1 => ("WeddingRegister$Notice", "first", "LWeddingRegister$Person;", true)
  | 2 => ("WeddingRegister$Notice", "second", "LWeddingRegister$Person;", true)
  | 3 => ("WeddingRegister$Notice", "posted", "I", true)
  | 4 => ("WeddingRegister$Notice", "state", "I", false)
  | 5 => ("WeddingRegister$Notice", "standingObjections", "I", false)
  | 6 => ("WeddingRegister$Notice", "bookedDay", "I", false)
  | _ => ("WeddingRegister$Notice", "slot", "I", false)
def tyX6 : Nat → FieldType := fun k => match k with
  | 0 => .int
  | 1 => .object "WeddingRegister$Person"
  | 2 => .object "WeddingRegister$Person"
  | 3 => .int
  | 4 => .int
  | 5 => .int
  | 6 => .int
  | _ => .int
theorem nmX6 : ∀ a, a < 8 → ∀ b, b < 8 → a ≠ b → (TX6 a).2.1 ≠ (TX6 b).2.1 := by decide +kernel
theorem tyX6_ok : ∀ k, k < 8 → parseFieldDescriptor (TX6 k).2.2.1 = some (tyX6 k) := by decide +kernel
abbrev cX6_init : ByteArray := prog_8_method_1_code
def yX6_init : MethodName := ⟨RX6, "<init>", "(ILWeddingRegister$Person;LWeddingRegister$Person;I)V"⟩
abbrev cX6_isOf : ByteArray := prog_8_method_2_code
def yX6_isOf : MethodName := ⟨RX6, "isOf", "(LWeddingRegister$Person;LWeddingRegister$Person;)Z"⟩
abbrev cX6_isBooked : ByteArray := prog_8_method_3_code
def yX6_isBooked : MethodName := ⟨RX6, "isBooked", "()Z"⟩
abbrev cX6_setBooking : ByteArray := prog_8_method_4_code
def yX6_setBooking : MethodName := ⟨RX6, "setBooking", "(II)V"⟩
def RX7 : String := "WeddingRegister$Objection"
def TX7 : u_T := fun k => match k with
  | 0 => ("WeddingRegister$Objection", "notice", "LWeddingRegister$Notice;", true)
  | _ => ("WeddingRegister$Objection", "open", "Z", false)
def tyX7 : Nat → FieldType := fun k => match k with
  | 0 => .object "WeddingRegister$Notice"
  | _ => .boolean
theorem nmX7 : ∀ a, a < 2 → ∀ b, b < 2 → a ≠ b → (TX7 a).2.1 ≠ (TX7 b).2.1 := by decide +kernel
theorem tyX7_ok : ∀ k, k < 2 → parseFieldDescriptor (TX7 k).2.2.1 = some (tyX7 k) := by decide +kernel
abbrev cX7_init : ByteArray := prog_9_method_1_code
def yX7_init : MethodName := ⟨RX7, "<init>", "(LWeddingRegister$Notice;)V"⟩
def RX8 : String := "WeddingRegister$Paper"
def TX8 : u_T := fun k => match k with
  | 0 => ("WeddingRegister$Paper", "kind", "I", true)
  | _ => ("WeddingRegister$Paper", "day", "I", true)
def tyX8 : Nat → FieldType := fun k => match k with
  | 0 => .int
  | _ => .int
theorem nmX8 : ∀ a, a < 2 → ∀ b, b < 2 → a ≠ b → (TX8 a).2.1 ≠ (TX8 b).2.1 := by decide +kernel
theorem tyX8_ok : ∀ k, k < 2 → parseFieldDescriptor (TX8 k).2.2.1 = some (tyX8 k) := by decide +kernel
abbrev cX8_init : ByteArray := prog_10_method_1_code
def yX8_init : MethodName := ⟨RX8, "<init>", "(II)V"⟩
def RX9 : String := "WeddingRegister$Person"
def TX9 : u_T := fun k => match k with
  | 0 => ("WeddingRegister$Person", "number", "I", true)
  | 1 => ("WeddingRegister$Person", "land", "I", true)
  | 2 => ("WeddingRegister$Person", "tongues", "I", true)
  | 3 => ("WeddingRegister$Person", "name", "I", true)
  | 4 => ("WeddingRegister$Person", "born", "I", true)
  | 5 => ("WeddingRegister$Person", "father", "LWeddingRegister$Person;", true)
  | 6 => ("WeddingRegister$Person", "mother", "LWeddingRegister$Person;", true)
  | 7 => ("WeddingRegister$Person", "papers", "Ljava/util/ArrayList;", true)
  | _ => ("WeddingRegister$Person", "spouse", "LWeddingRegister$Person;", false)
def tyX9 : Nat → FieldType := fun k => match k with
  | 0 => .int
  | 1 => .int
  | 2 => .int
  | 3 => .int
  | 4 => .int
  | 5 => .object "WeddingRegister$Person"
  | 6 => .object "WeddingRegister$Person"
  | 7 => .object "java/util/ArrayList"
  | _ => .object "WeddingRegister$Person"
theorem nmX9 : ∀ a, a < 9 → ∀ b, b < 9 → a ≠ b → (TX9 a).2.1 ≠ (TX9 b).2.1 := by decide +kernel
theorem tyX9_ok : ∀ k, k < 9 → parseFieldDescriptor (TX9 k).2.2.1 = some (tyX9 k) := by decide +kernel
abbrev cX9_init : ByteArray := prog_11_method_1_code
def yX9_init : MethodName := ⟨RX9, "<init>", "(IIILWeddingRegister$Person;LWeddingRegister$Person;)V"⟩
abbrev cX9_canBe : ByteArray := prog_11_method_2_code
def yX9_canBe : MethodName := ⟨RX9, "canBe", "(I)Z"⟩
abbrev cX9_isChildOf : ByteArray := prog_11_method_3_code
def yX9_isChildOf : MethodName := ⟨RX9, "isChildOf", "(LWeddingRegister$Person;)Z"⟩
abbrev cX9_sharesParentWith : ByteArray := prog_11_method_4_code
def yX9_sharesParentWith : MethodName := ⟨RX9, "sharesParentWith", "(LWeddingRegister$Person;)Z"⟩
abbrev cX9_hasPaper : ByteArray := prog_11_method_5_code
def yX9_hasPaper : MethodName := ⟨RX9, "hasPaper", "(III)Z"⟩
def RX10 : String := "WeddingRegister"
def TX10 : u_T := fun k => match k with
  | 0 => ("WeddingRegister", "now", "I", false)
  | 1 => ("WeddingRegister", "paperCount", "I", false)
  | 2 => ("WeddingRegister", "registrarCount", "I", false)
  | 3 => ("WeddingRegister", "registrarTongues", "[I", true)
  | 4 => ("WeddingRegister", "calendar", "LWeddingRegister$Calendar;", true)
  | 5 => ("WeddingRegister", "laws", "LWeddingRegister$LawBook;", true)
  | 6 => ("WeddingRegister", "persons", "Ljava/util/ArrayList;", true)
  | 7 => ("WeddingRegister", "notices", "Ljava/util/ArrayList;", true)
  | 8 => ("WeddingRegister", "objections", "Ljava/util/ArrayList;", true)
  | 9 => ("WeddingRegister", "entries", "Ljava/util/ArrayList;", true)
  | 10 => ("WeddingRegister", "corrections", "Ljava/util/ArrayList;", true)
  | _ => ("WeddingRegister", "plan", "LWeddingRegister$DayPlan;", true)
def tyX10 : Nat → FieldType := fun k => match k with
  | 0 => .int
  | 1 => .int
  | 2 => .int
  | 3 => .array .int
  | 4 => .object "WeddingRegister$Calendar"
  | 5 => .object "WeddingRegister$LawBook"
  | 6 => .object "java/util/ArrayList"
  | 7 => .object "java/util/ArrayList"
  | 8 => .object "java/util/ArrayList"
  | 9 => .object "java/util/ArrayList"
  | 10 => .object "java/util/ArrayList"
  | _ => .object "WeddingRegister$DayPlan"
theorem nmX10 : ∀ a, a < 12 → ∀ b, b < 12 → a ≠ b → (TX10 a).2.1 ≠ (TX10 b).2.1 := by decide +kernel
theorem tyX10_ok : ∀ k, k < 12 → parseFieldDescriptor (TX10 k).2.2.1 = some (tyX10 k) := by decide +kernel
abbrev cX10_init : ByteArray := prog_1_method_1_code
def yX10_init : MethodName := ⟨RX10, "<init>", "()V"⟩
abbrev cX10_law : ByteArray := prog_1_method_2_code
def yX10_law : MethodName := ⟨RX10, "law", "(IIII)Z"⟩
abbrev cX10_person : ByteArray := prog_1_method_3_code
def yX10_person : MethodName := ⟨RX10, "person", "(IIII)I"⟩
abbrev cX10_paper : ByteArray := prog_1_method_4_code
def yX10_paper : MethodName := ⟨RX10, "paper", "(III)Z"⟩
abbrev cX10_feast : ByteArray := prog_1_method_5_code
def yX10_feast : MethodName := ⟨RX10, "feast", "(I)Z"⟩
abbrev cX10_go : ByteArray := prog_1_method_6_code
def yX10_go : MethodName := ⟨RX10, "go", "(I)I"⟩
abbrev cX10_kin : ByteArray := prog_1_method_7_code
def yX10_kin : MethodName := ⟨RX10, "kin", "(II)I"⟩
abbrev cX10_against : ByteArray := prog_1_method_8_code
def yX10_against : MethodName := ⟨RX10, "against", "(III)I"⟩
abbrev cX10_post : ByteArray := prog_1_method_9_code
def yX10_post : MethodName := ⟨RX10, "post", "(II)I"⟩
abbrev cX10_withdraw : ByteArray := prog_1_method_10_code
def yX10_withdraw : MethodName := ⟨RX10, "withdraw", "(I)Z"⟩
abbrev cX10_hung : ByteArray := prog_1_method_11_code
def yX10_hung : MethodName := ⟨RX10, "hung", "(II)I"⟩
abbrev cX10_ripe : ByteArray := prog_1_method_12_code
def yX10_ripe : MethodName := ⟨RX10, "ripe", "(I)I"⟩
abbrev cX10_object : ByteArray := prog_1_method_13_code
def yX10_object : MethodName := ⟨RX10, "object", "(I)I"⟩
abbrev cX10_judge : ByteArray := prog_1_method_14_code
def yX10_judge : MethodName := ⟨RX10, "judge", "(IZ)Z"⟩
abbrev cX10_registrar : ByteArray := prog_1_method_15_code
def yX10_registrar : MethodName := ⟨RX10, "registrar", "(I)I"⟩
abbrev cX10_book : ByteArray := prog_1_method_16_code
def yX10_book : MethodName := ⟨RX10, "book", "(III)I"⟩
abbrev cX10_order : ByteArray := prog_1_method_17_code
def yX10_order : MethodName := ⟨RX10, "order", "(I)I"⟩
abbrev cX10_wed : ByteArray := prog_1_method_18_code
def yX10_wed : MethodName := ⟨RX10, "wed", "(I)I"⟩
abbrev cX10_part : ByteArray := prog_1_method_19_code
def yX10_part : MethodName := ⟨RX10, "part", "(I)Z"⟩
abbrev cX10_correct : ByteArray := prog_1_method_20_code
def yX10_correct : MethodName := ⟨RX10, "correct", "(III)Z"⟩
abbrev cX10_entry : ByteArray := prog_1_method_21_code
def yX10_entry : MethodName := ⟨RX10, "entry", "(III)I"⟩
abbrev cX10_name : ByteArray := prog_1_method_22_code
def yX10_name : MethodName := ⟨RX10, "name", "(III)I"⟩
abbrev cX10_quarrel : ByteArray := prog_1_method_23_code
def yX10_quarrel : MethodName := ⟨RX10, "quarrel", "(I)Z"⟩
abbrev cX10_told : ByteArray := prog_1_method_24_code
def yX10_told : MethodName := ⟨RX10, "told", "(II)I"⟩
abbrev cX10_married : ByteArray := prog_1_method_25_code
def yX10_married : MethodName := ⟨RX10, "married", "(I)I"⟩
abbrev cX10_count : ByteArray := prog_1_method_26_code
def yX10_count : MethodName := ⟨RX10, "count", "(I)I"⟩
abbrev cX10_isDay : ByteArray := prog_1_method_27_code
def yX10_isDay : MethodName := ⟨RX10, "isDay", "(I)Z"⟩
abbrev cX10_isDayToCome : ByteArray := prog_1_method_28_code
def yX10_isDayToCome : MethodName := ⟨RX10, "isDayToCome", "(I)Z"⟩
abbrev cX10_personAt : ByteArray := prog_1_method_29_code
def yX10_personAt : MethodName := ⟨RX10, "personAt", "(I)LWeddingRegister$Person;"⟩
abbrev cX10_noticeAt : ByteArray := prog_1_method_30_code
def yX10_noticeAt : MethodName := ⟨RX10, "noticeAt", "(I)LWeddingRegister$Notice;"⟩
abbrev cX10_entryAt : ByteArray := prog_1_method_31_code
def yX10_entryAt : MethodName := ⟨RX10, "entryAt", "(I)LWeddingRegister$Entry;"⟩
abbrev cX10_canBeParents : ByteArray := prog_1_method_32_code
def yX10_canBeParents : MethodName := ⟨RX10, "canBeParents", "(II)Z"⟩
abbrev cX10_openBookings : ByteArray := prog_1_method_33_code
def yX10_openBookings : MethodName := ⟨RX10, "openBookings", "()I"⟩
abbrev cX10_hasOpenNotice : ByteArray := prog_1_method_34_code
def yX10_hasOpenNotice : MethodName := ⟨RX10, "hasOpenNotice", "(LWeddingRegister$Person;LWeddingRegister$Person;)Z"⟩
abbrev cX10_kinOf : ByteArray := prog_1_method_35_code
def yX10_kinOf : MethodName := ⟨RX10, "kinOf", "(LWeddingRegister$Person;LWeddingRegister$Person;)I"⟩
abbrev cX10_isNearByParent : ByteArray := prog_1_method_36_code
def yX10_isNearByParent : MethodName := ⟨RX10, "isNearByParent", "(LWeddingRegister$Person;LWeddingRegister$Person;)Z"⟩
abbrev cX10_isNearAs : ByteArray := prog_1_method_37_code
def yX10_isNearAs : MethodName := ⟨RX10, "isNearAs", "(LWeddingRegister$Person;LWeddingRegister$Person;)Z"⟩
abbrev cX10_isCousinBy : ByteArray := prog_1_method_38_code
def yX10_isCousinBy : MethodName := ⟨RX10, "isCousinBy", "(LWeddingRegister$Person;LWeddingRegister$Person;)Z"⟩
abbrev cX10_sharesParent : ByteArray := prog_1_method_39_code
def yX10_sharesParent : MethodName := ⟨RX10, "sharesParent", "(LWeddingRegister$Person;LWeddingRegister$Person;)Z"⟩
abbrev cX10_barToCouple : ByteArray := prog_1_method_40_code
def yX10_barToCouple : MethodName := ⟨RX10, "barToCouple", "(LWeddingRegister$Person;LWeddingRegister$Person;I)I"⟩
abbrev cX10_isTooYoung : ByteArray := prog_1_method_41_code
def yX10_isTooYoung : MethodName := ⟨RX10, "isTooYoung", "(LWeddingRegister$Person;LWeddingRegister$Law;I)Z"⟩
abbrev cX10_lacksPaper : ByteArray := prog_1_method_42_code
def yX10_lacksPaper : MethodName := ⟨RX10, "lacksPaper", "(LWeddingRegister$Person;LWeddingRegister$Law;I)Z"⟩
abbrev cX10_hangingAsked : ByteArray := prog_1_method_43_code
def yX10_hangingAsked : MethodName := ⟨RX10, "hangingAsked", "(LWeddingRegister$Notice;I)I"⟩
abbrev cX10_isRipeOn : ByteArray := prog_1_method_44_code
def yX10_isRipeOn : MethodName := ⟨RX10, "isRipeOn", "(LWeddingRegister$Notice;I)Z"⟩
abbrev cX10_firstRipeDay : ByteArray := prog_1_method_45_code
def yX10_firstRipeDay : MethodName := ⟨RX10, "firstRipeDay", "(LWeddingRegister$Notice;)I"⟩
abbrev cX10_isSlot : ByteArray := prog_1_method_46_code
def yX10_isSlot : MethodName := ⟨RX10, "isSlot", "(I)Z"⟩
abbrev cX10_slotOf : ByteArray := prog_1_method_47_code
def yX10_slotOf : MethodName := ⟨RX10, "slotOf", "(III)I"⟩
abbrev cX10_hourOf : ByteArray := prog_1_method_48_code
def yX10_hourOf : MethodName := ⟨RX10, "hourOf", "(I)I"⟩
abbrev cX10_hallOf : ByteArray := prog_1_method_49_code
def yX10_hallOf : MethodName := ⟨RX10, "hallOf", "(I)I"⟩
abbrev cX10_registrarOf : ByteArray := prog_1_method_50_code
def yX10_registrarOf : MethodName := ⟨RX10, "registrarOf", "(I)I"⟩
abbrev cX10_fillPlan : ByteArray := prog_1_method_51_code
def yX10_fillPlan : MethodName := ⟨RX10, "fillPlan", "(ILWeddingRegister$Notice;)V"⟩
abbrev cX10_barToDay : ByteArray := prog_1_method_52_code
def yX10_barToDay : MethodName := ⟨RX10, "barToDay", "(LWeddingRegister$Notice;I)I"⟩
abbrev cX10_barToSlot : ByteArray := prog_1_method_53_code
def yX10_barToSlot : MethodName := ⟨RX10, "barToSlot", "(LWeddingRegister$Notice;I)I"⟩
abbrev cX10_speaksWithBoth : ByteArray := prog_1_method_54_code
def yX10_speaksWithBoth : MethodName := ⟨RX10, "speaksWithBoth", "(ILWeddingRegister$Notice;)Z"⟩
abbrev cX10_bookByOrder : ByteArray := prog_1_method_55_code
def yX10_bookByOrder : MethodName := ⟨RX10, "bookByOrder", "(LWeddingRegister$Notice;I)Z"⟩
abbrev cX10_firstFreeSlot : ByteArray := prog_1_method_56_code
def yX10_firstFreeSlot : MethodName := ⟨RX10, "firstFreeSlot", "(LWeddingRegister$Notice;)I"⟩
abbrev cX10_nameAfter : ByteArray := prog_1_method_57_code
def yX10_nameAfter : MethodName := ⟨RX10, "nameAfter", "(LWeddingRegister$Entry;II)I"⟩
def RX11 : String := "WeddingRegisterModel"
def TX11 : u_T := fun k => match k with
  | 0 => ("WeddingRegisterModel", "now", "I", false)
  | 1 => ("WeddingRegisterModel", "laws", "[[I", true)
  | 2 => ("WeddingRegisterModel", "lawMany", "I", false)
  | 3 => ("WeddingRegisterModel", "law", "[I", true)
  | 4 => ("WeddingRegisterModel", "land", "[I", true)
  | 5 => ("WeddingRegisterModel", "born", "[I", true)
  | 6 => ("WeddingRegisterModel", "father", "[I", true)
  | 7 => ("WeddingRegisterModel", "mother", "[I", true)
  | 8 => ("WeddingRegisterModel", "tongues", "[I", true)
  | 9 => ("WeddingRegisterModel", "names", "[I", true)
  | 10 => ("WeddingRegisterModel", "spouse", "[I", true)
  | 11 => ("WeddingRegisterModel", "persons", "I", false)
  | 12 => ("WeddingRegisterModel", "paperOf", "[I", true)
  | 13 => ("WeddingRegisterModel", "paperKind", "[I", true)
  | 14 => ("WeddingRegisterModel", "paperDay", "[I", true)
  | 15 => ("WeddingRegisterModel", "papers", "I", false)
  | 16 => ("WeddingRegisterModel", "isFeast", "[Z", true)
  | 17 => ("WeddingRegisterModel", "one", "[I", true)
  | 18 => ("WeddingRegisterModel", "other", "[I", true)
  | 19 => ("WeddingRegisterModel", "posted", "[I", true)
  | 20 => ("WeddingRegisterModel", "state", "[I", true)
  | 21 => ("WeddingRegisterModel", "bookedDay", "[I", true)
  | 22 => ("WeddingRegisterModel", "slot", "[I", true)
  | 23 => ("WeddingRegisterModel", "notices", "I", false)
  | 24 => ("WeddingRegisterModel", "against", "[I", true)
  | 25 => ("WeddingRegisterModel", "judged", "[I", true)
  | 26 => ("WeddingRegisterModel", "objections", "I", false)
  | 27 => ("WeddingRegisterModel", "speaks", "[I", true)
  | 28 => ("WeddingRegisterModel", "registrars", "I", false)
  | 29 => ("WeddingRegisterModel", "entries", "[[I", true)
  | 30 => ("WeddingRegisterModel", "entryMany", "I", false)
  | 31 => ("WeddingRegisterModel", "corrected", "[I", true)
  | 32 => ("WeddingRegisterModel", "field", "[I", true)
  | 33 => ("WeddingRegisterModel", "value", "[I", true)
  | 34 => ("WeddingRegisterModel", "toldOn", "[I", true)
  | _ => ("WeddingRegisterModel", "corrections", "I", false)
def tyX11 : Nat → FieldType := fun k => match k with
  | 0 => .int
  | 1 => .array (.array .int)
  | 2 => .int
  | 3 => .array .int
  | 4 => .array .int
  | 5 => .array .int
  | 6 => .array .int
  | 7 => .array .int
  | 8 => .array .int
  | 9 => .array .int
  | 10 => .array .int
  | 11 => .int
  | 12 => .array .int
  | 13 => .array .int
  | 14 => .array .int
  | 15 => .int
  | 16 => .array .boolean
  | 17 => .array .int
  | 18 => .array .int
  | 19 => .array .int
  | 20 => .array .int
  | 21 => .array .int
  | 22 => .array .int
  | 23 => .int
  | 24 => .array .int
  | 25 => .array .int
  | 26 => .int
  | 27 => .array .int
  | 28 => .int
  | 29 => .array (.array .int)
  | 30 => .int
  | 31 => .array .int
  | 32 => .array .int
  | 33 => .array .int
  | 34 => .array .int
  | _ => .int
theorem nmX11 : ∀ a, a < 36 → ∀ b, b < 36 → a ≠ b → (TX11 a).2.1 ≠ (TX11 b).2.1 := by decide +kernel
theorem tyX11_ok : ∀ k, k < 36 → parseFieldDescriptor (TX11 k).2.2.1 = some (tyX11 k) := by decide +kernel
abbrev cX11_init : ByteArray := prog_13_method_1_code
def yX11_init : MethodName := ⟨RX11, "<init>", "()V"⟩
abbrev cX11_in : ByteArray := prog_13_method_2_code
def yX11_in : MethodName := ⟨RX11, "in", "(III)Z"⟩
abbrev cX11_isPerson : ByteArray := prog_13_method_3_code
def yX11_isPerson : MethodName := ⟨RX11, "isPerson", "(I)Z"⟩
abbrev cX11_isNotice : ByteArray := prog_13_method_4_code
def yX11_isNotice : MethodName := ⟨RX11, "isNotice", "(I)Z"⟩
abbrev cX11_law : ByteArray := prog_13_method_5_code
def yX11_law : MethodName := ⟨RX11, "law", "(IIII)Z"⟩
abbrev cX11_inForce : ByteArray := prog_13_method_6_code
def yX11_inForce : MethodName := ⟨RX11, "inForce", "(II)[I"⟩
abbrev cX11_asks : ByteArray := prog_13_method_7_code
def yX11_asks : MethodName := ⟨RX11, "asks", "(III)I"⟩
abbrev cX11_person : ByteArray := prog_13_method_8_code
def yX11_person : MethodName := ⟨RX11, "person", "(IIII)I"⟩
abbrev cX11_paper : ByteArray := prog_13_method_9_code
def yX11_paper : MethodName := ⟨RX11, "paper", "(III)Z"⟩
abbrev cX11_hasPaper : ByteArray := prog_13_method_10_code
def yX11_hasPaper : MethodName := ⟨RX11, "hasPaper", "(III)Z"⟩
abbrev cX11_isFree : ByteArray := prog_13_method_11_code
def yX11_isFree : MethodName := ⟨RX11, "isFree", "(I)Z"⟩
abbrev cX11_feast : ByteArray := prog_13_method_12_code
def yX11_feast : MethodName := ⟨RX11, "feast", "(I)Z"⟩
abbrev cX11_go : ByteArray := prog_13_method_13_code
def yX11_go : MethodName := ⟨RX11, "go", "(I)I"⟩
abbrev cX11_isParent : ByteArray := prog_13_method_14_code
def yX11_isParent : MethodName := ⟨RX11, "isParent", "(II)Z"⟩
abbrev cX11_share : ByteArray := prog_13_method_15_code
def yX11_share : MethodName := ⟨RX11, "share", "(II)Z"⟩
abbrev cX11_parent : ByteArray := prog_13_method_16_code
def yX11_parent : MethodName := ⟨RX11, "parent", "(II)I"⟩
abbrev cX11_kinOf : ByteArray := prog_13_method_17_code
def yX11_kinOf : MethodName := ⟨RX11, "kinOf", "(II)I"⟩
abbrev cX11_kin : ByteArray := prog_13_method_18_code
def yX11_kin : MethodName := ⟨RX11, "kin", "(II)I"⟩
abbrev cX11_isYoung : ByteArray := prog_13_method_19_code
def yX11_isYoung : MethodName := ⟨RX11, "isYoung", "(II)Z"⟩
abbrev cX11_lacks : ByteArray := prog_13_method_20_code
def yX11_lacks : MethodName := ⟨RX11, "lacks", "(II)Z"⟩
abbrev cX11_stands : ByteArray := prog_13_method_21_code
def yX11_stands : MethodName := ⟨RX11, "stands", "(III)I"⟩
abbrev cX11_against : ByteArray := prog_13_method_22_code
def yX11_against : MethodName := ⟨RX11, "against", "(III)I"⟩
abbrev cX11_post : ByteArray := prog_13_method_23_code
def yX11_post : MethodName := ⟨RX11, "post", "(II)I"⟩
abbrev cX11_withdraw : ByteArray := prog_13_method_24_code
def yX11_withdraw : MethodName := ⟨RX11, "withdraw", "(I)Z"⟩
abbrev cX11_hungOf : ByteArray := prog_13_method_25_code
def yX11_hungOf : MethodName := ⟨RX11, "hungOf", "(II)I"⟩
abbrev cX11_hung : ByteArray := prog_13_method_26_code
def yX11_hung : MethodName := ⟨RX11, "hung", "(II)I"⟩
abbrev cX11_wanted : ByteArray := prog_13_method_27_code
def yX11_wanted : MethodName := ⟨RX11, "wanted", "(II)I"⟩
abbrev cX11_ripeOf : ByteArray := prog_13_method_28_code
def yX11_ripeOf : MethodName := ⟨RX11, "ripeOf", "(I)I"⟩
abbrev cX11_ripe : ByteArray := prog_13_method_29_code
def yX11_ripe : MethodName := ⟨RX11, "ripe", "(I)I"⟩
abbrev cX11_objected : ByteArray := prog_13_method_30_code
def yX11_objected : MethodName := ⟨RX11, "objected", "(I)I"⟩
abbrev cX11_isRipe : ByteArray := prog_13_method_31_code
def yX11_isRipe : MethodName := ⟨RX11, "isRipe", "(II)Z"⟩
abbrev cX11_object : ByteArray := prog_13_method_32_code
def yX11_object : MethodName := ⟨RX11, "object", "(I)I"⟩
abbrev cX11_judge : ByteArray := prog_13_method_33_code
def yX11_judge : MethodName := ⟨RX11, "judge", "(IZ)Z"⟩
abbrev cX11_registrar : ByteArray := prog_13_method_34_code
def yX11_registrar : MethodName := ⟨RX11, "registrar", "(I)I"⟩
abbrev cX11_bars : ByteArray := prog_13_method_35_code
def yX11_bars : MethodName := ⟨RX11, "bars", "(IIIII)I"⟩
abbrev cX11_book : ByteArray := prog_13_method_36_code
def yX11_book : MethodName := ⟨RX11, "book", "(III)I"⟩
abbrev cX11_finds : ByteArray := prog_13_method_37_code
def yX11_finds : MethodName := ⟨RX11, "finds", "(II)Z"⟩
abbrev cX11_order : ByteArray := prog_13_method_38_code
def yX11_order : MethodName := ⟨RX11, "order", "(I)I"⟩
abbrev cX11_wed : ByteArray := prog_13_method_39_code
def yX11_wed : MethodName := ⟨RX11, "wed", "(I)I"⟩
abbrev cX11_part : ByteArray := prog_13_method_40_code
def yX11_part : MethodName := ⟨RX11, "part", "(I)Z"⟩
abbrev cX11_correct : ByteArray := prog_13_method_41_code
def yX11_correct : MethodName := ⟨RX11, "correct", "(III)Z"⟩
abbrev cX11_entry : ByteArray := prog_13_method_42_code
def yX11_entry : MethodName := ⟨RX11, "entry", "(III)I"⟩
abbrev cX11_nameOf : ByteArray := prog_13_method_43_code
def yX11_nameOf : MethodName := ⟨RX11, "nameOf", "(III)I"⟩
abbrev cX11_name : ByteArray := prog_13_method_44_code
def yX11_name : MethodName := ⟨RX11, "name", "(III)I"⟩
abbrev cX11_quarrel : ByteArray := prog_13_method_45_code
def yX11_quarrel : MethodName := ⟨RX11, "quarrel", "(I)Z"⟩
abbrev cX11_told : ByteArray := prog_13_method_46_code
def yX11_told : MethodName := ⟨RX11, "told", "(II)I"⟩
abbrev cX11_married : ByteArray := prog_13_method_47_code
def yX11_married : MethodName := ⟨RX11, "married", "(I)I"⟩
abbrev cX11_count : ByteArray := prog_13_method_48_code
def yX11_count : MethodName := ⟨RX11, "count", "(I)I"⟩
def RJx145de : String := "java/io/Serializable"
def RJx8e188 : String := "java/lang/Cloneable"
def RJxab1ab : String := "java/lang/Iterable"
def RJ13 : String := "java/lang/Long"
abbrev cJ13_bitCount_95d88 : ByteArray := prog_17_method_50_code
def yJ13_bitCount_95d88 : MethodName := ⟨RJ13, "bitCount", "(J)I"⟩
def RJ9 : String := "java/lang/Math"
abbrev cJ9_max_7cf53 : ByteArray := prog_18_method_65_code
def yJ9_max_7cf53 : MethodName := ⟨RJ9, "max", "(II)I"⟩
abbrev cJ9_min_7cf53 : ByteArray := prog_18_method_69_code
def yJ9_min_7cf53 : MethodName := ⟨RJ9, "min", "(II)I"⟩
def RJ10 : String := "java/lang/System"
def RJxa1e45 : String := "java/util/AbstractCollection"
abbrev cJxa1e45_init_da8c8 : ByteArray := prog_20_method_1_code
def yJxa1e45_init_da8c8 : MethodName := ⟨RJxa1e45, "<init>", "()V"⟩
def RJxc12de : String := "java/util/AbstractList"
abbrev cJxc12de_init_da8c8 : ByteArray := prog_21_method_1_code
def yJxc12de_init_da8c8 : MethodName := ⟨RJxc12de, "<init>", "()V"⟩
def RJx4a65c : String := "java/util/ArrayList"
def TJx4a65c : u_T := fun k => match k with
  | 0 => ("java/util/AbstractList", "modCount", "I", false)
  | 1 => ("java/util/ArrayList", "elementData", "[Ljava/lang/Object;", false)
  | _ => ("java/util/ArrayList", "size", "I", false)
def tyJx4a65c : Nat → FieldType := fun k => match k with
  | 0 => .int
  | 1 => .array (.object "java/lang/Object")
  | _ => .int
theorem nmJx4a65c : ∀ a, a < 3 → ∀ b, b < 3 → a ≠ b → (TJx4a65c a).2.1 ≠ (TJx4a65c b).2.1 := by decide +kernel
theorem tyJx4a65c_ok : ∀ k, k < 3 → parseFieldDescriptor (TJx4a65c k).2.2.1 = some (tyJx4a65c k) := by decide +kernel
abbrev cJx4a65c_init_da8c8 : ByteArray := prog_22_method_2_code
def yJx4a65c_init_da8c8 : MethodName := ⟨RJx4a65c, "<init>", "()V"⟩
abbrev cJx4a65c_grow_92f84 : ByteArray := prog_22_method_6_code
def yJx4a65c_grow_92f84 : MethodName := ⟨RJx4a65c, "grow", "(I)[Ljava/lang/Object;"⟩
abbrev cJx4a65c_grow_d5877 : ByteArray := prog_22_method_7_code
def yJx4a65c_grow_d5877 : MethodName := ⟨RJx4a65c, "grow", "()[Ljava/lang/Object;"⟩
abbrev cJx4a65c_size_8abf5 : ByteArray := prog_22_method_8_code
def yJx4a65c_size_8abf5 : MethodName := ⟨RJx4a65c, "size", "()I"⟩
abbrev cJx4a65c_elementData_915e3 : ByteArray := prog_22_method_18_code
def yJx4a65c_elementData_915e3 : MethodName := ⟨RJx4a65c, "elementData", "(I)Ljava/lang/Object;"⟩
abbrev cJx4a65c_get_915e3 : ByteArray := prog_22_method_20_code
def yJx4a65c_get_915e3 : MethodName := ⟨RJx4a65c, "get", "(I)Ljava/lang/Object;"⟩
abbrev cJx4a65c_add_72be8 : ByteArray := prog_22_method_24_code
def yJx4a65c_add_72be8 : MethodName := ⟨RJx4a65c, "add", "(Ljava/lang/Object;[Ljava/lang/Object;I)V"⟩
abbrev cJx4a65c_add_9ea2d : ByteArray := prog_22_method_25_code
def yJx4a65c_add_9ea2d : MethodName := ⟨RJx4a65c, "add", "(Ljava/lang/Object;)Z"⟩
def RJ7 : String := "java/util/Arrays"
abbrev cJ7_fill_53178 : ByteArray := prog_23_method_103_code
def yJ7_fill_53178 : MethodName := ⟨RJ7, "fill", "([II)V"⟩
abbrev cJ7_copyOf_1904c : ByteArray := prog_23_method_119_code
def yJ7_copyOf_1904c : MethodName := ⟨RJ7, "copyOf", "([Ljava/lang/Object;I)[Ljava/lang/Object;"⟩
abbrev cJ7_copyOf_6403c : ByteArray := prog_23_method_120_code
def yJ7_copyOf_6403c : MethodName := ⟨RJ7, "copyOf", "([Ljava/lang/Object;ILjava/lang/Class;)[Ljava/lang/Object;"⟩
def RJx5ef63 : String := "java/util/Collection"
def RJxbd725 : String := "java/util/List"
def RJ15 : String := "java/util/Objects"
abbrev cJ15_checkIndex_7cf53 : ByteArray := prog_26_method_17_code
def yJ15_checkIndex_7cf53 : MethodName := ⟨RJ15, "checkIndex", "(II)I"⟩
def RJxf0a74 : String := "java/util/RandomAccess"
def RJxa66e6 : String := "java/util/SequencedCollection"
def RJ8 : String := "jdk/internal/util/ArraysSupport"
abbrev cJ8_newLength_cabcc : ByteArray := prog_29_method_27_code
def yJ8_newLength_cabcc : MethodName := ⟨RJ8, "newLength", "(III)I"⟩
abbrev cJ8_hugeLength_7cf53 : ByteArray := prog_29_method_28_code
def yJ8_hugeLength_7cf53 : MethodName := ⟨RJ8, "hugeLength", "(II)I"⟩
def RJ3 : String := "jdk/internal/util/Preconditions"
abbrev cJ3_checkIndex_8e157 : ByteArray := prog_30_method_11_code
def yJ3_checkIndex_8e157 : MethodName := ⟨RJ3, "checkIndex", "(IILjava/util/function/BiFunction;)I"⟩
def RL : String := "WeddingRegisterLaw"
abbrev cL_law : ByteArray := code
def yL_law : MethodName := ⟨RL, "law", "([I)Z"⟩
abbrev vwCl : List vw_C := [(RJx4a65c, TJx4a65c, 3), (RX0, TX0, 1), (RX1, TX1, 4), (RX2, TX2, 2), (RX3, TX3, 6), (RX4, TX4, 8), (RX5, TX5, 2), (RX6, TX6, 8), (RX7, TX7, 2), (RX8, TX8, 2), (RX9, TX9, 9), (RX10, TX10, 12), (RX11, TX11, 36)]
end
section
/-- all words of the tables that a callee may take over -/
def uw : List Cond := lw_tbl.filter goodWord
theorem uw_in {w : Cond} (h : w ∈ uw) : w ∈ lw_tbl := (List.mem_filter.mp h).1
theorem uw_good {w : Cond} (h : w ∈ uw) : goodWord w = true := (List.mem_filter.mp h).2
theorem uw_of {w : Cond} (h : w ∈ tables_1) (g : goodWord w = true) : w ∈ uw := List.mem_filter.mpr ⟨List.mem_append_right _ h, g⟩
theorem uw_sel {q : MethodName × Nat} (h : q ∈ lw_privs) (g : goodWord (Cond.selects q.1.cls q.1 q.1) = true) : Cond.selects q.1.cls q.1 q.1 ∈ uw := List.mem_filter.mpr ⟨List.mem_append_left _ (List.mem_map.mpr ⟨q, h, rfl⟩), g⟩
set_option maxRecDepth 4000 in
theorem u0 : (Jvm.Cond.initialized "WeddingRegisterLaw") ∈ uw := uw_of (List.mem_append_left _ (List.mem_of_getElem? (i := 0) rfl : _ ∈ tables_1_1)) (by rfl)
set_option maxRecDepth 4000 in
theorem u1 : (Jvm.Cond.initialized "WeddingRegister") ∈ uw := uw_of (List.mem_append_left _ (List.mem_of_getElem? (i := 1) rfl : _ ∈ tables_1_1)) (by rfl)
set_option maxRecDepth 4000 in
theorem u2 : (Jvm.Cond.initialized "WeddingRegister$Calendar") ∈ uw := uw_of (List.mem_append_left _ (List.mem_of_getElem? (i := 2) rfl : _ ∈ tables_1_1)) (by rfl)
set_option maxRecDepth 4000 in
theorem u3 : (Jvm.Cond.initialized "WeddingRegister$LawBook") ∈ uw := uw_of (List.mem_append_left _ (List.mem_of_getElem? (i := 3) rfl : _ ∈ tables_1_1)) (by rfl)
set_option maxRecDepth 4000 in
theorem u4 : (Jvm.Cond.initialized "java/util/AbstractCollection") ∈ uw := uw_of (List.mem_append_left _ (List.mem_of_getElem? (i := 4) rfl : _ ∈ tables_1_1)) (by rfl)
set_option maxRecDepth 4000 in
theorem u5 : (Jvm.Cond.initialized "java/util/AbstractList") ∈ uw := uw_of (List.mem_append_left _ (List.mem_of_getElem? (i := 5) rfl : _ ∈ tables_1_1)) (by rfl)
set_option maxRecDepth 4000 in
theorem u6 : (Jvm.Cond.initialized "java/util/ArrayList") ∈ uw := uw_of (List.mem_append_left _ (List.mem_of_getElem? (i := 6) rfl : _ ∈ tables_1_1)) (by rfl)
set_option maxRecDepth 4000 in
theorem u7 : (Jvm.Cond.initialized "WeddingRegister$Law") ∈ uw := uw_of (List.mem_append_left _ (List.mem_of_getElem? (i := 7) rfl : _ ∈ tables_1_1)) (by rfl)
set_option maxRecDepth 4000 in
theorem u8 : (Jvm.Cond.initialized "WeddingRegister$DayPlan") ∈ uw := uw_of (List.mem_append_left _ (List.mem_of_getElem? (i := 8) rfl : _ ∈ tables_1_1)) (by rfl)
set_option maxRecDepth 4000 in
theorem u9 : (Jvm.Cond.initialized "WeddingRegisterModel") ∈ uw := uw_of (List.mem_append_left _ (List.mem_of_getElem? (i := 9) rfl : _ ∈ tables_1_1)) (by rfl)
set_option maxRecDepth 4000 in
theorem u10 : (Jvm.Cond.initialized "jdk/internal/util/ArraysSupport") ∈ uw := uw_of (List.mem_append_left _ (List.mem_of_getElem? (i := 10) rfl : _ ∈ tables_1_1)) (by rfl)
set_option maxRecDepth 4000 in
theorem u11 : (Jvm.Cond.initialized "java/lang/Math") ∈ uw := uw_of (List.mem_append_left _ (List.mem_of_getElem? (i := 11) rfl : _ ∈ tables_1_1)) (by rfl)
set_option maxRecDepth 4000 in
theorem u12 : (Jvm.Cond.initialized "java/util/Arrays") ∈ uw := uw_of (List.mem_append_left _ (List.mem_of_getElem? (i := 12) rfl : _ ∈ tables_1_1)) (by rfl)
set_option maxRecDepth 4000 in
theorem u13 : (Jvm.Cond.initialized "java/lang/System") ∈ uw := uw_of (List.mem_append_left _ (List.mem_of_getElem? (i := 13) rfl : _ ∈ tables_1_1)) (by rfl)
set_option maxRecDepth 4000 in
theorem u14 : (Jvm.Cond.initialized "WeddingRegister$Person") ∈ uw := uw_of (List.mem_append_left _ (List.mem_of_getElem? (i := 14) rfl : _ ∈ tables_1_1)) (by rfl)
set_option maxRecDepth 4000 in
theorem u15 : (Jvm.Cond.initialized "java/util/Objects") ∈ uw := uw_of (List.mem_append_left _ (List.mem_of_getElem? (i := 15) rfl : _ ∈ tables_1_1)) (by rfl)
set_option maxRecDepth 4000 in
theorem u16 : (Jvm.Cond.initialized "jdk/internal/util/Preconditions") ∈ uw := uw_of (List.mem_append_left _ (List.mem_of_getElem? (i := 16) rfl : _ ∈ tables_1_1)) (by rfl)
set_option maxRecDepth 4000 in
theorem u17 : (Jvm.Cond.initialized "WeddingRegister$Paper") ∈ uw := uw_of (List.mem_append_left _ (List.mem_of_getElem? (i := 17) rfl : _ ∈ tables_1_1)) (by rfl)
set_option maxRecDepth 4000 in
theorem u18 : (Jvm.Cond.initialized "WeddingRegister$Notice") ∈ uw := uw_of (List.mem_append_left _ (List.mem_of_getElem? (i := 18) rfl : _ ∈ tables_1_1)) (by rfl)
set_option maxRecDepth 4000 in
theorem u19 : (Jvm.Cond.initialized "java/lang/Long") ∈ uw := uw_of (List.mem_append_left _ (List.mem_of_getElem? (i := 19) rfl : _ ∈ tables_1_1)) (by rfl)
set_option maxRecDepth 4000 in
theorem u20 : (Jvm.Cond.initialized "WeddingRegister$Objection") ∈ uw := uw_of (List.mem_append_left _ (List.mem_of_getElem? (i := 20) rfl : _ ∈ tables_1_1)) (by rfl)
set_option maxRecDepth 4000 in
theorem u21 : (Jvm.Cond.initialized "WeddingRegister$Entry") ∈ uw := uw_of (List.mem_append_left _ (List.mem_of_getElem? (i := 21) rfl : _ ∈ tables_1_1)) (by rfl)
set_option maxRecDepth 4000 in
theorem u22 : (Jvm.Cond.initialized "WeddingRegister$Correction") ∈ uw := uw_of (List.mem_append_left _ (List.mem_of_getElem? (i := 22) rfl : _ ∈ tables_1_1)) (by rfl)
set_option maxRecDepth 4000 in
theorem u23 : (Jvm.Cond.classLink "WeddingRegisterLaw" (7 : Nat) "WeddingRegister") ∈ uw := uw_of (List.mem_append_left _ (List.mem_of_getElem? (i := 23) rfl : _ ∈ tables_1_1)) (by rfl)
set_option maxRecDepth 4000 in
theorem u24 : (Jvm.Cond.instantiable "WeddingRegister" (12 : Nat)) ∈ uw := uw_of (List.mem_append_left _ (List.mem_of_getElem? (i := 24) rfl : _ ∈ tables_1_1)) (by rfl)
set_option maxRecDepth 4000 in
theorem u25 : (Jvm.Cond.methodLink "WeddingRegisterLaw" (9 : Nat) ({ cls := "WeddingRegister", name := "<init>", desc := "()V" } : Jvm.MethodName)) ∈ uw := uw_of (List.mem_append_left _ (List.mem_of_getElem? (i := 25) rfl : _ ∈ tables_1_1)) (by rfl)
set_option maxRecDepth 4000 in
theorem u26 : (Jvm.Cond.instanceMethod ({ cls := "WeddingRegister", name := "<init>", desc := "()V" } : Jvm.MethodName)) ∈ uw := uw_of (List.mem_append_left _ (List.mem_of_getElem? (i := 26) rfl : _ ∈ tables_1_1)) (by rfl)
set_option maxRecDepth 4000 in
theorem u27 : (Jvm.Cond.code ({ cls := "WeddingRegister", name := "<init>", desc := "()V" } : Jvm.MethodName) prog_1_method_1_code (1 : Nat) (Option.none : Option Jvm.ClassFile.FieldType)) ∈ uw := uw_of (List.mem_append_left _ (List.mem_of_getElem? (i := 27) rfl : _ ∈ tables_1_1)) (by rfl)
set_option maxRecDepth 4000 in
theorem u28 : (Jvm.Cond.methodLink "WeddingRegister" (1 : Nat) ({ cls := "java/lang/Object", name := "<init>", desc := "()V" } : Jvm.MethodName)) ∈ uw := uw_of (List.mem_append_left _ (List.mem_of_getElem? (i := 28) rfl : _ ∈ tables_1_1)) (by rfl)
set_option maxRecDepth 4000 in
theorem u29 : (Jvm.Cond.instanceMethod ({ cls := "java/lang/Object", name := "<init>", desc := "()V" } : Jvm.MethodName)) ∈ uw := uw_of (List.mem_append_left _ (List.mem_of_getElem? (i := 29) rfl : _ ∈ tables_1_1)) (by rfl)
set_option maxRecDepth 4000 in
theorem u30 : (Jvm.Cond.code ({ cls := "java/lang/Object", name := "<init>", desc := "()V" } : Jvm.MethodName) object_method_1_code (1 : Nat) (Option.none : Option Jvm.ClassFile.FieldType)) ∈ uw := uw_of (List.mem_append_left _ (List.mem_of_getElem? (i := 30) rfl : _ ∈ tables_1_1)) (by rfl)
set_option maxRecDepth 4000 in
theorem u31 : (Jvm.Cond.classLink "WeddingRegister" (23 : Nat) "WeddingRegister$Calendar") ∈ uw := uw_of (List.mem_append_left _ (List.mem_of_getElem? (i := 31) rfl : _ ∈ tables_1_1)) (by rfl)
set_option maxRecDepth 4000 in
theorem u32 : (Jvm.Cond.instantiable "WeddingRegister$Calendar" (1 : Nat)) ∈ uw := uw_of (List.mem_append_left _ (List.mem_of_getElem? (i := 32) rfl : _ ∈ tables_1_1)) (by rfl)
set_option maxRecDepth 4000 in
theorem u33 : (Jvm.Cond.methodLink "WeddingRegister" (25 : Nat) ({ cls := "WeddingRegister$Calendar", name := "<init>", desc := "()V" } : Jvm.MethodName)) ∈ uw := uw_of (List.mem_append_left _ (List.mem_of_getElem? (i := 33) rfl : _ ∈ tables_1_1)) (by rfl)
set_option maxRecDepth 4000 in
theorem u34 : (Jvm.Cond.instanceMethod ({ cls := "WeddingRegister$Calendar", name := "<init>", desc := "()V" } : Jvm.MethodName)) ∈ uw := uw_of (List.mem_append_left _ (List.mem_of_getElem? (i := 34) rfl : _ ∈ tables_1_1)) (by rfl)
set_option maxRecDepth 4000 in
theorem u35 : (Jvm.Cond.code ({ cls := "WeddingRegister$Calendar", name := "<init>", desc := "()V" } : Jvm.MethodName) prog_2_method_1_code (1 : Nat) (Option.none : Option Jvm.ClassFile.FieldType)) ∈ uw := uw_of (List.mem_append_left _ (List.mem_of_getElem? (i := 35) rfl : _ ∈ tables_1_1)) (by rfl)
set_option maxRecDepth 4000 in
theorem u36 : (Jvm.Cond.methodLink "WeddingRegister$Calendar" (3 : Nat) ({ cls := "java/lang/Object", name := "<init>", desc := "()V" } : Jvm.MethodName)) ∈ uw := uw_of (List.mem_append_left _ (List.mem_of_getElem? (i := 36) rfl : _ ∈ tables_1_1)) (by rfl)
set_option maxRecDepth 4000 in
theorem u37 : (Jvm.Cond.fieldLink "WeddingRegister$Calendar" (9 : Nat) "WeddingRegister$Calendar" "toldFeasts" "[J") ∈ uw := uw_of (List.mem_append_left _ (List.mem_of_getElem? (i := 37) rfl : _ ∈ tables_1_1)) (by rfl)
set_option maxRecDepth 4000 in
theorem u38 : (Jvm.Cond.laysFinal "WeddingRegister$Calendar" "WeddingRegister$Calendar" "toldFeasts" "[J") ∈ uw := uw_of (List.mem_append_left _ (List.mem_of_getElem? (i := 38) rfl : _ ∈ tables_1_1)) (by rfl)
set_option maxRecDepth 4000 in
theorem u41 : (Jvm.Cond.arrayClass Jvm.ClassFile.FieldType.int) ∈ uw := uw_of (List.mem_append_left _ (List.mem_of_getElem? (i := 41) rfl : _ ∈ tables_1_1)) (by rfl)
set_option maxRecDepth 4000 in
theorem u42 : (Jvm.Cond.arrayClass Jvm.ClassFile.FieldType.long) ∈ uw := uw_of (List.mem_append_left _ (List.mem_of_getElem? (i := 42) rfl : _ ∈ tables_1_1)) (by rfl)
set_option maxRecDepth 4000 in
theorem u43 : (Jvm.Cond.classLink "WeddingRegister" (30 : Nat) "WeddingRegister$LawBook") ∈ uw := uw_of (List.mem_append_left _ (List.mem_of_getElem? (i := 43) rfl : _ ∈ tables_1_1)) (by rfl)
set_option maxRecDepth 4000 in
theorem u44 : (Jvm.Cond.instantiable "WeddingRegister$LawBook" (2 : Nat)) ∈ uw := uw_of (List.mem_append_left _ (List.mem_of_getElem? (i := 44) rfl : _ ∈ tables_1_1)) (by rfl)
set_option maxRecDepth 4000 in
theorem u45 : (Jvm.Cond.methodLink "WeddingRegister" (32 : Nat) ({ cls := "WeddingRegister$LawBook", name := "<init>", desc := "()V" } : Jvm.MethodName)) ∈ uw := uw_of (List.mem_append_left _ (List.mem_of_getElem? (i := 45) rfl : _ ∈ tables_1_1)) (by rfl)
set_option maxRecDepth 4000 in
theorem u46 : (Jvm.Cond.instanceMethod ({ cls := "WeddingRegister$LawBook", name := "<init>", desc := "()V" } : Jvm.MethodName)) ∈ uw := uw_of (List.mem_append_left _ (List.mem_of_getElem? (i := 46) rfl : _ ∈ tables_1_1)) (by rfl)
set_option maxRecDepth 4000 in
theorem u47 : (Jvm.Cond.code ({ cls := "WeddingRegister$LawBook", name := "<init>", desc := "()V" } : Jvm.MethodName) prog_7_method_1_code (1 : Nat) (Option.none : Option Jvm.ClassFile.FieldType)) ∈ uw := uw_of (List.mem_append_left _ (List.mem_of_getElem? (i := 47) rfl : _ ∈ tables_1_1)) (by rfl)
set_option maxRecDepth 4000 in
theorem u48 : (Jvm.Cond.methodLink "WeddingRegister$LawBook" (3 : Nat) ({ cls := "java/lang/Object", name := "<init>", desc := "()V" } : Jvm.MethodName)) ∈ uw := uw_of (List.mem_append_left _ (List.mem_of_getElem? (i := 48) rfl : _ ∈ tables_1_1)) (by rfl)
set_option maxRecDepth 4000 in
theorem u49 : (Jvm.Cond.classLink "WeddingRegister$LawBook" (9 : Nat) "java/util/ArrayList") ∈ uw := uw_of (List.mem_append_left _ (List.mem_of_getElem? (i := 49) rfl : _ ∈ tables_1_1)) (by rfl)
set_option maxRecDepth 4000 in
theorem u50 : (Jvm.Cond.instantiable "java/util/ArrayList" (3 : Nat)) ∈ uw := uw_of (List.mem_append_left _ (List.mem_of_getElem? (i := 50) rfl : _ ∈ tables_1_1)) (by rfl)
set_option maxRecDepth 4000 in
theorem u51 : (Jvm.Cond.methodLink "WeddingRegister$LawBook" (11 : Nat) ({ cls := "java/util/ArrayList", name := "<init>", desc := "()V" } : Jvm.MethodName)) ∈ uw := uw_of (List.mem_append_left _ (List.mem_of_getElem? (i := 51) rfl : _ ∈ tables_1_1)) (by rfl)
set_option maxRecDepth 4000 in
theorem u52 : (Jvm.Cond.instanceMethod ({ cls := "java/util/ArrayList", name := "<init>", desc := "()V" } : Jvm.MethodName)) ∈ uw := uw_of (List.mem_append_left _ (List.mem_of_getElem? (i := 52) rfl : _ ∈ tables_1_1)) (by rfl)
set_option maxRecDepth 4000 in
theorem u53 : (Jvm.Cond.code ({ cls := "java/util/ArrayList", name := "<init>", desc := "()V" } : Jvm.MethodName) prog_22_method_2_code (1 : Nat) (Option.none : Option Jvm.ClassFile.FieldType)) ∈ uw := uw_of (List.mem_append_left _ (List.mem_of_getElem? (i := 53) rfl : _ ∈ tables_1_1)) (by rfl)
set_option maxRecDepth 4000 in
theorem u54 : (Jvm.Cond.methodLink "java/util/ArrayList" (1 : Nat) ({ cls := "java/util/AbstractList", name := "<init>", desc := "()V" } : Jvm.MethodName)) ∈ uw := uw_of (List.mem_append_left _ (List.mem_of_getElem? (i := 54) rfl : _ ∈ tables_1_1)) (by rfl)
set_option maxRecDepth 4000 in
theorem u55 : (Jvm.Cond.instanceMethod ({ cls := "java/util/AbstractList", name := "<init>", desc := "()V" } : Jvm.MethodName)) ∈ uw := uw_of (List.mem_append_left _ (List.mem_of_getElem? (i := 55) rfl : _ ∈ tables_1_1)) (by rfl)
set_option maxRecDepth 4000 in
theorem u56 : (Jvm.Cond.code ({ cls := "java/util/AbstractList", name := "<init>", desc := "()V" } : Jvm.MethodName) prog_21_method_1_code (1 : Nat) (Option.none : Option Jvm.ClassFile.FieldType)) ∈ uw := uw_of (List.mem_append_left _ (List.mem_of_getElem? (i := 56) rfl : _ ∈ tables_1_1)) (by rfl)
set_option maxRecDepth 4000 in
theorem u57 : (Jvm.Cond.methodLink "java/util/AbstractList" (1 : Nat) ({ cls := "java/util/AbstractCollection", name := "<init>", desc := "()V" } : Jvm.MethodName)) ∈ uw := uw_of (List.mem_append_left _ (List.mem_of_getElem? (i := 57) rfl : _ ∈ tables_1_1)) (by rfl)
set_option maxRecDepth 4000 in
theorem u58 : (Jvm.Cond.instanceMethod ({ cls := "java/util/AbstractCollection", name := "<init>", desc := "()V" } : Jvm.MethodName)) ∈ uw := uw_of (List.mem_append_left _ (List.mem_of_getElem? (i := 58) rfl : _ ∈ tables_1_1)) (by rfl)
set_option maxRecDepth 4000 in
theorem u59 : (Jvm.Cond.code ({ cls := "java/util/AbstractCollection", name := "<init>", desc := "()V" } : Jvm.MethodName) prog_20_method_1_code (1 : Nat) (Option.none : Option Jvm.ClassFile.FieldType)) ∈ uw := uw_of (List.mem_append_left _ (List.mem_of_getElem? (i := 59) rfl : _ ∈ tables_1_1)) (by rfl)
set_option maxRecDepth 4000 in
theorem u60 : (Jvm.Cond.methodLink "java/util/AbstractCollection" (1 : Nat) ({ cls := "java/lang/Object", name := "<init>", desc := "()V" } : Jvm.MethodName)) ∈ uw := uw_of (List.mem_append_left _ (List.mem_of_getElem? (i := 60) rfl : _ ∈ tables_1_1)) (by rfl)
set_option maxRecDepth 4000 in
theorem u61 : (Jvm.Cond.fieldLink "java/util/ArrayList" (39 : Nat) "java/util/ArrayList" "DEFAULTCAPACITY_EMPTY_ELEMENTDATA" "[Ljava/lang/Object;") ∈ uw := uw_of (List.mem_append_left _ (List.mem_of_getElem? (i := 61) rfl : _ ∈ tables_1_1)) (by rfl)
set_option maxRecDepth 4000 in
theorem u62 : (Jvm.Cond.laysStatic "java/util/ArrayList" "DEFAULTCAPACITY_EMPTY_ELEMENTDATA" "[Ljava/lang/Object;") ∈ lw_tbl := List.mem_append_right _ (List.mem_append_left _ (List.mem_of_getElem? (i := 62) rfl : _ ∈ tables_1_1))
set_option maxRecDepth 4000 in
theorem u63 : (Jvm.Cond.fieldLink "java/util/ArrayList" (9 : Nat) "java/util/ArrayList" "elementData" "[Ljava/lang/Object;") ∈ uw := uw_of (List.mem_append_left _ (List.mem_of_getElem? (i := 63) rfl : _ ∈ tables_1_1)) (by rfl)
set_option maxRecDepth 4000 in
theorem u64 : (Jvm.Cond.fieldLink "java/util/ArrayList" (48 : Nat) "java/util/ArrayList" "size" "I") ∈ uw := uw_of (List.mem_append_left _ (List.mem_of_getElem? (i := 64) rfl : _ ∈ tables_1_1)) (by rfl)
set_option maxRecDepth 4000 in
theorem u65 : (Jvm.Cond.fieldLink "java/util/AbstractList" (7 : Nat) "java/util/AbstractList" "modCount" "I") ∈ uw := uw_of (List.mem_append_left _ (List.mem_of_getElem? (i := 65) rfl : _ ∈ tables_1_1)) (by rfl)
set_option maxRecDepth 4000 in
theorem u66 : (Jvm.Cond.fieldLink "java/util/ArrayList" (63 : Nat) "java/util/ArrayList" "modCount" "I") ∈ uw := uw_of (List.mem_append_left _ (List.mem_of_getElem? (i := 66) rfl : _ ∈ tables_1_1)) (by rfl)
set_option maxRecDepth 4000 in
theorem u67 : (Jvm.Cond.sameField "java/util/ArrayList" "java/util/AbstractList" "modCount" "I") ∈ uw := uw_of (List.mem_append_left _ (List.mem_of_getElem? (i := 67) rfl : _ ∈ tables_1_1)) (by rfl)
set_option maxRecDepth 4000 in
theorem u68 : (Jvm.Cond.lays "java/util/ArrayList" "java/util/ArrayList" "elementData" "[Ljava/lang/Object;") ∈ uw := uw_of (List.mem_append_left _ (List.mem_of_getElem? (i := 68) rfl : _ ∈ tables_1_1)) (by rfl)
set_option maxRecDepth 4000 in
theorem u70 : (Jvm.Cond.lays "java/util/ArrayList" "java/util/ArrayList" "size" "I") ∈ uw := uw_of (List.mem_append_left _ (List.mem_of_getElem? (i := 70) rfl : _ ∈ tables_1_1)) (by rfl)
set_option maxRecDepth 4000 in
theorem u72 : (Jvm.Cond.lays "java/util/ArrayList" "java/util/AbstractList" "modCount" "I") ∈ uw := uw_of (List.mem_append_left _ (List.mem_of_getElem? (i := 72) rfl : _ ∈ tables_1_1)) (by rfl)
set_option maxRecDepth 4000 in
theorem u75 : (Jvm.Cond.classLink "WeddingRegister$LawBook" (18 : Nat) "WeddingRegister$Law") ∈ uw := uw_of (List.mem_append_left _ (List.mem_of_getElem? (i := 75) rfl : _ ∈ tables_1_1)) (by rfl)
set_option maxRecDepth 4000 in
theorem u76 : (Jvm.Cond.instantiable "WeddingRegister$Law" (8 : Nat)) ∈ uw := uw_of (List.mem_append_left _ (List.mem_of_getElem? (i := 76) rfl : _ ∈ tables_1_1)) (by rfl)
set_option maxRecDepth 4000 in
theorem u77 : (Jvm.Cond.methodLink "WeddingRegister$LawBook" (20 : Nat) ({ cls := "WeddingRegister$Law", name := "<init>", desc := "(IIII)V" } : Jvm.MethodName)) ∈ uw := uw_of (List.mem_append_left _ (List.mem_of_getElem? (i := 77) rfl : _ ∈ tables_1_1)) (by rfl)
set_option maxRecDepth 4000 in
theorem u78 : (Jvm.Cond.instanceMethod ({ cls := "WeddingRegister$Law", name := "<init>", desc := "(IIII)V" } : Jvm.MethodName)) ∈ uw := uw_of (List.mem_append_left _ (List.mem_of_getElem? (i := 78) rfl : _ ∈ tables_1_1)) (by rfl)
set_option maxRecDepth 4000 in
theorem u79 : (Jvm.Cond.code ({ cls := "WeddingRegister$Law", name := "<init>", desc := "(IIII)V" } : Jvm.MethodName) prog_6_method_1_code (5 : Nat) (Option.none : Option Jvm.ClassFile.FieldType)) ∈ uw := uw_of (List.mem_append_left _ (List.mem_of_getElem? (i := 79) rfl : _ ∈ tables_1_1)) (by rfl)
set_option maxRecDepth 4000 in
theorem u80 : (Jvm.Cond.methodLink "WeddingRegister$Law" (1 : Nat) ({ cls := "java/lang/Object", name := "<init>", desc := "()V" } : Jvm.MethodName)) ∈ uw := uw_of (List.mem_append_left _ (List.mem_of_getElem? (i := 80) rfl : _ ∈ tables_1_1)) (by rfl)
set_option maxRecDepth 4000 in
theorem u81 : (Jvm.Cond.constant "WeddingRegister$Law" (16 : Nat) (1000000 : Int32)) ∈ uw := uw_of (List.mem_append_left _ (List.mem_of_getElem? (i := 81) rfl : _ ∈ tables_1_1)) (by rfl)
set_option maxRecDepth 4000 in
theorem u82 : (Jvm.Cond.constant "WeddingRegister$Law" (20 : Nat) (100000 : Int32)) ∈ uw := uw_of (List.mem_append_left _ (List.mem_of_getElem? (i := 82) rfl : _ ∈ tables_1_1)) (by rfl)
set_option maxRecDepth 4000 in
theorem u83 : (Jvm.Cond.fieldLink "WeddingRegister$Law" (7 : Nat) "WeddingRegister$Law" "land" "I") ∈ uw := uw_of (List.mem_append_left _ (List.mem_of_getElem? (i := 83) rfl : _ ∈ tables_1_1)) (by rfl)
set_option maxRecDepth 4000 in
theorem u84 : (Jvm.Cond.fieldLink "WeddingRegister$LawBook" (39 : Nat) "WeddingRegister$Law" "land" "I") ∈ uw := uw_of (List.mem_append_left _ (List.mem_of_getElem? (i := 84) rfl : _ ∈ tables_1_1)) (by rfl)
set_option maxRecDepth 4000 in
theorem u85 : (Jvm.Cond.fieldLink "WeddingRegister$Law" (13 : Nat) "WeddingRegister$Law" "day" "I") ∈ uw := uw_of (List.mem_append_left _ (List.mem_of_getElem? (i := 85) rfl : _ ∈ tables_1_1)) (by rfl)
set_option maxRecDepth 4000 in
theorem u86 : (Jvm.Cond.fieldLink "WeddingRegister$LawBook" (43 : Nat) "WeddingRegister$Law" "day" "I") ∈ uw := uw_of (List.mem_append_left _ (List.mem_of_getElem? (i := 86) rfl : _ ∈ tables_1_1)) (by rfl)
set_option maxRecDepth 4000 in
theorem u87 : (Jvm.Cond.fieldLink "WeddingRegister$Law" (17 : Nat) "WeddingRegister$Law" "age" "I") ∈ uw := uw_of (List.mem_append_left _ (List.mem_of_getElem? (i := 87) rfl : _ ∈ tables_1_1)) (by rfl)
set_option maxRecDepth 4000 in
theorem u88 : (Jvm.Cond.fieldLink "WeddingRegister" (314 : Nat) "WeddingRegister$Law" "age" "I") ∈ uw := uw_of (List.mem_append_left _ (List.mem_of_getElem? (i := 88) rfl : _ ∈ tables_1_1)) (by rfl)
set_option maxRecDepth 4000 in
theorem u89 : (Jvm.Cond.fieldLink "WeddingRegister$Law" (21 : Nat) "WeddingRegister$Law" "kin" "I") ∈ uw := uw_of (List.mem_append_left _ (List.mem_of_getElem? (i := 89) rfl : _ ∈ tables_1_1)) (by rfl)
set_option maxRecDepth 4000 in
theorem u90 : (Jvm.Cond.fieldLink "WeddingRegister" (305 : Nat) "WeddingRegister$Law" "kin" "I") ∈ uw := uw_of (List.mem_append_left _ (List.mem_of_getElem? (i := 90) rfl : _ ∈ tables_1_1)) (by rfl)
set_option maxRecDepth 4000 in
theorem u91 : (Jvm.Cond.fieldLink "WeddingRegister$Law" (24 : Nat) "WeddingRegister$Law" "papers" "I") ∈ uw := uw_of (List.mem_append_left _ (List.mem_of_getElem? (i := 91) rfl : _ ∈ tables_1_1)) (by rfl)
set_option maxRecDepth 4000 in
theorem u92 : (Jvm.Cond.fieldLink "WeddingRegister$Law" (27 : Nat) "WeddingRegister$Law" "names" "I") ∈ uw := uw_of (List.mem_append_left _ (List.mem_of_getElem? (i := 92) rfl : _ ∈ tables_1_1)) (by rfl)
set_option maxRecDepth 4000 in
theorem u93 : (Jvm.Cond.fieldLink "WeddingRegister" (368 : Nat) "WeddingRegister$Law" "names" "I") ∈ uw := uw_of (List.mem_append_left _ (List.mem_of_getElem? (i := 93) rfl : _ ∈ tables_1_1)) (by rfl)
set_option maxRecDepth 4000 in
theorem u94 : (Jvm.Cond.fieldLink "WeddingRegister$Law" (30 : Nat) "WeddingRegister$Law" "valid" "I") ∈ uw := uw_of (List.mem_append_left _ (List.mem_of_getElem? (i := 94) rfl : _ ∈ tables_1_1)) (by rfl)
set_option maxRecDepth 4000 in
theorem u95 : (Jvm.Cond.fieldLink "WeddingRegister" (320 : Nat) "WeddingRegister$Law" "valid" "I") ∈ uw := uw_of (List.mem_append_left _ (List.mem_of_getElem? (i := 95) rfl : _ ∈ tables_1_1)) (by rfl)
set_option maxRecDepth 4000 in
theorem u96 : (Jvm.Cond.fieldLink "WeddingRegister$Law" (33 : Nat) "WeddingRegister$Law" "notice" "I") ∈ uw := uw_of (List.mem_append_left _ (List.mem_of_getElem? (i := 96) rfl : _ ∈ tables_1_1)) (by rfl)
set_option maxRecDepth 4000 in
theorem u97 : (Jvm.Cond.fieldLink "WeddingRegister" (327 : Nat) "WeddingRegister$Law" "notice" "I") ∈ uw := uw_of (List.mem_append_left _ (List.mem_of_getElem? (i := 97) rfl : _ ∈ tables_1_1)) (by rfl)
set_option maxRecDepth 4000 in
theorem u98 : (Jvm.Cond.laysFinal "WeddingRegister$Law" "WeddingRegister$Law" "land" "I") ∈ uw := uw_of (List.mem_append_left _ (List.mem_of_getElem? (i := 98) rfl : _ ∈ tables_1_1)) (by rfl)
set_option maxRecDepth 4000 in
theorem u100 : (Jvm.Cond.laysFinal "WeddingRegister$Law" "WeddingRegister$Law" "day" "I") ∈ uw := uw_of (List.mem_append_left _ (List.mem_of_getElem? (i := 100) rfl : _ ∈ tables_1_1)) (by rfl)
set_option maxRecDepth 4000 in
theorem u102 : (Jvm.Cond.laysFinal "WeddingRegister$Law" "WeddingRegister$Law" "age" "I") ∈ uw := uw_of (List.mem_append_left _ (List.mem_of_getElem? (i := 102) rfl : _ ∈ tables_1_1)) (by rfl)
set_option maxRecDepth 4000 in
theorem u104 : (Jvm.Cond.laysFinal "WeddingRegister$Law" "WeddingRegister$Law" "kin" "I") ∈ uw := uw_of (List.mem_append_left _ (List.mem_of_getElem? (i := 104) rfl : _ ∈ tables_1_1)) (by rfl)
set_option maxRecDepth 4000 in
theorem u106 : (Jvm.Cond.laysFinal "WeddingRegister$Law" "WeddingRegister$Law" "papers" "I") ∈ uw := uw_of (List.mem_append_left _ (List.mem_of_getElem? (i := 106) rfl : _ ∈ tables_1_1)) (by rfl)
set_option maxRecDepth 4000 in
theorem u108 : (Jvm.Cond.laysFinal "WeddingRegister$Law" "WeddingRegister$Law" "names" "I") ∈ uw := uw_of (List.mem_append_left _ (List.mem_of_getElem? (i := 108) rfl : _ ∈ tables_1_1)) (by rfl)
set_option maxRecDepth 4000 in
theorem u110 : (Jvm.Cond.laysFinal "WeddingRegister$Law" "WeddingRegister$Law" "valid" "I") ∈ uw := uw_of (List.mem_append_left _ (List.mem_of_getElem? (i := 110) rfl : _ ∈ tables_1_1)) (by rfl)
set_option maxRecDepth 4000 in
theorem u112 : (Jvm.Cond.laysFinal "WeddingRegister$Law" "WeddingRegister$Law" "notice" "I") ∈ uw := uw_of (List.mem_append_left _ (List.mem_of_getElem? (i := 112) rfl : _ ∈ tables_1_1)) (by rfl)
set_option maxRecDepth 4000 in
theorem u115 : (Jvm.Cond.fieldLink "WeddingRegister$LawBook" (12 : Nat) "WeddingRegister$LawBook" "told" "Ljava/util/ArrayList;") ∈ uw := uw_of (List.mem_append_left _ (List.mem_of_getElem? (i := 115) rfl : _ ∈ tables_1_1)) (by rfl)
set_option maxRecDepth 4000 in
theorem u116 : (Jvm.Cond.fieldLink "WeddingRegister$LawBook" (23 : Nat) "WeddingRegister$LawBook" "nothingAsked" "LWeddingRegister$Law;") ∈ uw := uw_of (List.mem_append_left _ (List.mem_of_getElem? (i := 116) rfl : _ ∈ tables_1_1)) (by rfl)
set_option maxRecDepth 4000 in
theorem u117 : (Jvm.Cond.laysFinal "WeddingRegister$LawBook" "WeddingRegister$LawBook" "told" "Ljava/util/ArrayList;") ∈ uw := uw_of (List.mem_append_left _ (List.mem_of_getElem? (i := 117) rfl : _ ∈ tables_1_1)) (by rfl)
set_option maxRecDepth 4000 in
theorem u119 : (Jvm.Cond.laysFinal "WeddingRegister$LawBook" "WeddingRegister$LawBook" "nothingAsked" "LWeddingRegister$Law;") ∈ uw := uw_of (List.mem_append_left _ (List.mem_of_getElem? (i := 119) rfl : _ ∈ tables_1_1)) (by rfl)
set_option maxRecDepth 4000 in
theorem u122 : (Jvm.Cond.classLink "WeddingRegister" (37 : Nat) "java/util/ArrayList") ∈ uw := uw_of (List.mem_append_left _ (List.mem_of_getElem? (i := 122) rfl : _ ∈ tables_1_1)) (by rfl)
set_option maxRecDepth 4000 in
theorem u123 : (Jvm.Cond.methodLink "WeddingRegister" (39 : Nat) ({ cls := "java/util/ArrayList", name := "<init>", desc := "()V" } : Jvm.MethodName)) ∈ uw := uw_of (List.mem_append_left _ (List.mem_of_getElem? (i := 123) rfl : _ ∈ tables_1_1)) (by rfl)
set_option maxRecDepth 4000 in
theorem u124 : (Jvm.Cond.classLink "WeddingRegister" (56 : Nat) "WeddingRegister$DayPlan") ∈ uw := uw_of (List.mem_append_left _ (List.mem_of_getElem? (i := 124) rfl : _ ∈ tables_1_1)) (by rfl)
set_option maxRecDepth 4000 in
theorem u125 : (Jvm.Cond.instantiable "WeddingRegister$DayPlan" (2 : Nat)) ∈ uw := uw_of (List.mem_append_left _ (List.mem_of_getElem? (i := 125) rfl : _ ∈ tables_1_1)) (by rfl)
set_option maxRecDepth 4000 in
theorem u126 : (Jvm.Cond.methodLink "WeddingRegister" (58 : Nat) ({ cls := "WeddingRegister$DayPlan", name := "<init>", desc := "()V" } : Jvm.MethodName)) ∈ uw := uw_of (List.mem_append_left _ (List.mem_of_getElem? (i := 126) rfl : _ ∈ tables_1_1)) (by rfl)
set_option maxRecDepth 4000 in
theorem u127 : (Jvm.Cond.instanceMethod ({ cls := "WeddingRegister$DayPlan", name := "<init>", desc := "()V" } : Jvm.MethodName)) ∈ uw := uw_of (List.mem_append_left _ (List.mem_of_getElem? (i := 127) rfl : _ ∈ tables_1_1)) (by rfl)
set_option maxRecDepth 4000 in
theorem u128 : (Jvm.Cond.code ({ cls := "WeddingRegister$DayPlan", name := "<init>", desc := "()V" } : Jvm.MethodName) prog_4_method_1_code (1 : Nat) (Option.none : Option Jvm.ClassFile.FieldType)) ∈ uw := uw_of (List.mem_append_left _ (List.mem_of_getElem? (i := 128) rfl : _ ∈ tables_1_1)) (by rfl)
set_option maxRecDepth 4000 in
theorem u129 : (Jvm.Cond.methodLink "WeddingRegister$DayPlan" (3 : Nat) ({ cls := "java/lang/Object", name := "<init>", desc := "()V" } : Jvm.MethodName)) ∈ uw := uw_of (List.mem_append_left _ (List.mem_of_getElem? (i := 129) rfl : _ ∈ tables_1_1)) (by rfl)
set_option maxRecDepth 4000 in
theorem u130 : (Jvm.Cond.fieldLink "WeddingRegister$DayPlan" (9 : Nat) "WeddingRegister$DayPlan" "takenHalls" "[I") ∈ uw := uw_of (List.mem_append_left _ (List.mem_of_getElem? (i := 130) rfl : _ ∈ tables_1_1)) (by rfl)
set_option maxRecDepth 4000 in
theorem u131 : (Jvm.Cond.fieldLink "WeddingRegister$DayPlan" (15 : Nat) "WeddingRegister$DayPlan" "hallOfRegistrar" "[I") ∈ uw := uw_of (List.mem_append_left _ (List.mem_of_getElem? (i := 131) rfl : _ ∈ tables_1_1)) (by rfl)
set_option maxRecDepth 4000 in
theorem u132 : (Jvm.Cond.laysFinal "WeddingRegister$DayPlan" "WeddingRegister$DayPlan" "takenHalls" "[I") ∈ uw := uw_of (List.mem_append_left _ (List.mem_of_getElem? (i := 132) rfl : _ ∈ tables_1_1)) (by rfl)
set_option maxRecDepth 4000 in
theorem u134 : (Jvm.Cond.laysFinal "WeddingRegister$DayPlan" "WeddingRegister$DayPlan" "hallOfRegistrar" "[I") ∈ uw := uw_of (List.mem_append_left _ (List.mem_of_getElem? (i := 134) rfl : _ ∈ tables_1_1)) (by rfl)
set_option maxRecDepth 4000 in
theorem u137 : (Jvm.Cond.fieldLink "WeddingRegister" (7 : Nat) "WeddingRegister" "now" "I") ∈ uw := uw_of (List.mem_append_left _ (List.mem_of_getElem? (i := 137) rfl : _ ∈ tables_1_1)) (by rfl)
set_option maxRecDepth 4000 in
theorem u138 : (Jvm.Cond.fieldLink "WeddingRegister" (13 : Nat) "WeddingRegister" "paperCount" "I") ∈ uw := uw_of (List.mem_append_left _ (List.mem_of_getElem? (i := 138) rfl : _ ∈ tables_1_1)) (by rfl)
set_option maxRecDepth 4000 in
theorem u139 : (Jvm.Cond.fieldLink "WeddingRegister" (16 : Nat) "WeddingRegister" "registrarCount" "I") ∈ uw := uw_of (List.mem_append_left _ (List.mem_of_getElem? (i := 139) rfl : _ ∈ tables_1_1)) (by rfl)
set_option maxRecDepth 4000 in
theorem u140 : (Jvm.Cond.fieldLink "WeddingRegister" (19 : Nat) "WeddingRegister" "registrarTongues" "[I") ∈ uw := uw_of (List.mem_append_left _ (List.mem_of_getElem? (i := 140) rfl : _ ∈ tables_1_1)) (by rfl)
set_option maxRecDepth 4000 in
theorem u141 : (Jvm.Cond.fieldLink "WeddingRegister" (26 : Nat) "WeddingRegister" "calendar" "LWeddingRegister$Calendar;") ∈ uw := uw_of (List.mem_append_left _ (List.mem_of_getElem? (i := 141) rfl : _ ∈ tables_1_1)) (by rfl)
set_option maxRecDepth 4000 in
theorem u142 : (Jvm.Cond.fieldLink "WeddingRegister" (33 : Nat) "WeddingRegister" "laws" "LWeddingRegister$LawBook;") ∈ uw := uw_of (List.mem_append_left _ (List.mem_of_getElem? (i := 142) rfl : _ ∈ tables_1_1)) (by rfl)
set_option maxRecDepth 4000 in
theorem u143 : (Jvm.Cond.fieldLink "WeddingRegister" (40 : Nat) "WeddingRegister" "persons" "Ljava/util/ArrayList;") ∈ uw := uw_of (List.mem_append_left _ (List.mem_of_getElem? (i := 143) rfl : _ ∈ tables_1_1)) (by rfl)
set_option maxRecDepth 4000 in
theorem u144 : (Jvm.Cond.fieldLink "WeddingRegister" (44 : Nat) "WeddingRegister" "notices" "Ljava/util/ArrayList;") ∈ uw := uw_of (List.mem_append_left _ (List.mem_of_getElem? (i := 144) rfl : _ ∈ tables_1_1)) (by rfl)
set_option maxRecDepth 4000 in
theorem u145 : (Jvm.Cond.fieldLink "WeddingRegister" (47 : Nat) "WeddingRegister" "objections" "Ljava/util/ArrayList;") ∈ uw := uw_of (List.mem_append_left _ (List.mem_of_getElem? (i := 145) rfl : _ ∈ tables_1_1)) (by rfl)
set_option maxRecDepth 4000 in
theorem u146 : (Jvm.Cond.fieldLink "WeddingRegister" (50 : Nat) "WeddingRegister" "entries" "Ljava/util/ArrayList;") ∈ uw := uw_of (List.mem_append_left _ (List.mem_of_getElem? (i := 146) rfl : _ ∈ tables_1_1)) (by rfl)
set_option maxRecDepth 4000 in
theorem u147 : (Jvm.Cond.fieldLink "WeddingRegister" (53 : Nat) "WeddingRegister" "corrections" "Ljava/util/ArrayList;") ∈ uw := uw_of (List.mem_append_left _ (List.mem_of_getElem? (i := 147) rfl : _ ∈ tables_1_1)) (by rfl)
set_option maxRecDepth 4000 in
theorem u148 : (Jvm.Cond.fieldLink "WeddingRegister" (59 : Nat) "WeddingRegister" "plan" "LWeddingRegister$DayPlan;") ∈ uw := uw_of (List.mem_append_left _ (List.mem_of_getElem? (i := 148) rfl : _ ∈ tables_1_1)) (by rfl)
set_option maxRecDepth 4000 in
theorem u149 : (Jvm.Cond.lays "WeddingRegister" "WeddingRegister" "now" "I") ∈ uw := uw_of (List.mem_append_left _ (List.mem_of_getElem? (i := 149) rfl : _ ∈ tables_1_1)) (by rfl)
set_option maxRecDepth 4000 in
theorem u151 : (Jvm.Cond.lays "WeddingRegister" "WeddingRegister" "paperCount" "I") ∈ uw := uw_of (List.mem_append_left _ (List.mem_of_getElem? (i := 151) rfl : _ ∈ tables_1_1)) (by rfl)
set_option maxRecDepth 4000 in
theorem u153 : (Jvm.Cond.lays "WeddingRegister" "WeddingRegister" "registrarCount" "I") ∈ uw := uw_of (List.mem_append_left _ (List.mem_of_getElem? (i := 153) rfl : _ ∈ tables_1_1)) (by rfl)
set_option maxRecDepth 4000 in
theorem u155 : (Jvm.Cond.laysFinal "WeddingRegister" "WeddingRegister" "registrarTongues" "[I") ∈ uw := uw_of (List.mem_append_left _ (List.mem_of_getElem? (i := 155) rfl : _ ∈ tables_1_1)) (by rfl)
set_option maxRecDepth 4000 in
theorem u157 : (Jvm.Cond.laysFinal "WeddingRegister" "WeddingRegister" "calendar" "LWeddingRegister$Calendar;") ∈ uw := uw_of (List.mem_append_left _ (List.mem_of_getElem? (i := 157) rfl : _ ∈ tables_1_1)) (by rfl)
set_option maxRecDepth 4000 in
theorem u159 : (Jvm.Cond.laysFinal "WeddingRegister" "WeddingRegister" "laws" "LWeddingRegister$LawBook;") ∈ uw := uw_of (List.mem_append_left _ (List.mem_of_getElem? (i := 159) rfl : _ ∈ tables_1_1)) (by rfl)
set_option maxRecDepth 4000 in
theorem u161 : (Jvm.Cond.laysFinal "WeddingRegister" "WeddingRegister" "persons" "Ljava/util/ArrayList;") ∈ uw := uw_of (List.mem_append_left _ (List.mem_of_getElem? (i := 161) rfl : _ ∈ tables_1_1)) (by rfl)
set_option maxRecDepth 4000 in
theorem u163 : (Jvm.Cond.laysFinal "WeddingRegister" "WeddingRegister" "notices" "Ljava/util/ArrayList;") ∈ uw := uw_of (List.mem_append_left _ (List.mem_of_getElem? (i := 163) rfl : _ ∈ tables_1_1)) (by rfl)
set_option maxRecDepth 4000 in
theorem u165 : (Jvm.Cond.laysFinal "WeddingRegister" "WeddingRegister" "objections" "Ljava/util/ArrayList;") ∈ uw := uw_of (List.mem_append_left _ (List.mem_of_getElem? (i := 165) rfl : _ ∈ tables_1_1)) (by rfl)
set_option maxRecDepth 4000 in
theorem u167 : (Jvm.Cond.laysFinal "WeddingRegister" "WeddingRegister" "entries" "Ljava/util/ArrayList;") ∈ uw := uw_of (List.mem_append_left _ (List.mem_of_getElem? (i := 167) rfl : _ ∈ tables_1_1)) (by rfl)
set_option maxRecDepth 4000 in
theorem u169 : (Jvm.Cond.laysFinal "WeddingRegister" "WeddingRegister" "corrections" "Ljava/util/ArrayList;") ∈ uw := uw_of (List.mem_append_left _ (List.mem_of_getElem? (i := 169) rfl : _ ∈ tables_1_1)) (by rfl)
set_option maxRecDepth 4000 in
theorem u171 : (Jvm.Cond.laysFinal "WeddingRegister" "WeddingRegister" "plan" "LWeddingRegister$DayPlan;") ∈ uw := uw_of (List.mem_append_left _ (List.mem_of_getElem? (i := 171) rfl : _ ∈ tables_1_1)) (by rfl)
set_option maxRecDepth 4000 in
theorem u174 : (Jvm.Cond.methodLink "WeddingRegisterLaw" (13 : Nat) ({ cls := "WeddingRegister", name := "law", desc := "(IIII)Z" } : Jvm.MethodName)) ∈ uw := uw_of (List.mem_append_left _ (List.mem_of_getElem? (i := 174) rfl : _ ∈ tables_1_1)) (by rfl)
set_option maxRecDepth 4000 in
theorem u175 : (Jvm.Cond.instanceMethod ({ cls := "WeddingRegister", name := "law", desc := "(IIII)Z" } : Jvm.MethodName)) ∈ uw := uw_of (List.mem_append_left _ (List.mem_of_getElem? (i := 175) rfl : _ ∈ tables_1_1)) (by rfl)
set_option maxRecDepth 4000 in
theorem u176 : (Jvm.Cond.selects "WeddingRegister" ({ cls := "WeddingRegister", name := "law", desc := "(IIII)Z" } : Jvm.MethodName) ({ cls := "WeddingRegister", name := "law", desc := "(IIII)Z" } : Jvm.MethodName)) ∈ uw := uw_of (List.mem_append_left _ (List.mem_of_getElem? (i := 176) rfl : _ ∈ tables_1_1)) (by rfl)
set_option maxRecDepth 4000 in
theorem u177 : (Jvm.Cond.code ({ cls := "WeddingRegister", name := "law", desc := "(IIII)Z" } : Jvm.MethodName) prog_1_method_2_code (5 : Nat) (Option.some Jvm.ClassFile.FieldType.boolean)) ∈ uw := uw_of (List.mem_append_left _ (List.mem_of_getElem? (i := 177) rfl : _ ∈ tables_1_1)) (by rfl)
set_option maxRecDepth 4000 in
theorem u178 : (Jvm.Cond.methodLink "WeddingRegister" (63 : Nat) ({ cls := "WeddingRegister", name := "isDay", desc := "(I)Z" } : Jvm.MethodName)) ∈ uw := uw_of (List.mem_append_left _ (List.mem_of_getElem? (i := 178) rfl : _ ∈ tables_1_1)) (by rfl)
set_option maxRecDepth 4000 in
theorem u179 : (Jvm.Cond.static ({ cls := "WeddingRegister", name := "isDay", desc := "(I)Z" } : Jvm.MethodName)) ∈ uw := uw_of (List.mem_append_left _ (List.mem_of_getElem? (i := 179) rfl : _ ∈ tables_1_1)) (by rfl)
set_option maxRecDepth 4000 in
theorem u180 : (Jvm.Cond.code ({ cls := "WeddingRegister", name := "isDay", desc := "(I)Z" } : Jvm.MethodName) prog_1_method_27_code (1 : Nat) (Option.some Jvm.ClassFile.FieldType.boolean)) ∈ uw := uw_of (List.mem_append_left _ (List.mem_of_getElem? (i := 180) rfl : _ ∈ tables_1_1)) (by rfl)
set_option maxRecDepth 4000 in
theorem u181 : (Jvm.Cond.methodLink "WeddingRegister" (67 : Nat) ({ cls := "WeddingRegister$Law", name := "canBe", desc := "(II)Z" } : Jvm.MethodName)) ∈ uw := uw_of (List.mem_append_left _ (List.mem_of_getElem? (i := 181) rfl : _ ∈ tables_1_1)) (by rfl)
set_option maxRecDepth 4000 in
theorem u182 : (Jvm.Cond.static ({ cls := "WeddingRegister$Law", name := "canBe", desc := "(II)Z" } : Jvm.MethodName)) ∈ uw := uw_of (List.mem_append_left _ (List.mem_of_getElem? (i := 182) rfl : _ ∈ tables_1_1)) (by rfl)
set_option maxRecDepth 4000 in
theorem u183 : (Jvm.Cond.code ({ cls := "WeddingRegister$Law", name := "canBe", desc := "(II)Z" } : Jvm.MethodName) prog_6_method_2_code (2 : Nat) (Option.some Jvm.ClassFile.FieldType.boolean)) ∈ uw := uw_of (List.mem_append_left _ (List.mem_of_getElem? (i := 183) rfl : _ ∈ tables_1_1)) (by rfl)
set_option maxRecDepth 4000 in
theorem u184 : (Jvm.Cond.methodLink "WeddingRegister" (73 : Nat) ({ cls := "WeddingRegister$LawBook", name := "isFull", desc := "()Z" } : Jvm.MethodName)) ∈ uw := uw_of (List.mem_append_left _ (List.mem_of_getElem? (i := 184) rfl : _ ∈ tables_1_1)) (by rfl)
set_option maxRecDepth 4000 in
theorem u185 : (Jvm.Cond.instanceMethod ({ cls := "WeddingRegister$LawBook", name := "isFull", desc := "()Z" } : Jvm.MethodName)) ∈ uw := uw_of (List.mem_append_left _ (List.mem_of_getElem? (i := 185) rfl : _ ∈ tables_1_1)) (by rfl)
set_option maxRecDepth 4000 in
theorem u186 : (Jvm.Cond.selects "WeddingRegister$LawBook" ({ cls := "WeddingRegister$LawBook", name := "isFull", desc := "()Z" } : Jvm.MethodName) ({ cls := "WeddingRegister$LawBook", name := "isFull", desc := "()Z" } : Jvm.MethodName)) ∈ uw := uw_of (List.mem_append_left _ (List.mem_of_getElem? (i := 186) rfl : _ ∈ tables_1_1)) (by rfl)
set_option maxRecDepth 4000 in
theorem u187 : (Jvm.Cond.code ({ cls := "WeddingRegister$LawBook", name := "isFull", desc := "()Z" } : Jvm.MethodName) prog_7_method_2_code (1 : Nat) (Option.some Jvm.ClassFile.FieldType.boolean)) ∈ uw := uw_of (List.mem_append_left _ (List.mem_of_getElem? (i := 187) rfl : _ ∈ tables_1_1)) (by rfl)
set_option maxRecDepth 4000 in
theorem u188 : (Jvm.Cond.methodLink "WeddingRegister$LawBook" (27 : Nat) ({ cls := "java/util/ArrayList", name := "size", desc := "()I" } : Jvm.MethodName)) ∈ uw := uw_of (List.mem_append_left _ (List.mem_of_getElem? (i := 188) rfl : _ ∈ tables_1_1)) (by rfl)
set_option maxRecDepth 4000 in
theorem u189 : (Jvm.Cond.instanceMethod ({ cls := "java/util/ArrayList", name := "size", desc := "()I" } : Jvm.MethodName)) ∈ uw := uw_of (List.mem_append_left _ (List.mem_of_getElem? (i := 189) rfl : _ ∈ tables_1_1)) (by rfl)
set_option maxRecDepth 4000 in
theorem u190 : (Jvm.Cond.selects "java/util/ArrayList" ({ cls := "java/util/ArrayList", name := "size", desc := "()I" } : Jvm.MethodName) ({ cls := "java/util/ArrayList", name := "size", desc := "()I" } : Jvm.MethodName)) ∈ uw := uw_of (List.mem_append_left _ (List.mem_of_getElem? (i := 190) rfl : _ ∈ tables_1_1)) (by rfl)
set_option maxRecDepth 4000 in
theorem u191 : (Jvm.Cond.code ({ cls := "java/util/ArrayList", name := "size", desc := "()I" } : Jvm.MethodName) prog_22_method_8_code (1 : Nat) (Option.some Jvm.ClassFile.FieldType.int)) ∈ uw := uw_of (List.mem_append_left _ (List.mem_of_getElem? (i := 191) rfl : _ ∈ tables_1_1)) (by rfl)
set_option maxRecDepth 4000 in
theorem u192 : (Jvm.Cond.classLink "WeddingRegister" (68 : Nat) "WeddingRegister$Law") ∈ uw := uw_of (List.mem_append_left _ (List.mem_of_getElem? (i := 192) rfl : _ ∈ tables_1_1)) (by rfl)
set_option maxRecDepth 4000 in
theorem u193 : (Jvm.Cond.methodLink "WeddingRegister" (77 : Nat) ({ cls := "WeddingRegister$Law", name := "<init>", desc := "(IIII)V" } : Jvm.MethodName)) ∈ uw := uw_of (List.mem_append_left _ (List.mem_of_getElem? (i := 193) rfl : _ ∈ tables_1_1)) (by rfl)
set_option maxRecDepth 4000 in
theorem u194 : (Jvm.Cond.methodLink "WeddingRegister" (80 : Nat) ({ cls := "WeddingRegister$LawBook", name := "tell", desc := "(LWeddingRegister$Law;)V" } : Jvm.MethodName)) ∈ uw := uw_of (List.mem_append_left _ (List.mem_of_getElem? (i := 194) rfl : _ ∈ tables_1_1)) (by rfl)
set_option maxRecDepth 4000 in
theorem u195 : (Jvm.Cond.instanceMethod ({ cls := "WeddingRegister$LawBook", name := "tell", desc := "(LWeddingRegister$Law;)V" } : Jvm.MethodName)) ∈ uw := uw_of (List.mem_append_left _ (List.mem_of_getElem? (i := 195) rfl : _ ∈ tables_1_1)) (by rfl)
set_option maxRecDepth 4000 in
theorem u196 : (Jvm.Cond.selects "WeddingRegister$LawBook" ({ cls := "WeddingRegister$LawBook", name := "tell", desc := "(LWeddingRegister$Law;)V" } : Jvm.MethodName) ({ cls := "WeddingRegister$LawBook", name := "tell", desc := "(LWeddingRegister$Law;)V" } : Jvm.MethodName)) ∈ uw := uw_of (List.mem_append_left _ (List.mem_of_getElem? (i := 196) rfl : _ ∈ tables_1_1)) (by rfl)
set_option maxRecDepth 4000 in
theorem u197 : (Jvm.Cond.code ({ cls := "WeddingRegister$LawBook", name := "tell", desc := "(LWeddingRegister$Law;)V" } : Jvm.MethodName) prog_7_method_3_code (2 : Nat) (Option.none : Option Jvm.ClassFile.FieldType)) ∈ uw := uw_of (List.mem_append_left _ (List.mem_of_getElem? (i := 197) rfl : _ ∈ tables_1_1)) (by rfl)
set_option maxRecDepth 4000 in
theorem u198 : (Jvm.Cond.methodLink "WeddingRegister$LawBook" (31 : Nat) ({ cls := "java/util/ArrayList", name := "add", desc := "(Ljava/lang/Object;)Z" } : Jvm.MethodName)) ∈ uw := uw_of (List.mem_append_left _ (List.mem_of_getElem? (i := 198) rfl : _ ∈ tables_1_1)) (by rfl)
set_option maxRecDepth 4000 in
theorem u199 : (Jvm.Cond.instanceMethod ({ cls := "java/util/ArrayList", name := "add", desc := "(Ljava/lang/Object;)Z" } : Jvm.MethodName)) ∈ uw := uw_of (List.mem_append_left _ (List.mem_of_getElem? (i := 199) rfl : _ ∈ tables_1_1)) (by rfl)
set_option maxRecDepth 4000 in
theorem u200 : (Jvm.Cond.selects "java/util/ArrayList" ({ cls := "java/util/ArrayList", name := "add", desc := "(Ljava/lang/Object;)Z" } : Jvm.MethodName) ({ cls := "java/util/ArrayList", name := "add", desc := "(Ljava/lang/Object;)Z" } : Jvm.MethodName)) ∈ uw := uw_of (List.mem_append_left _ (List.mem_of_getElem? (i := 200) rfl : _ ∈ tables_1_1)) (by rfl)
set_option maxRecDepth 4000 in
theorem u201 : (Jvm.Cond.code ({ cls := "java/util/ArrayList", name := "add", desc := "(Ljava/lang/Object;)Z" } : Jvm.MethodName) prog_22_method_25_code (2 : Nat) (Option.some Jvm.ClassFile.FieldType.boolean)) ∈ uw := uw_of (List.mem_append_left _ (List.mem_of_getElem? (i := 201) rfl : _ ∈ tables_1_1)) (by rfl)
set_option maxRecDepth 4000 in
theorem u202 : (Jvm.Cond.methodLink "java/util/ArrayList" (131 : Nat) ({ cls := "java/util/ArrayList", name := "add", desc := "(Ljava/lang/Object;[Ljava/lang/Object;I)V" } : Jvm.MethodName)) ∈ uw := uw_of (List.mem_append_left _ (List.mem_of_getElem? (i := 202) rfl : _ ∈ tables_1_1)) (by rfl)
set_option maxRecDepth 4000 in
theorem u204 : (Jvm.Cond.instanceMethod ({ cls := "java/util/ArrayList", name := "add", desc := "(Ljava/lang/Object;[Ljava/lang/Object;I)V" } : Jvm.MethodName)) ∈ uw := uw_of (List.mem_append_left _ (List.mem_of_getElem? (i := 204) rfl : _ ∈ tables_1_1)) (by rfl)
set_option maxRecDepth 4000 in
theorem u205 : (Jvm.Cond.code ({ cls := "java/util/ArrayList", name := "add", desc := "(Ljava/lang/Object;[Ljava/lang/Object;I)V" } : Jvm.MethodName) prog_22_method_24_code (4 : Nat) (Option.none : Option Jvm.ClassFile.FieldType)) ∈ uw := uw_of (List.mem_append_left _ (List.mem_of_getElem? (i := 205) rfl : _ ∈ tables_1_1)) (by rfl)
set_option maxRecDepth 4000 in
theorem u206 : (Jvm.Cond.methodLink "java/util/ArrayList" (129 : Nat) ({ cls := "java/util/ArrayList", name := "grow", desc := "()[Ljava/lang/Object;" } : Jvm.MethodName)) ∈ uw := uw_of (List.mem_append_left _ (List.mem_of_getElem? (i := 206) rfl : _ ∈ tables_1_1)) (by rfl)
set_option maxRecDepth 4000 in
theorem u208 : (Jvm.Cond.instanceMethod ({ cls := "java/util/ArrayList", name := "grow", desc := "()[Ljava/lang/Object;" } : Jvm.MethodName)) ∈ uw := uw_of (List.mem_append_left _ (List.mem_of_getElem? (i := 208) rfl : _ ∈ tables_1_1)) (by rfl)
set_option maxRecDepth 4000 in
theorem u209 : (Jvm.Cond.code ({ cls := "java/util/ArrayList", name := "grow", desc := "()[Ljava/lang/Object;" } : Jvm.MethodName) prog_22_method_7_code (1 : Nat) (Option.some (Jvm.ClassFile.FieldType.array (Jvm.ClassFile.FieldType.object "java/lang/Object")))) ∈ uw := uw_of (List.mem_append_left _ (List.mem_of_getElem? (i := 209) rfl : _ ∈ tables_1_1)) (by rfl)
set_option maxRecDepth 4000 in
theorem u210 : (Jvm.Cond.methodLink "java/util/ArrayList" (69 : Nat) ({ cls := "java/util/ArrayList", name := "grow", desc := "(I)[Ljava/lang/Object;" } : Jvm.MethodName)) ∈ uw := uw_of (List.mem_append_left _ (List.mem_of_getElem? (i := 210) rfl : _ ∈ tables_1_1)) (by rfl)
set_option maxRecDepth 4000 in
theorem u212 : (Jvm.Cond.instanceMethod ({ cls := "java/util/ArrayList", name := "grow", desc := "(I)[Ljava/lang/Object;" } : Jvm.MethodName)) ∈ uw := uw_of (List.mem_append_left _ (List.mem_of_getElem? (i := 212) rfl : _ ∈ tables_1_1)) (by rfl)
set_option maxRecDepth 4000 in
theorem u213 : (Jvm.Cond.code ({ cls := "java/util/ArrayList", name := "grow", desc := "(I)[Ljava/lang/Object;" } : Jvm.MethodName) prog_22_method_6_code (4 : Nat) (Option.some (Jvm.ClassFile.FieldType.array (Jvm.ClassFile.FieldType.object "java/lang/Object")))) ∈ uw := uw_of (List.mem_append_left _ (List.mem_of_getElem? (i := 213) rfl : _ ∈ tables_1_1)) (by rfl)
set_option maxRecDepth 4000 in
theorem u214 : (Jvm.Cond.methodLink "java/util/ArrayList" (73 : Nat) ({ cls := "jdk/internal/util/ArraysSupport", name := "newLength", desc := "(III)I" } : Jvm.MethodName)) ∈ uw := uw_of (List.mem_append_left _ (List.mem_of_getElem? (i := 214) rfl : _ ∈ tables_1_1)) (by rfl)
set_option maxRecDepth 4000 in
theorem u215 : (Jvm.Cond.static ({ cls := "jdk/internal/util/ArraysSupport", name := "newLength", desc := "(III)I" } : Jvm.MethodName)) ∈ uw := uw_of (List.mem_append_left _ (List.mem_of_getElem? (i := 215) rfl : _ ∈ tables_1_1)) (by rfl)
set_option maxRecDepth 4000 in
theorem u216 : (Jvm.Cond.code ({ cls := "jdk/internal/util/ArraysSupport", name := "newLength", desc := "(III)I" } : Jvm.MethodName) prog_29_method_27_code (4 : Nat) (Option.some Jvm.ClassFile.FieldType.int)) ∈ uw := uw_of (List.mem_append_left _ (List.mem_of_getElem? (i := 216) rfl : _ ∈ tables_1_1)) (by rfl)
set_option maxRecDepth 4000 in
theorem u217 : (Jvm.Cond.methodLink "jdk/internal/util/ArraysSupport" (194 : Nat) ({ cls := "java/lang/Math", name := "max", desc := "(II)I" } : Jvm.MethodName)) ∈ uw := uw_of (List.mem_append_left _ (List.mem_of_getElem? (i := 217) rfl : _ ∈ tables_1_1)) (by rfl)
set_option maxRecDepth 4000 in
theorem u218 : (Jvm.Cond.static ({ cls := "java/lang/Math", name := "max", desc := "(II)I" } : Jvm.MethodName)) ∈ uw := uw_of (List.mem_append_left _ (List.mem_of_getElem? (i := 218) rfl : _ ∈ tables_1_1)) (by rfl)
set_option maxRecDepth 4000 in
theorem u219 : (Jvm.Cond.code ({ cls := "java/lang/Math", name := "max", desc := "(II)I" } : Jvm.MethodName) prog_18_method_65_code (2 : Nat) (Option.some Jvm.ClassFile.FieldType.int)) ∈ uw := uw_of (List.mem_append_left _ (List.mem_of_getElem? (i := 219) rfl : _ ∈ tables_1_1)) (by rfl)
set_option maxRecDepth 4000 in
theorem u220 : (Jvm.Cond.constant "jdk/internal/util/ArraysSupport" (200 : Nat) (2147483639 : Int32)) ∈ uw := uw_of (List.mem_append_left _ (List.mem_of_getElem? (i := 220) rfl : _ ∈ tables_1_1)) (by rfl)
set_option maxRecDepth 4000 in
theorem u221 : (Jvm.Cond.methodLink "jdk/internal/util/ArraysSupport" (201 : Nat) ({ cls := "jdk/internal/util/ArraysSupport", name := "hugeLength", desc := "(II)I" } : Jvm.MethodName)) ∈ uw := uw_of (List.mem_append_left _ (List.mem_of_getElem? (i := 221) rfl : _ ∈ tables_1_1)) (by rfl)
set_option maxRecDepth 4000 in
theorem u222 : (Jvm.Cond.static ({ cls := "jdk/internal/util/ArraysSupport", name := "hugeLength", desc := "(II)I" } : Jvm.MethodName)) ∈ uw := uw_of (List.mem_append_left _ (List.mem_of_getElem? (i := 222) rfl : _ ∈ tables_1_1)) (by rfl)
set_option maxRecDepth 4000 in
theorem u223 : (Jvm.Cond.code ({ cls := "jdk/internal/util/ArraysSupport", name := "hugeLength", desc := "(II)I" } : Jvm.MethodName) prog_29_method_28_code (3 : Nat) (Option.some Jvm.ClassFile.FieldType.int)) ∈ uw := uw_of (List.mem_append_left _ (List.mem_of_getElem? (i := 223) rfl : _ ∈ tables_1_1)) (by rfl)
set_option maxRecDepth 4000 in
theorem u224 : (Jvm.Cond.methodLink "java/util/ArrayList" (66 : Nat) ({ cls := "java/util/Arrays", name := "copyOf", desc := "([Ljava/lang/Object;I)[Ljava/lang/Object;" } : Jvm.MethodName)) ∈ uw := uw_of (List.mem_append_left _ (List.mem_of_getElem? (i := 224) rfl : _ ∈ tables_1_1)) (by rfl)
set_option maxRecDepth 4000 in
theorem u225 : (Jvm.Cond.static ({ cls := "java/util/Arrays", name := "copyOf", desc := "([Ljava/lang/Object;I)[Ljava/lang/Object;" } : Jvm.MethodName)) ∈ uw := uw_of (List.mem_append_left _ (List.mem_of_getElem? (i := 225) rfl : _ ∈ tables_1_1)) (by rfl)
set_option maxRecDepth 4000 in
theorem u226 : (Jvm.Cond.code ({ cls := "java/util/Arrays", name := "copyOf", desc := "([Ljava/lang/Object;I)[Ljava/lang/Object;" } : Jvm.MethodName) prog_23_method_119_code (2 : Nat) (Option.some (Jvm.ClassFile.FieldType.array (Jvm.ClassFile.FieldType.object "java/lang/Object")))) ∈ uw := uw_of (List.mem_append_left _ (List.mem_of_getElem? (i := 226) rfl : _ ∈ tables_1_1)) (by rfl)
set_option maxRecDepth 4000 in
theorem u227 : (Jvm.Cond.methodLink "java/util/Arrays" (86 : Nat) ({ cls := "java/lang/Object", name := "getClass", desc := "()Ljava/lang/Class;" } : Jvm.MethodName)) ∈ uw := uw_of (List.mem_append_left _ (List.mem_of_getElem? (i := 227) rfl : _ ∈ tables_1_1)) (by rfl)
set_option maxRecDepth 4000 in
theorem u228 : (Jvm.Cond.instanceMethod ({ cls := "java/lang/Object", name := "getClass", desc := "()Ljava/lang/Class;" } : Jvm.MethodName)) ∈ uw := uw_of (List.mem_append_left _ (List.mem_of_getElem? (i := 228) rfl : _ ∈ tables_1_1)) (by rfl)
set_option maxRecDepth 4000 in
theorem u229 : (Jvm.Cond.sameMethod "java/lang/Object" "java/lang/Object" "getClass" "()Ljava/lang/Class;") ∈ uw := uw_of (List.mem_append_left _ (List.mem_of_getElem? (i := 229) rfl : _ ∈ tables_1_1)) (by rfl)
set_option maxRecDepth 4000 in
theorem u230 : (Jvm.Cond.selects "WeddingRegister" ({ cls := "java/lang/Object", name := "getClass", desc := "()Ljava/lang/Class;" } : Jvm.MethodName) ({ cls := "java/lang/Object", name := "getClass", desc := "()Ljava/lang/Class;" } : Jvm.MethodName)) ∈ uw := uw_of (List.mem_append_left _ (List.mem_of_getElem? (i := 230) rfl : _ ∈ tables_1_1)) (by rfl)
set_option maxRecDepth 4000 in
theorem u231 : (Jvm.Cond.selects "WeddingRegister$Calendar" ({ cls := "java/lang/Object", name := "getClass", desc := "()Ljava/lang/Class;" } : Jvm.MethodName) ({ cls := "java/lang/Object", name := "getClass", desc := "()Ljava/lang/Class;" } : Jvm.MethodName)) ∈ uw := uw_of (List.mem_append_left _ (List.mem_of_getElem? (i := 231) rfl : _ ∈ tables_1_1)) (by rfl)
set_option maxRecDepth 4000 in
theorem u232 : (Jvm.Cond.selects "WeddingRegister$Correction" ({ cls := "java/lang/Object", name := "getClass", desc := "()Ljava/lang/Class;" } : Jvm.MethodName) ({ cls := "java/lang/Object", name := "getClass", desc := "()Ljava/lang/Class;" } : Jvm.MethodName)) ∈ uw := uw_of (List.mem_append_left _ (List.mem_of_getElem? (i := 232) rfl : _ ∈ tables_1_1)) (by rfl)
set_option maxRecDepth 4000 in
theorem u233 : (Jvm.Cond.selects "WeddingRegister$DayPlan" ({ cls := "java/lang/Object", name := "getClass", desc := "()Ljava/lang/Class;" } : Jvm.MethodName) ({ cls := "java/lang/Object", name := "getClass", desc := "()Ljava/lang/Class;" } : Jvm.MethodName)) ∈ uw := uw_of (List.mem_append_left _ (List.mem_of_getElem? (i := 233) rfl : _ ∈ tables_1_1)) (by rfl)
set_option maxRecDepth 4000 in
theorem u234 : (Jvm.Cond.selects "WeddingRegister$Entry" ({ cls := "java/lang/Object", name := "getClass", desc := "()Ljava/lang/Class;" } : Jvm.MethodName) ({ cls := "java/lang/Object", name := "getClass", desc := "()Ljava/lang/Class;" } : Jvm.MethodName)) ∈ uw := uw_of (List.mem_append_left _ (List.mem_of_getElem? (i := 234) rfl : _ ∈ tables_1_1)) (by rfl)
set_option maxRecDepth 4000 in
theorem u235 : (Jvm.Cond.selects "WeddingRegister$Law" ({ cls := "java/lang/Object", name := "getClass", desc := "()Ljava/lang/Class;" } : Jvm.MethodName) ({ cls := "java/lang/Object", name := "getClass", desc := "()Ljava/lang/Class;" } : Jvm.MethodName)) ∈ uw := uw_of (List.mem_append_left _ (List.mem_of_getElem? (i := 235) rfl : _ ∈ tables_1_1)) (by rfl)
set_option maxRecDepth 4000 in
theorem u236 : (Jvm.Cond.selects "WeddingRegister$LawBook" ({ cls := "java/lang/Object", name := "getClass", desc := "()Ljava/lang/Class;" } : Jvm.MethodName) ({ cls := "java/lang/Object", name := "getClass", desc := "()Ljava/lang/Class;" } : Jvm.MethodName)) ∈ uw := uw_of (List.mem_append_left _ (List.mem_of_getElem? (i := 236) rfl : _ ∈ tables_1_1)) (by rfl)
set_option maxRecDepth 4000 in
theorem u237 : (Jvm.Cond.selects "WeddingRegister$Notice" ({ cls := "java/lang/Object", name := "getClass", desc := "()Ljava/lang/Class;" } : Jvm.MethodName) ({ cls := "java/lang/Object", name := "getClass", desc := "()Ljava/lang/Class;" } : Jvm.MethodName)) ∈ uw := uw_of (List.mem_append_left _ (List.mem_of_getElem? (i := 237) rfl : _ ∈ tables_1_1)) (by rfl)
set_option maxRecDepth 4000 in
theorem u238 : (Jvm.Cond.selects "WeddingRegister$Objection" ({ cls := "java/lang/Object", name := "getClass", desc := "()Ljava/lang/Class;" } : Jvm.MethodName) ({ cls := "java/lang/Object", name := "getClass", desc := "()Ljava/lang/Class;" } : Jvm.MethodName)) ∈ uw := uw_of (List.mem_append_left _ (List.mem_of_getElem? (i := 238) rfl : _ ∈ tables_1_1)) (by rfl)
set_option maxRecDepth 4000 in
theorem u239 : (Jvm.Cond.selects "WeddingRegister$Paper" ({ cls := "java/lang/Object", name := "getClass", desc := "()Ljava/lang/Class;" } : Jvm.MethodName) ({ cls := "java/lang/Object", name := "getClass", desc := "()Ljava/lang/Class;" } : Jvm.MethodName)) ∈ uw := uw_of (List.mem_append_left _ (List.mem_of_getElem? (i := 239) rfl : _ ∈ tables_1_1)) (by rfl)
set_option maxRecDepth 4000 in
theorem u240 : (Jvm.Cond.selects "WeddingRegister$Person" ({ cls := "java/lang/Object", name := "getClass", desc := "()Ljava/lang/Class;" } : Jvm.MethodName) ({ cls := "java/lang/Object", name := "getClass", desc := "()Ljava/lang/Class;" } : Jvm.MethodName)) ∈ uw := uw_of (List.mem_append_right _ (List.mem_append_left _ (List.mem_of_getElem? (i := 0) rfl : _ ∈ tables_1_2))) (by rfl)
set_option maxRecDepth 4000 in
theorem u241 : (Jvm.Cond.selects "WeddingRegisterModel" ({ cls := "java/lang/Object", name := "getClass", desc := "()Ljava/lang/Class;" } : Jvm.MethodName) ({ cls := "java/lang/Object", name := "getClass", desc := "()Ljava/lang/Class;" } : Jvm.MethodName)) ∈ uw := uw_of (List.mem_append_right _ (List.mem_append_left _ (List.mem_of_getElem? (i := 1) rfl : _ ∈ tables_1_2))) (by rfl)
set_option maxRecDepth 4000 in
theorem u242 : (Jvm.Cond.selects "java/util/ArrayList" ({ cls := "java/lang/Object", name := "getClass", desc := "()Ljava/lang/Class;" } : Jvm.MethodName) ({ cls := "java/lang/Object", name := "getClass", desc := "()Ljava/lang/Class;" } : Jvm.MethodName)) ∈ uw := uw_of (List.mem_append_right _ (List.mem_append_left _ (List.mem_of_getElem? (i := 2) rfl : _ ∈ tables_1_2))) (by rfl)
set_option maxRecDepth 4000 in
theorem u243 : (Jvm.Cond.native ({ cls := "java/lang/Object", name := "getClass", desc := "()Ljava/lang/Class;" } : Jvm.MethodName)) ∈ uw := uw_of (List.mem_append_right _ (List.mem_append_left _ (List.mem_of_getElem? (i := 3) rfl : _ ∈ tables_1_2))) (by rfl)
set_option maxRecDepth 4000 in
theorem u244 : (Jvm.Cond.methodLink "java/util/Arrays" (300 : Nat) ({ cls := "java/util/Arrays", name := "copyOf", desc := "([Ljava/lang/Object;ILjava/lang/Class;)[Ljava/lang/Object;" } : Jvm.MethodName)) ∈ uw := uw_of (List.mem_append_right _ (List.mem_append_left _ (List.mem_of_getElem? (i := 4) rfl : _ ∈ tables_1_2))) (by rfl)
set_option maxRecDepth 4000 in
theorem u245 : (Jvm.Cond.static ({ cls := "java/util/Arrays", name := "copyOf", desc := "([Ljava/lang/Object;ILjava/lang/Class;)[Ljava/lang/Object;" } : Jvm.MethodName)) ∈ uw := uw_of (List.mem_append_right _ (List.mem_append_left _ (List.mem_of_getElem? (i := 5) rfl : _ ∈ tables_1_2))) (by rfl)
set_option maxRecDepth 4000 in
theorem u246 : (Jvm.Cond.code ({ cls := "java/util/Arrays", name := "copyOf", desc := "([Ljava/lang/Object;ILjava/lang/Class;)[Ljava/lang/Object;" } : Jvm.MethodName) prog_23_method_120_code (4 : Nat) (Option.some (Jvm.ClassFile.FieldType.array (Jvm.ClassFile.FieldType.object "java/lang/Object")))) ∈ uw := uw_of (List.mem_append_right _ (List.mem_append_left _ (List.mem_of_getElem? (i := 6) rfl : _ ∈ tables_1_2))) (by rfl)
set_option maxRecDepth 4000 in
theorem u247 : (Jvm.Cond.classLink "java/util/Arrays" (110 : Nat) "[Ljava/lang/Object;") ∈ uw := uw_of (List.mem_append_right _ (List.mem_append_left _ (List.mem_of_getElem? (i := 7) rfl : _ ∈ tables_1_2))) (by rfl)
set_option maxRecDepth 4000 in
theorem u248 : (Jvm.Cond.arrayOver (Jvm.ClassFile.FieldType.object "java/lang/Object")) ∈ lw_tbl := List.mem_append_right _ (List.mem_append_right _ (List.mem_append_left _ (List.mem_of_getElem? (i := 8) rfl : _ ∈ tables_1_2)))
set_option maxRecDepth 4000 in
theorem u249 : (Jvm.Cond.classLink "java/util/Arrays" (2 : Nat) "java/lang/Object") ∈ uw := uw_of (List.mem_append_right _ (List.mem_append_left _ (List.mem_of_getElem? (i := 9) rfl : _ ∈ tables_1_2))) (by rfl)
set_option maxRecDepth 4000 in
theorem u250 : (Jvm.Cond.methodLink "java/util/Arrays" (304 : Nat) ({ cls := "java/lang/Math", name := "min", desc := "(II)I" } : Jvm.MethodName)) ∈ uw := uw_of (List.mem_append_right _ (List.mem_append_left _ (List.mem_of_getElem? (i := 10) rfl : _ ∈ tables_1_2))) (by rfl)
set_option maxRecDepth 4000 in
theorem u251 : (Jvm.Cond.static ({ cls := "java/lang/Math", name := "min", desc := "(II)I" } : Jvm.MethodName)) ∈ uw := uw_of (List.mem_append_right _ (List.mem_append_left _ (List.mem_of_getElem? (i := 11) rfl : _ ∈ tables_1_2))) (by rfl)
set_option maxRecDepth 4000 in
theorem u252 : (Jvm.Cond.code ({ cls := "java/lang/Math", name := "min", desc := "(II)I" } : Jvm.MethodName) prog_18_method_69_code (2 : Nat) (Option.some Jvm.ClassFile.FieldType.int)) ∈ uw := uw_of (List.mem_append_right _ (List.mem_append_left _ (List.mem_of_getElem? (i := 12) rfl : _ ∈ tables_1_2))) (by rfl)
set_option maxRecDepth 4000 in
theorem u253 : (Jvm.Cond.methodLink "java/util/Arrays" (150 : Nat) ({ cls := "java/lang/System", name := "arraycopy", desc := "(Ljava/lang/Object;ILjava/lang/Object;II)V" } : Jvm.MethodName)) ∈ uw := uw_of (List.mem_append_right _ (List.mem_append_left _ (List.mem_of_getElem? (i := 13) rfl : _ ∈ tables_1_2))) (by rfl)
set_option maxRecDepth 4000 in
theorem u254 : (Jvm.Cond.static ({ cls := "java/lang/System", name := "arraycopy", desc := "(Ljava/lang/Object;ILjava/lang/Object;II)V" } : Jvm.MethodName)) ∈ uw := uw_of (List.mem_append_right _ (List.mem_append_left _ (List.mem_of_getElem? (i := 14) rfl : _ ∈ tables_1_2))) (by rfl)
set_option maxRecDepth 4000 in
theorem u255 : (Jvm.Cond.native ({ cls := "java/lang/System", name := "arraycopy", desc := "(Ljava/lang/Object;ILjava/lang/Object;II)V" } : Jvm.MethodName)) ∈ uw := uw_of (List.mem_append_right _ (List.mem_append_left _ (List.mem_of_getElem? (i := 15) rfl : _ ∈ tables_1_2))) (by rfl)
set_option maxRecDepth 4000 in
theorem u256 : (Jvm.Cond.methodLink "java/util/ArrayList" (79 : Nat) ({ cls := "java/lang/Math", name := "max", desc := "(II)I" } : Jvm.MethodName)) ∈ uw := uw_of (List.mem_append_right _ (List.mem_append_left _ (List.mem_of_getElem? (i := 16) rfl : _ ∈ tables_1_2))) (by rfl)
set_option maxRecDepth 4000 in
theorem u257 : (Jvm.Cond.classLink "java/util/ArrayList" (7 : Nat) "java/lang/Object") ∈ uw := uw_of (List.mem_append_right _ (List.mem_append_left _ (List.mem_of_getElem? (i := 17) rfl : _ ∈ tables_1_2))) (by rfl)
set_option maxRecDepth 4000 in
theorem u258 : (Jvm.Cond.methodLink "WeddingRegisterLaw" (18 : Nat) ({ cls := "WeddingRegister", name := "person", desc := "(IIII)I" } : Jvm.MethodName)) ∈ uw := uw_of (List.mem_append_right _ (List.mem_append_left _ (List.mem_of_getElem? (i := 18) rfl : _ ∈ tables_1_2))) (by rfl)
set_option maxRecDepth 4000 in
theorem u259 : (Jvm.Cond.instanceMethod ({ cls := "WeddingRegister", name := "person", desc := "(IIII)I" } : Jvm.MethodName)) ∈ uw := uw_of (List.mem_append_right _ (List.mem_append_left _ (List.mem_of_getElem? (i := 19) rfl : _ ∈ tables_1_2))) (by rfl)
set_option maxRecDepth 4000 in
theorem u260 : (Jvm.Cond.selects "WeddingRegister" ({ cls := "WeddingRegister", name := "person", desc := "(IIII)I" } : Jvm.MethodName) ({ cls := "WeddingRegister", name := "person", desc := "(IIII)I" } : Jvm.MethodName)) ∈ uw := uw_of (List.mem_append_right _ (List.mem_append_left _ (List.mem_of_getElem? (i := 20) rfl : _ ∈ tables_1_2))) (by rfl)
set_option maxRecDepth 4000 in
theorem u261 : (Jvm.Cond.code ({ cls := "WeddingRegister", name := "person", desc := "(IIII)I" } : Jvm.MethodName) prog_1_method_3_code (6 : Nat) (Option.some Jvm.ClassFile.FieldType.int)) ∈ uw := uw_of (List.mem_append_right _ (List.mem_append_left _ (List.mem_of_getElem? (i := 21) rfl : _ ∈ tables_1_2))) (by rfl)
set_option maxRecDepth 4000 in
theorem u262 : (Jvm.Cond.methodLink "WeddingRegister" (84 : Nat) ({ cls := "WeddingRegister$Person", name := "canBe", desc := "(I)Z" } : Jvm.MethodName)) ∈ uw := uw_of (List.mem_append_right _ (List.mem_append_left _ (List.mem_of_getElem? (i := 22) rfl : _ ∈ tables_1_2))) (by rfl)
set_option maxRecDepth 4000 in
theorem u263 : (Jvm.Cond.static ({ cls := "WeddingRegister$Person", name := "canBe", desc := "(I)Z" } : Jvm.MethodName)) ∈ uw := uw_of (List.mem_append_right _ (List.mem_append_left _ (List.mem_of_getElem? (i := 23) rfl : _ ∈ tables_1_2))) (by rfl)
set_option maxRecDepth 4000 in
theorem u264 : (Jvm.Cond.code ({ cls := "WeddingRegister$Person", name := "canBe", desc := "(I)Z" } : Jvm.MethodName) prog_11_method_2_code (1 : Nat) (Option.some Jvm.ClassFile.FieldType.boolean)) ∈ uw := uw_of (List.mem_append_right _ (List.mem_append_left _ (List.mem_of_getElem? (i := 24) rfl : _ ∈ tables_1_2))) (by rfl)
set_option maxRecDepth 4000 in
theorem u265 : (Jvm.Cond.constant "WeddingRegister$Person" (15 : Nat) (1000000 : Int32)) ∈ uw := uw_of (List.mem_append_right _ (List.mem_append_left _ (List.mem_of_getElem? (i := 25) rfl : _ ∈ tables_1_2))) (by rfl)
set_option maxRecDepth 4000 in
theorem u266 : (Jvm.Cond.methodLink "WeddingRegister" (88 : Nat) ({ cls := "java/util/ArrayList", name := "size", desc := "()I" } : Jvm.MethodName)) ∈ uw := uw_of (List.mem_append_right _ (List.mem_append_left _ (List.mem_of_getElem? (i := 26) rfl : _ ∈ tables_1_2))) (by rfl)
set_option maxRecDepth 4000 in
theorem u267 : (Jvm.Cond.methodLink "WeddingRegister" (92 : Nat) ({ cls := "WeddingRegister", name := "canBeParents", desc := "(II)Z" } : Jvm.MethodName)) ∈ uw := uw_of (List.mem_append_right _ (List.mem_append_left _ (List.mem_of_getElem? (i := 27) rfl : _ ∈ tables_1_2))) (by rfl)
set_option maxRecDepth 4000 in
theorem u269 : (Jvm.Cond.instanceMethod ({ cls := "WeddingRegister", name := "canBeParents", desc := "(II)Z" } : Jvm.MethodName)) ∈ uw := uw_of (List.mem_append_right _ (List.mem_append_left _ (List.mem_of_getElem? (i := 29) rfl : _ ∈ tables_1_2))) (by rfl)
set_option maxRecDepth 4000 in
theorem u270 : (Jvm.Cond.code ({ cls := "WeddingRegister", name := "canBeParents", desc := "(II)Z" } : Jvm.MethodName) prog_1_method_32_code (5 : Nat) (Option.some Jvm.ClassFile.FieldType.boolean)) ∈ uw := uw_of (List.mem_append_right _ (List.mem_append_left _ (List.mem_of_getElem? (i := 30) rfl : _ ∈ tables_1_2))) (by rfl)
set_option maxRecDepth 4000 in
theorem u271 : (Jvm.Cond.methodLink "WeddingRegister" (95 : Nat) ({ cls := "WeddingRegister", name := "personAt", desc := "(I)LWeddingRegister$Person;" } : Jvm.MethodName)) ∈ uw := uw_of (List.mem_append_right _ (List.mem_append_left _ (List.mem_of_getElem? (i := 31) rfl : _ ∈ tables_1_2))) (by rfl)
set_option maxRecDepth 4000 in
theorem u273 : (Jvm.Cond.instanceMethod ({ cls := "WeddingRegister", name := "personAt", desc := "(I)LWeddingRegister$Person;" } : Jvm.MethodName)) ∈ uw := uw_of (List.mem_append_right _ (List.mem_append_left _ (List.mem_of_getElem? (i := 33) rfl : _ ∈ tables_1_2))) (by rfl)
set_option maxRecDepth 4000 in
theorem u274 : (Jvm.Cond.code ({ cls := "WeddingRegister", name := "personAt", desc := "(I)LWeddingRegister$Person;" } : Jvm.MethodName) prog_1_method_29_code (2 : Nat) (Option.some (Jvm.ClassFile.FieldType.object "WeddingRegister$Person"))) ∈ uw := uw_of (List.mem_append_right _ (List.mem_append_left _ (List.mem_of_getElem? (i := 34) rfl : _ ∈ tables_1_2))) (by rfl)
set_option maxRecDepth 4000 in
theorem u275 : (Jvm.Cond.methodLink "WeddingRegister" (176 : Nat) ({ cls := "java/util/ArrayList", name := "get", desc := "(I)Ljava/lang/Object;" } : Jvm.MethodName)) ∈ uw := uw_of (List.mem_append_right _ (List.mem_append_left _ (List.mem_of_getElem? (i := 35) rfl : _ ∈ tables_1_2))) (by rfl)
set_option maxRecDepth 4000 in
theorem u276 : (Jvm.Cond.instanceMethod ({ cls := "java/util/ArrayList", name := "get", desc := "(I)Ljava/lang/Object;" } : Jvm.MethodName)) ∈ uw := uw_of (List.mem_append_right _ (List.mem_append_left _ (List.mem_of_getElem? (i := 36) rfl : _ ∈ tables_1_2))) (by rfl)
set_option maxRecDepth 4000 in
theorem u277 : (Jvm.Cond.selects "java/util/ArrayList" ({ cls := "java/util/ArrayList", name := "get", desc := "(I)Ljava/lang/Object;" } : Jvm.MethodName) ({ cls := "java/util/ArrayList", name := "get", desc := "(I)Ljava/lang/Object;" } : Jvm.MethodName)) ∈ uw := uw_of (List.mem_append_right _ (List.mem_append_left _ (List.mem_of_getElem? (i := 37) rfl : _ ∈ tables_1_2))) (by rfl)
set_option maxRecDepth 4000 in
theorem u278 : (Jvm.Cond.code ({ cls := "java/util/ArrayList", name := "get", desc := "(I)Ljava/lang/Object;" } : Jvm.MethodName) prog_22_method_20_code (2 : Nat) (Option.some (Jvm.ClassFile.FieldType.object "java/lang/Object"))) ∈ uw := uw_of (List.mem_append_right _ (List.mem_append_left _ (List.mem_of_getElem? (i := 38) rfl : _ ∈ tables_1_2))) (by rfl)
set_option maxRecDepth 4000 in
theorem u279 : (Jvm.Cond.methodLink "java/util/ArrayList" (118 : Nat) ({ cls := "java/util/Objects", name := "checkIndex", desc := "(II)I" } : Jvm.MethodName)) ∈ uw := uw_of (List.mem_append_right _ (List.mem_append_left _ (List.mem_of_getElem? (i := 39) rfl : _ ∈ tables_1_2))) (by rfl)
set_option maxRecDepth 4000 in
theorem u280 : (Jvm.Cond.static ({ cls := "java/util/Objects", name := "checkIndex", desc := "(II)I" } : Jvm.MethodName)) ∈ uw := uw_of (List.mem_append_right _ (List.mem_append_left _ (List.mem_of_getElem? (i := 40) rfl : _ ∈ tables_1_2))) (by rfl)
set_option maxRecDepth 4000 in
theorem u281 : (Jvm.Cond.code ({ cls := "java/util/Objects", name := "checkIndex", desc := "(II)I" } : Jvm.MethodName) prog_26_method_17_code (2 : Nat) (Option.some Jvm.ClassFile.FieldType.int)) ∈ uw := uw_of (List.mem_append_right _ (List.mem_append_left _ (List.mem_of_getElem? (i := 41) rfl : _ ∈ tables_1_2))) (by rfl)
set_option maxRecDepth 4000 in
theorem u282 : (Jvm.Cond.methodLink "java/util/Objects" (105 : Nat) ({ cls := "jdk/internal/util/Preconditions", name := "checkIndex", desc := "(IILjava/util/function/BiFunction;)I" } : Jvm.MethodName)) ∈ uw := uw_of (List.mem_append_right _ (List.mem_append_left _ (List.mem_of_getElem? (i := 42) rfl : _ ∈ tables_1_2))) (by rfl)
set_option maxRecDepth 4000 in
theorem u283 : (Jvm.Cond.static ({ cls := "jdk/internal/util/Preconditions", name := "checkIndex", desc := "(IILjava/util/function/BiFunction;)I" } : Jvm.MethodName)) ∈ uw := uw_of (List.mem_append_right _ (List.mem_append_left _ (List.mem_of_getElem? (i := 43) rfl : _ ∈ tables_1_2))) (by rfl)
set_option maxRecDepth 4000 in
theorem u284 : (Jvm.Cond.code ({ cls := "jdk/internal/util/Preconditions", name := "checkIndex", desc := "(IILjava/util/function/BiFunction;)I" } : Jvm.MethodName) prog_30_method_11_code (3 : Nat) (Option.some Jvm.ClassFile.FieldType.int)) ∈ uw := uw_of (List.mem_append_right _ (List.mem_append_left _ (List.mem_of_getElem? (i := 44) rfl : _ ∈ tables_1_2))) (by rfl)
set_option maxRecDepth 4000 in
theorem u285 : (Jvm.Cond.methodLink "java/util/ArrayList" (123 : Nat) ({ cls := "java/util/ArrayList", name := "elementData", desc := "(I)Ljava/lang/Object;" } : Jvm.MethodName)) ∈ uw := uw_of (List.mem_append_right _ (List.mem_append_left _ (List.mem_of_getElem? (i := 45) rfl : _ ∈ tables_1_2))) (by rfl)
set_option maxRecDepth 4000 in
theorem u286 : (Jvm.Cond.instanceMethod ({ cls := "java/util/ArrayList", name := "elementData", desc := "(I)Ljava/lang/Object;" } : Jvm.MethodName)) ∈ uw := uw_of (List.mem_append_right _ (List.mem_append_left _ (List.mem_of_getElem? (i := 46) rfl : _ ∈ tables_1_2))) (by rfl)
set_option maxRecDepth 4000 in
theorem u287 : (Jvm.Cond.selects "java/util/ArrayList" ({ cls := "java/util/ArrayList", name := "elementData", desc := "(I)Ljava/lang/Object;" } : Jvm.MethodName) ({ cls := "java/util/ArrayList", name := "elementData", desc := "(I)Ljava/lang/Object;" } : Jvm.MethodName)) ∈ uw := uw_of (List.mem_append_right _ (List.mem_append_left _ (List.mem_of_getElem? (i := 47) rfl : _ ∈ tables_1_2))) (by rfl)
set_option maxRecDepth 4000 in
theorem u288 : (Jvm.Cond.code ({ cls := "java/util/ArrayList", name := "elementData", desc := "(I)Ljava/lang/Object;" } : Jvm.MethodName) prog_22_method_18_code (2 : Nat) (Option.some (Jvm.ClassFile.FieldType.object "java/lang/Object"))) ∈ uw := uw_of (List.mem_append_right _ (List.mem_append_left _ (List.mem_of_getElem? (i := 48) rfl : _ ∈ tables_1_2))) (by rfl)
set_option maxRecDepth 4000 in
theorem u289 : (Jvm.Cond.classLink "WeddingRegister" (85 : Nat) "WeddingRegister$Person") ∈ uw := uw_of (List.mem_append_right _ (List.mem_append_left _ (List.mem_of_getElem? (i := 49) rfl : _ ∈ tables_1_2))) (by rfl)
set_option maxRecDepth 4000 in
theorem u290 : (Jvm.Cond.instantiable "WeddingRegister$Person" (9 : Nat)) ∈ uw := uw_of (List.mem_append_right _ (List.mem_append_left _ (List.mem_of_getElem? (i := 50) rfl : _ ∈ tables_1_2))) (by rfl)
set_option maxRecDepth 4000 in
theorem u291 : (Jvm.Cond.methodLink "WeddingRegister" (99 : Nat) ({ cls := "WeddingRegister$Person", name := "<init>", desc := "(IIILWeddingRegister$Person;LWeddingRegister$Person;)V" } : Jvm.MethodName)) ∈ uw := uw_of (List.mem_append_right _ (List.mem_append_left _ (List.mem_of_getElem? (i := 51) rfl : _ ∈ tables_1_2))) (by rfl)
set_option maxRecDepth 4000 in
theorem u292 : (Jvm.Cond.instanceMethod ({ cls := "WeddingRegister$Person", name := "<init>", desc := "(IIILWeddingRegister$Person;LWeddingRegister$Person;)V" } : Jvm.MethodName)) ∈ uw := uw_of (List.mem_append_right _ (List.mem_append_left _ (List.mem_of_getElem? (i := 52) rfl : _ ∈ tables_1_2))) (by rfl)
set_option maxRecDepth 4000 in
theorem u293 : (Jvm.Cond.code ({ cls := "WeddingRegister$Person", name := "<init>", desc := "(IIILWeddingRegister$Person;LWeddingRegister$Person;)V" } : Jvm.MethodName) prog_11_method_1_code (6 : Nat) (Option.none : Option Jvm.ClassFile.FieldType)) ∈ uw := uw_of (List.mem_append_right _ (List.mem_append_left _ (List.mem_of_getElem? (i := 53) rfl : _ ∈ tables_1_2))) (by rfl)
set_option maxRecDepth 4000 in
theorem u294 : (Jvm.Cond.methodLink "WeddingRegister$Person" (3 : Nat) ({ cls := "java/lang/Object", name := "<init>", desc := "()V" } : Jvm.MethodName)) ∈ uw := uw_of (List.mem_append_right _ (List.mem_append_left _ (List.mem_of_getElem? (i := 54) rfl : _ ∈ tables_1_2))) (by rfl)
set_option maxRecDepth 4000 in
theorem u295 : (Jvm.Cond.classLink "WeddingRegister$Person" (35 : Nat) "java/util/ArrayList") ∈ uw := uw_of (List.mem_append_right _ (List.mem_append_left _ (List.mem_of_getElem? (i := 55) rfl : _ ∈ tables_1_2))) (by rfl)
set_option maxRecDepth 4000 in
theorem u296 : (Jvm.Cond.methodLink "WeddingRegister$Person" (37 : Nat) ({ cls := "java/util/ArrayList", name := "<init>", desc := "()V" } : Jvm.MethodName)) ∈ uw := uw_of (List.mem_append_right _ (List.mem_append_left _ (List.mem_of_getElem? (i := 56) rfl : _ ∈ tables_1_2))) (by rfl)
set_option maxRecDepth 4000 in
theorem u297 : (Jvm.Cond.fieldLink "WeddingRegister$Person" (9 : Nat) "WeddingRegister$Person" "number" "I") ∈ uw := uw_of (List.mem_append_right _ (List.mem_append_left _ (List.mem_of_getElem? (i := 57) rfl : _ ∈ tables_1_2))) (by rfl)
set_option maxRecDepth 4000 in
theorem u298 : (Jvm.Cond.fieldLink "WeddingRegister$Entry" (55 : Nat) "WeddingRegister$Person" "number" "I") ∈ uw := uw_of (List.mem_append_right _ (List.mem_append_left _ (List.mem_of_getElem? (i := 58) rfl : _ ∈ tables_1_2))) (by rfl)
set_option maxRecDepth 4000 in
theorem u299 : (Jvm.Cond.fieldLink "WeddingRegister" (257 : Nat) "WeddingRegister$Person" "number" "I") ∈ uw := uw_of (List.mem_append_right _ (List.mem_append_left _ (List.mem_of_getElem? (i := 59) rfl : _ ∈ tables_1_2))) (by rfl)
set_option maxRecDepth 4000 in
theorem u300 : (Jvm.Cond.fieldLink "WeddingRegister$Person" (16 : Nat) "WeddingRegister$Person" "land" "I") ∈ uw := uw_of (List.mem_append_right _ (List.mem_append_left _ (List.mem_of_getElem? (i := 60) rfl : _ ∈ tables_1_2))) (by rfl)
set_option maxRecDepth 4000 in
theorem u301 : (Jvm.Cond.fieldLink "WeddingRegister" (294 : Nat) "WeddingRegister$Person" "land" "I") ∈ uw := uw_of (List.mem_append_right _ (List.mem_append_left _ (List.mem_of_getElem? (i := 61) rfl : _ ∈ tables_1_2))) (by rfl)
set_option maxRecDepth 4000 in
theorem u302 : (Jvm.Cond.fieldLink "WeddingRegister$Person" (19 : Nat) "WeddingRegister$Person" "tongues" "I") ∈ uw := uw_of (List.mem_append_right _ (List.mem_append_left _ (List.mem_of_getElem? (i := 62) rfl : _ ∈ tables_1_2))) (by rfl)
set_option maxRecDepth 4000 in
theorem u303 : (Jvm.Cond.fieldLink "WeddingRegister" (357 : Nat) "WeddingRegister$Person" "tongues" "I") ∈ uw := uw_of (List.mem_append_right _ (List.mem_append_left _ (List.mem_of_getElem? (i := 63) rfl : _ ∈ tables_1_2))) (by rfl)
set_option maxRecDepth 4000 in
theorem u304 : (Jvm.Cond.fieldLink "WeddingRegister$Entry" (25 : Nat) "WeddingRegister$Person" "name" "I") ∈ uw := uw_of (List.mem_append_right _ (List.mem_append_left _ (List.mem_of_getElem? (i := 64) rfl : _ ∈ tables_1_2))) (by rfl)
set_option maxRecDepth 4000 in
theorem u305 : (Jvm.Cond.fieldLink "WeddingRegister$Person" (22 : Nat) "WeddingRegister$Person" "name" "I") ∈ uw := uw_of (List.mem_append_right _ (List.mem_append_left _ (List.mem_of_getElem? (i := 65) rfl : _ ∈ tables_1_2))) (by rfl)
set_option maxRecDepth 4000 in
theorem u306 : (Jvm.Cond.fieldLink "WeddingRegister$Person" (25 : Nat) "WeddingRegister$Person" "born" "I") ∈ uw := uw_of (List.mem_append_right _ (List.mem_append_left _ (List.mem_of_getElem? (i := 66) rfl : _ ∈ tables_1_2))) (by rfl)
set_option maxRecDepth 4000 in
theorem u307 : (Jvm.Cond.fieldLink "WeddingRegister" (311 : Nat) "WeddingRegister$Person" "born" "I") ∈ uw := uw_of (List.mem_append_right _ (List.mem_append_left _ (List.mem_of_getElem? (i := 67) rfl : _ ∈ tables_1_2))) (by rfl)
set_option maxRecDepth 4000 in
theorem u308 : (Jvm.Cond.fieldLink "WeddingRegister$Person" (28 : Nat) "WeddingRegister$Person" "father" "LWeddingRegister$Person;") ∈ uw := uw_of (List.mem_append_right _ (List.mem_append_left _ (List.mem_of_getElem? (i := 68) rfl : _ ∈ tables_1_2))) (by rfl)
set_option maxRecDepth 4000 in
theorem u309 : (Jvm.Cond.fieldLink "WeddingRegister" (279 : Nat) "WeddingRegister$Person" "father" "LWeddingRegister$Person;") ∈ uw := uw_of (List.mem_append_right _ (List.mem_append_left _ (List.mem_of_getElem? (i := 69) rfl : _ ∈ tables_1_2))) (by rfl)
set_option maxRecDepth 4000 in
theorem u310 : (Jvm.Cond.fieldLink "WeddingRegister$Person" (32 : Nat) "WeddingRegister$Person" "mother" "LWeddingRegister$Person;") ∈ uw := uw_of (List.mem_append_right _ (List.mem_append_left _ (List.mem_of_getElem? (i := 70) rfl : _ ∈ tables_1_2))) (by rfl)
set_option maxRecDepth 4000 in
theorem u311 : (Jvm.Cond.fieldLink "WeddingRegister" (285 : Nat) "WeddingRegister$Person" "mother" "LWeddingRegister$Person;") ∈ uw := uw_of (List.mem_append_right _ (List.mem_append_left _ (List.mem_of_getElem? (i := 71) rfl : _ ∈ tables_1_2))) (by rfl)
set_option maxRecDepth 4000 in
theorem u312 : (Jvm.Cond.fieldLink "WeddingRegister$Person" (38 : Nat) "WeddingRegister$Person" "papers" "Ljava/util/ArrayList;") ∈ uw := uw_of (List.mem_append_right _ (List.mem_append_left _ (List.mem_of_getElem? (i := 72) rfl : _ ∈ tables_1_2))) (by rfl)
set_option maxRecDepth 4000 in
theorem u313 : (Jvm.Cond.fieldLink "WeddingRegister" (106 : Nat) "WeddingRegister$Person" "papers" "Ljava/util/ArrayList;") ∈ uw := uw_of (List.mem_append_right _ (List.mem_append_left _ (List.mem_of_getElem? (i := 73) rfl : _ ∈ tables_1_2))) (by rfl)
set_option maxRecDepth 4000 in
theorem u314 : (Jvm.Cond.fieldLink "WeddingRegister$Person" (42 : Nat) "WeddingRegister$Person" "spouse" "LWeddingRegister$Person;") ∈ uw := uw_of (List.mem_append_right _ (List.mem_append_left _ (List.mem_of_getElem? (i := 74) rfl : _ ∈ tables_1_2))) (by rfl)
set_option maxRecDepth 4000 in
theorem u315 : (Jvm.Cond.fieldLink "WeddingRegister" (135 : Nat) "WeddingRegister$Person" "spouse" "LWeddingRegister$Person;") ∈ uw := uw_of (List.mem_append_right _ (List.mem_append_left _ (List.mem_of_getElem? (i := 75) rfl : _ ∈ tables_1_2))) (by rfl)
set_option maxRecDepth 4000 in
theorem u316 : (Jvm.Cond.laysFinal "WeddingRegister$Person" "WeddingRegister$Person" "number" "I") ∈ uw := uw_of (List.mem_append_right _ (List.mem_append_left _ (List.mem_of_getElem? (i := 76) rfl : _ ∈ tables_1_2))) (by rfl)
set_option maxRecDepth 4000 in
theorem u318 : (Jvm.Cond.laysFinal "WeddingRegister$Person" "WeddingRegister$Person" "land" "I") ∈ uw := uw_of (List.mem_append_right _ (List.mem_append_left _ (List.mem_of_getElem? (i := 78) rfl : _ ∈ tables_1_2))) (by rfl)
set_option maxRecDepth 4000 in
theorem u320 : (Jvm.Cond.laysFinal "WeddingRegister$Person" "WeddingRegister$Person" "tongues" "I") ∈ uw := uw_of (List.mem_append_right _ (List.mem_append_left _ (List.mem_of_getElem? (i := 80) rfl : _ ∈ tables_1_2))) (by rfl)
set_option maxRecDepth 4000 in
theorem u322 : (Jvm.Cond.laysFinal "WeddingRegister$Person" "WeddingRegister$Person" "name" "I") ∈ uw := uw_of (List.mem_append_right _ (List.mem_append_left _ (List.mem_of_getElem? (i := 82) rfl : _ ∈ tables_1_2))) (by rfl)
set_option maxRecDepth 4000 in
theorem u324 : (Jvm.Cond.laysFinal "WeddingRegister$Person" "WeddingRegister$Person" "born" "I") ∈ uw := uw_of (List.mem_append_right _ (List.mem_append_left _ (List.mem_of_getElem? (i := 84) rfl : _ ∈ tables_1_2))) (by rfl)
set_option maxRecDepth 4000 in
theorem u326 : (Jvm.Cond.laysFinal "WeddingRegister$Person" "WeddingRegister$Person" "father" "LWeddingRegister$Person;") ∈ uw := uw_of (List.mem_append_right _ (List.mem_append_left _ (List.mem_of_getElem? (i := 86) rfl : _ ∈ tables_1_2))) (by rfl)
set_option maxRecDepth 4000 in
theorem u328 : (Jvm.Cond.laysFinal "WeddingRegister$Person" "WeddingRegister$Person" "mother" "LWeddingRegister$Person;") ∈ uw := uw_of (List.mem_append_right _ (List.mem_append_left _ (List.mem_of_getElem? (i := 88) rfl : _ ∈ tables_1_2))) (by rfl)
set_option maxRecDepth 4000 in
theorem u330 : (Jvm.Cond.laysFinal "WeddingRegister$Person" "WeddingRegister$Person" "papers" "Ljava/util/ArrayList;") ∈ uw := uw_of (List.mem_append_right _ (List.mem_append_left _ (List.mem_of_getElem? (i := 90) rfl : _ ∈ tables_1_2))) (by rfl)
set_option maxRecDepth 4000 in
theorem u332 : (Jvm.Cond.lays "WeddingRegister$Person" "WeddingRegister$Person" "spouse" "LWeddingRegister$Person;") ∈ uw := uw_of (List.mem_append_right _ (List.mem_append_left _ (List.mem_of_getElem? (i := 92) rfl : _ ∈ tables_1_2))) (by rfl)
set_option maxRecDepth 4000 in
theorem u335 : (Jvm.Cond.methodLink "WeddingRegister" (102 : Nat) ({ cls := "java/util/ArrayList", name := "add", desc := "(Ljava/lang/Object;)Z" } : Jvm.MethodName)) ∈ uw := uw_of (List.mem_append_right _ (List.mem_append_left _ (List.mem_of_getElem? (i := 95) rfl : _ ∈ tables_1_2))) (by rfl)
set_option maxRecDepth 4000 in
theorem u336 : (Jvm.Cond.methodLink "WeddingRegisterLaw" (23 : Nat) ({ cls := "WeddingRegister", name := "paper", desc := "(III)Z" } : Jvm.MethodName)) ∈ uw := uw_of (List.mem_append_right _ (List.mem_append_left _ (List.mem_of_getElem? (i := 96) rfl : _ ∈ tables_1_2))) (by rfl)
set_option maxRecDepth 4000 in
theorem u337 : (Jvm.Cond.instanceMethod ({ cls := "WeddingRegister", name := "paper", desc := "(III)Z" } : Jvm.MethodName)) ∈ uw := uw_of (List.mem_append_right _ (List.mem_append_left _ (List.mem_of_getElem? (i := 97) rfl : _ ∈ tables_1_2))) (by rfl)
set_option maxRecDepth 4000 in
theorem u338 : (Jvm.Cond.selects "WeddingRegister" ({ cls := "WeddingRegister", name := "paper", desc := "(III)Z" } : Jvm.MethodName) ({ cls := "WeddingRegister", name := "paper", desc := "(III)Z" } : Jvm.MethodName)) ∈ uw := uw_of (List.mem_append_right _ (List.mem_append_left _ (List.mem_of_getElem? (i := 98) rfl : _ ∈ tables_1_2))) (by rfl)
set_option maxRecDepth 4000 in
theorem u339 : (Jvm.Cond.code ({ cls := "WeddingRegister", name := "paper", desc := "(III)Z" } : Jvm.MethodName) prog_1_method_4_code (5 : Nat) (Option.some Jvm.ClassFile.FieldType.boolean)) ∈ uw := uw_of (List.mem_append_right _ (List.mem_append_left _ (List.mem_of_getElem? (i := 99) rfl : _ ∈ tables_1_2))) (by rfl)
set_option maxRecDepth 4000 in
theorem u340 : (Jvm.Cond.classLink "WeddingRegister" (109 : Nat) "WeddingRegister$Paper") ∈ uw := uw_of (List.mem_append_right _ (List.mem_append_left _ (List.mem_of_getElem? (i := 100) rfl : _ ∈ tables_1_2))) (by rfl)
set_option maxRecDepth 4000 in
theorem u341 : (Jvm.Cond.instantiable "WeddingRegister$Paper" (2 : Nat)) ∈ uw := uw_of (List.mem_append_right _ (List.mem_append_left _ (List.mem_of_getElem? (i := 101) rfl : _ ∈ tables_1_2))) (by rfl)
set_option maxRecDepth 4000 in
theorem u342 : (Jvm.Cond.methodLink "WeddingRegister" (111 : Nat) ({ cls := "WeddingRegister$Paper", name := "<init>", desc := "(II)V" } : Jvm.MethodName)) ∈ uw := uw_of (List.mem_append_right _ (List.mem_append_left _ (List.mem_of_getElem? (i := 102) rfl : _ ∈ tables_1_2))) (by rfl)
set_option maxRecDepth 4000 in
theorem u343 : (Jvm.Cond.instanceMethod ({ cls := "WeddingRegister$Paper", name := "<init>", desc := "(II)V" } : Jvm.MethodName)) ∈ uw := uw_of (List.mem_append_right _ (List.mem_append_left _ (List.mem_of_getElem? (i := 103) rfl : _ ∈ tables_1_2))) (by rfl)
set_option maxRecDepth 4000 in
theorem u344 : (Jvm.Cond.code ({ cls := "WeddingRegister$Paper", name := "<init>", desc := "(II)V" } : Jvm.MethodName) prog_10_method_1_code (3 : Nat) (Option.none : Option Jvm.ClassFile.FieldType)) ∈ uw := uw_of (List.mem_append_right _ (List.mem_append_left _ (List.mem_of_getElem? (i := 104) rfl : _ ∈ tables_1_2))) (by rfl)
set_option maxRecDepth 4000 in
theorem u345 : (Jvm.Cond.methodLink "WeddingRegister$Paper" (1 : Nat) ({ cls := "java/lang/Object", name := "<init>", desc := "()V" } : Jvm.MethodName)) ∈ uw := uw_of (List.mem_append_right _ (List.mem_append_left _ (List.mem_of_getElem? (i := 105) rfl : _ ∈ tables_1_2))) (by rfl)
set_option maxRecDepth 4000 in
theorem u346 : (Jvm.Cond.fieldLink "WeddingRegister$Paper" (7 : Nat) "WeddingRegister$Paper" "kind" "I") ∈ uw := uw_of (List.mem_append_right _ (List.mem_append_left _ (List.mem_of_getElem? (i := 106) rfl : _ ∈ tables_1_2))) (by rfl)
set_option maxRecDepth 4000 in
theorem u347 : (Jvm.Cond.fieldLink "WeddingRegister$Person" (55 : Nat) "WeddingRegister$Paper" "kind" "I") ∈ uw := uw_of (List.mem_append_right _ (List.mem_append_left _ (List.mem_of_getElem? (i := 107) rfl : _ ∈ tables_1_2))) (by rfl)
set_option maxRecDepth 4000 in
theorem u348 : (Jvm.Cond.fieldLink "WeddingRegister$Paper" (13 : Nat) "WeddingRegister$Paper" "day" "I") ∈ uw := uw_of (List.mem_append_right _ (List.mem_append_left _ (List.mem_of_getElem? (i := 108) rfl : _ ∈ tables_1_2))) (by rfl)
set_option maxRecDepth 4000 in
theorem u349 : (Jvm.Cond.fieldLink "WeddingRegister$Person" (58 : Nat) "WeddingRegister$Paper" "day" "I") ∈ uw := uw_of (List.mem_append_right _ (List.mem_append_left _ (List.mem_of_getElem? (i := 109) rfl : _ ∈ tables_1_2))) (by rfl)
set_option maxRecDepth 4000 in
theorem u350 : (Jvm.Cond.laysFinal "WeddingRegister$Paper" "WeddingRegister$Paper" "kind" "I") ∈ uw := uw_of (List.mem_append_right _ (List.mem_append_left _ (List.mem_of_getElem? (i := 110) rfl : _ ∈ tables_1_2))) (by rfl)
set_option maxRecDepth 4000 in
theorem u352 : (Jvm.Cond.laysFinal "WeddingRegister$Paper" "WeddingRegister$Paper" "day" "I") ∈ uw := uw_of (List.mem_append_right _ (List.mem_append_left _ (List.mem_of_getElem? (i := 112) rfl : _ ∈ tables_1_2))) (by rfl)
set_option maxRecDepth 4000 in
theorem u355 : (Jvm.Cond.methodLink "WeddingRegisterLaw" (28 : Nat) ({ cls := "WeddingRegister", name := "feast", desc := "(I)Z" } : Jvm.MethodName)) ∈ uw := uw_of (List.mem_append_right _ (List.mem_append_left _ (List.mem_of_getElem? (i := 115) rfl : _ ∈ tables_1_2))) (by rfl)
set_option maxRecDepth 4000 in
theorem u356 : (Jvm.Cond.instanceMethod ({ cls := "WeddingRegister", name := "feast", desc := "(I)Z" } : Jvm.MethodName)) ∈ uw := uw_of (List.mem_append_right _ (List.mem_append_left _ (List.mem_of_getElem? (i := 116) rfl : _ ∈ tables_1_2))) (by rfl)
set_option maxRecDepth 4000 in
theorem u357 : (Jvm.Cond.selects "WeddingRegister" ({ cls := "WeddingRegister", name := "feast", desc := "(I)Z" } : Jvm.MethodName) ({ cls := "WeddingRegister", name := "feast", desc := "(I)Z" } : Jvm.MethodName)) ∈ uw := uw_of (List.mem_append_right _ (List.mem_append_left _ (List.mem_of_getElem? (i := 117) rfl : _ ∈ tables_1_2))) (by rfl)
set_option maxRecDepth 4000 in
theorem u358 : (Jvm.Cond.code ({ cls := "WeddingRegister", name := "feast", desc := "(I)Z" } : Jvm.MethodName) prog_1_method_5_code (2 : Nat) (Option.some Jvm.ClassFile.FieldType.boolean)) ∈ uw := uw_of (List.mem_append_right _ (List.mem_append_left _ (List.mem_of_getElem? (i := 118) rfl : _ ∈ tables_1_2))) (by rfl)
set_option maxRecDepth 4000 in
theorem u359 : (Jvm.Cond.methodLink "WeddingRegister" (114 : Nat) ({ cls := "WeddingRegister$Calendar", name := "isFeast", desc := "(I)Z" } : Jvm.MethodName)) ∈ uw := uw_of (List.mem_append_right _ (List.mem_append_left _ (List.mem_of_getElem? (i := 119) rfl : _ ∈ tables_1_2))) (by rfl)
set_option maxRecDepth 4000 in
theorem u360 : (Jvm.Cond.instanceMethod ({ cls := "WeddingRegister$Calendar", name := "isFeast", desc := "(I)Z" } : Jvm.MethodName)) ∈ uw := uw_of (List.mem_append_right _ (List.mem_append_left _ (List.mem_of_getElem? (i := 120) rfl : _ ∈ tables_1_2))) (by rfl)
set_option maxRecDepth 4000 in
theorem u361 : (Jvm.Cond.selects "WeddingRegister$Calendar" ({ cls := "WeddingRegister$Calendar", name := "isFeast", desc := "(I)Z" } : Jvm.MethodName) ({ cls := "WeddingRegister$Calendar", name := "isFeast", desc := "(I)Z" } : Jvm.MethodName)) ∈ uw := uw_of (List.mem_append_right _ (List.mem_append_left _ (List.mem_of_getElem? (i := 121) rfl : _ ∈ tables_1_2))) (by rfl)
set_option maxRecDepth 4000 in
theorem u362 : (Jvm.Cond.code ({ cls := "WeddingRegister$Calendar", name := "isFeast", desc := "(I)Z" } : Jvm.MethodName) prog_2_method_2_code (3 : Nat) (Option.some Jvm.ClassFile.FieldType.boolean)) ∈ uw := uw_of (List.mem_append_right _ (List.mem_append_left _ (List.mem_of_getElem? (i := 122) rfl : _ ∈ tables_1_2))) (by rfl)
set_option maxRecDepth 4000 in
theorem u363 : (Jvm.Cond.methodLink "WeddingRegister" (117 : Nat) ({ cls := "WeddingRegister$Calendar", name := "addFeast", desc := "(I)V" } : Jvm.MethodName)) ∈ uw := uw_of (List.mem_append_right _ (List.mem_append_left _ (List.mem_of_getElem? (i := 123) rfl : _ ∈ tables_1_2))) (by rfl)
set_option maxRecDepth 4000 in
theorem u364 : (Jvm.Cond.instanceMethod ({ cls := "WeddingRegister$Calendar", name := "addFeast", desc := "(I)V" } : Jvm.MethodName)) ∈ uw := uw_of (List.mem_append_right _ (List.mem_append_left _ (List.mem_of_getElem? (i := 124) rfl : _ ∈ tables_1_2))) (by rfl)
set_option maxRecDepth 4000 in
theorem u365 : (Jvm.Cond.selects "WeddingRegister$Calendar" ({ cls := "WeddingRegister$Calendar", name := "addFeast", desc := "(I)V" } : Jvm.MethodName) ({ cls := "WeddingRegister$Calendar", name := "addFeast", desc := "(I)V" } : Jvm.MethodName)) ∈ uw := uw_of (List.mem_append_right _ (List.mem_append_left _ (List.mem_of_getElem? (i := 125) rfl : _ ∈ tables_1_2))) (by rfl)
set_option maxRecDepth 4000 in
theorem u366 : (Jvm.Cond.code ({ cls := "WeddingRegister$Calendar", name := "addFeast", desc := "(I)V" } : Jvm.MethodName) prog_2_method_3_code (3 : Nat) (Option.none : Option Jvm.ClassFile.FieldType)) ∈ uw := uw_of (List.mem_append_right _ (List.mem_append_left _ (List.mem_of_getElem? (i := 126) rfl : _ ∈ tables_1_2))) (by rfl)
set_option maxRecDepth 4000 in
theorem u367 : (Jvm.Cond.methodLink "WeddingRegisterLaw" (33 : Nat) ({ cls := "WeddingRegister", name := "go", desc := "(I)I" } : Jvm.MethodName)) ∈ uw := uw_of (List.mem_append_right _ (List.mem_append_left _ (List.mem_of_getElem? (i := 127) rfl : _ ∈ tables_1_2))) (by rfl)
set_option maxRecDepth 4000 in
theorem u368 : (Jvm.Cond.instanceMethod ({ cls := "WeddingRegister", name := "go", desc := "(I)I" } : Jvm.MethodName)) ∈ uw := uw_of (List.mem_append_right _ (List.mem_append_left _ (List.mem_of_getElem? (i := 128) rfl : _ ∈ tables_1_2))) (by rfl)
set_option maxRecDepth 4000 in
theorem u369 : (Jvm.Cond.selects "WeddingRegister" ({ cls := "WeddingRegister", name := "go", desc := "(I)I" } : Jvm.MethodName) ({ cls := "WeddingRegister", name := "go", desc := "(I)I" } : Jvm.MethodName)) ∈ uw := uw_of (List.mem_append_right _ (List.mem_append_left _ (List.mem_of_getElem? (i := 129) rfl : _ ∈ tables_1_2))) (by rfl)
set_option maxRecDepth 4000 in
theorem u370 : (Jvm.Cond.code ({ cls := "WeddingRegister", name := "go", desc := "(I)I" } : Jvm.MethodName) prog_1_method_6_code (2 : Nat) (Option.some Jvm.ClassFile.FieldType.int)) ∈ uw := uw_of (List.mem_append_right _ (List.mem_append_left _ (List.mem_of_getElem? (i := 130) rfl : _ ∈ tables_1_2))) (by rfl)
set_option maxRecDepth 4000 in
theorem u371 : (Jvm.Cond.methodLink "WeddingRegister" (121 : Nat) ({ cls := "java/lang/Math", name := "min", desc := "(II)I" } : Jvm.MethodName)) ∈ uw := uw_of (List.mem_append_right _ (List.mem_append_left _ (List.mem_of_getElem? (i := 131) rfl : _ ∈ tables_1_2))) (by rfl)
set_option maxRecDepth 4000 in
theorem u372 : (Jvm.Cond.methodLink "WeddingRegisterLaw" (38 : Nat) ({ cls := "WeddingRegister", name := "kin", desc := "(II)I" } : Jvm.MethodName)) ∈ uw := uw_of (List.mem_append_right _ (List.mem_append_left _ (List.mem_of_getElem? (i := 132) rfl : _ ∈ tables_1_2))) (by rfl)
set_option maxRecDepth 4000 in
theorem u373 : (Jvm.Cond.instanceMethod ({ cls := "WeddingRegister", name := "kin", desc := "(II)I" } : Jvm.MethodName)) ∈ uw := uw_of (List.mem_append_right _ (List.mem_append_left _ (List.mem_of_getElem? (i := 133) rfl : _ ∈ tables_1_2))) (by rfl)
set_option maxRecDepth 4000 in
theorem u374 : (Jvm.Cond.selects "WeddingRegister" ({ cls := "WeddingRegister", name := "kin", desc := "(II)I" } : Jvm.MethodName) ({ cls := "WeddingRegister", name := "kin", desc := "(II)I" } : Jvm.MethodName)) ∈ uw := uw_of (List.mem_append_right _ (List.mem_append_left _ (List.mem_of_getElem? (i := 134) rfl : _ ∈ tables_1_2))) (by rfl)
set_option maxRecDepth 4000 in
theorem u375 : (Jvm.Cond.code ({ cls := "WeddingRegister", name := "kin", desc := "(II)I" } : Jvm.MethodName) prog_1_method_7_code (5 : Nat) (Option.some Jvm.ClassFile.FieldType.int)) ∈ uw := uw_of (List.mem_append_right _ (List.mem_append_left _ (List.mem_of_getElem? (i := 135) rfl : _ ∈ tables_1_2))) (by rfl)
set_option maxRecDepth 4000 in
theorem u376 : (Jvm.Cond.methodLink "WeddingRegister" (127 : Nat) ({ cls := "WeddingRegister", name := "kinOf", desc := "(LWeddingRegister$Person;LWeddingRegister$Person;)I" } : Jvm.MethodName)) ∈ uw := uw_of (List.mem_append_right _ (List.mem_append_left _ (List.mem_of_getElem? (i := 136) rfl : _ ∈ tables_1_2))) (by rfl)
set_option maxRecDepth 4000 in
theorem u377 : (Jvm.Cond.static ({ cls := "WeddingRegister", name := "kinOf", desc := "(LWeddingRegister$Person;LWeddingRegister$Person;)I" } : Jvm.MethodName)) ∈ uw := uw_of (List.mem_append_right _ (List.mem_append_left _ (List.mem_of_getElem? (i := 137) rfl : _ ∈ tables_1_2))) (by rfl)
set_option maxRecDepth 4000 in
theorem u378 : (Jvm.Cond.code ({ cls := "WeddingRegister", name := "kinOf", desc := "(LWeddingRegister$Person;LWeddingRegister$Person;)I" } : Jvm.MethodName) prog_1_method_35_code (2 : Nat) (Option.some Jvm.ClassFile.FieldType.int)) ∈ uw := uw_of (List.mem_append_right _ (List.mem_append_left _ (List.mem_of_getElem? (i := 138) rfl : _ ∈ tables_1_2))) (by rfl)
set_option maxRecDepth 4000 in
theorem u379 : (Jvm.Cond.methodLink "WeddingRegister" (269 : Nat) ({ cls := "WeddingRegister$Person", name := "isChildOf", desc := "(LWeddingRegister$Person;)Z" } : Jvm.MethodName)) ∈ uw := uw_of (List.mem_append_right _ (List.mem_append_left _ (List.mem_of_getElem? (i := 139) rfl : _ ∈ tables_1_2))) (by rfl)
set_option maxRecDepth 4000 in
theorem u380 : (Jvm.Cond.instanceMethod ({ cls := "WeddingRegister$Person", name := "isChildOf", desc := "(LWeddingRegister$Person;)Z" } : Jvm.MethodName)) ∈ uw := uw_of (List.mem_append_right _ (List.mem_append_left _ (List.mem_of_getElem? (i := 140) rfl : _ ∈ tables_1_2))) (by rfl)
set_option maxRecDepth 4000 in
theorem u381 : (Jvm.Cond.selects "WeddingRegister$Person" ({ cls := "WeddingRegister$Person", name := "isChildOf", desc := "(LWeddingRegister$Person;)Z" } : Jvm.MethodName) ({ cls := "WeddingRegister$Person", name := "isChildOf", desc := "(LWeddingRegister$Person;)Z" } : Jvm.MethodName)) ∈ uw := uw_of (List.mem_append_right _ (List.mem_append_left _ (List.mem_of_getElem? (i := 141) rfl : _ ∈ tables_1_2))) (by rfl)
set_option maxRecDepth 4000 in
theorem u382 : (Jvm.Cond.code ({ cls := "WeddingRegister$Person", name := "isChildOf", desc := "(LWeddingRegister$Person;)Z" } : Jvm.MethodName) prog_11_method_3_code (2 : Nat) (Option.some Jvm.ClassFile.FieldType.boolean)) ∈ uw := uw_of (List.mem_append_right _ (List.mem_append_left _ (List.mem_of_getElem? (i := 142) rfl : _ ∈ tables_1_2))) (by rfl)
set_option maxRecDepth 4000 in
theorem u383 : (Jvm.Cond.methodLink "WeddingRegister" (273 : Nat) ({ cls := "WeddingRegister$Person", name := "sharesParentWith", desc := "(LWeddingRegister$Person;)Z" } : Jvm.MethodName)) ∈ uw := uw_of (List.mem_append_right _ (List.mem_append_left _ (List.mem_of_getElem? (i := 143) rfl : _ ∈ tables_1_2))) (by rfl)
set_option maxRecDepth 4000 in
theorem u384 : (Jvm.Cond.instanceMethod ({ cls := "WeddingRegister$Person", name := "sharesParentWith", desc := "(LWeddingRegister$Person;)Z" } : Jvm.MethodName)) ∈ uw := uw_of (List.mem_append_right _ (List.mem_append_left _ (List.mem_of_getElem? (i := 144) rfl : _ ∈ tables_1_2))) (by rfl)
set_option maxRecDepth 4000 in
theorem u385 : (Jvm.Cond.selects "WeddingRegister$Person" ({ cls := "WeddingRegister$Person", name := "sharesParentWith", desc := "(LWeddingRegister$Person;)Z" } : Jvm.MethodName) ({ cls := "WeddingRegister$Person", name := "sharesParentWith", desc := "(LWeddingRegister$Person;)Z" } : Jvm.MethodName)) ∈ uw := uw_of (List.mem_append_right _ (List.mem_append_left _ (List.mem_of_getElem? (i := 145) rfl : _ ∈ tables_1_2))) (by rfl)
set_option maxRecDepth 4000 in
theorem u386 : (Jvm.Cond.code ({ cls := "WeddingRegister$Person", name := "sharesParentWith", desc := "(LWeddingRegister$Person;)Z" } : Jvm.MethodName) prog_11_method_4_code (2 : Nat) (Option.some Jvm.ClassFile.FieldType.boolean)) ∈ uw := uw_of (List.mem_append_right _ (List.mem_append_left _ (List.mem_of_getElem? (i := 146) rfl : _ ∈ tables_1_2))) (by rfl)
set_option maxRecDepth 4000 in
theorem u387 : (Jvm.Cond.methodLink "WeddingRegister" (276 : Nat) ({ cls := "WeddingRegister", name := "isNearByParent", desc := "(LWeddingRegister$Person;LWeddingRegister$Person;)Z" } : Jvm.MethodName)) ∈ uw := uw_of (List.mem_append_right _ (List.mem_append_left _ (List.mem_of_getElem? (i := 147) rfl : _ ∈ tables_1_2))) (by rfl)
set_option maxRecDepth 4000 in
theorem u388 : (Jvm.Cond.static ({ cls := "WeddingRegister", name := "isNearByParent", desc := "(LWeddingRegister$Person;LWeddingRegister$Person;)Z" } : Jvm.MethodName)) ∈ uw := uw_of (List.mem_append_right _ (List.mem_append_left _ (List.mem_of_getElem? (i := 148) rfl : _ ∈ tables_1_2))) (by rfl)
set_option maxRecDepth 4000 in
theorem u389 : (Jvm.Cond.code ({ cls := "WeddingRegister", name := "isNearByParent", desc := "(LWeddingRegister$Person;LWeddingRegister$Person;)Z" } : Jvm.MethodName) prog_1_method_36_code (2 : Nat) (Option.some Jvm.ClassFile.FieldType.boolean)) ∈ uw := uw_of (List.mem_append_right _ (List.mem_append_left _ (List.mem_of_getElem? (i := 149) rfl : _ ∈ tables_1_2))) (by rfl)
set_option maxRecDepth 4000 in
theorem u390 : (Jvm.Cond.methodLink "WeddingRegister" (288 : Nat) ({ cls := "WeddingRegister", name := "isNearAs", desc := "(LWeddingRegister$Person;LWeddingRegister$Person;)Z" } : Jvm.MethodName)) ∈ uw := uw_of (List.mem_append_right _ (List.mem_append_left _ (List.mem_of_getElem? (i := 150) rfl : _ ∈ tables_1_2))) (by rfl)
set_option maxRecDepth 4000 in
theorem u391 : (Jvm.Cond.static ({ cls := "WeddingRegister", name := "isNearAs", desc := "(LWeddingRegister$Person;LWeddingRegister$Person;)Z" } : Jvm.MethodName)) ∈ uw := uw_of (List.mem_append_right _ (List.mem_append_left _ (List.mem_of_getElem? (i := 151) rfl : _ ∈ tables_1_2))) (by rfl)
set_option maxRecDepth 4000 in
theorem u392 : (Jvm.Cond.code ({ cls := "WeddingRegister", name := "isNearAs", desc := "(LWeddingRegister$Person;LWeddingRegister$Person;)Z" } : Jvm.MethodName) prog_1_method_37_code (2 : Nat) (Option.some Jvm.ClassFile.FieldType.boolean)) ∈ uw := uw_of (List.mem_append_right _ (List.mem_append_left _ (List.mem_of_getElem? (i := 152) rfl : _ ∈ tables_1_2))) (by rfl)
set_option maxRecDepth 4000 in
theorem u393 : (Jvm.Cond.methodLink "WeddingRegister" (282 : Nat) ({ cls := "WeddingRegister", name := "isCousinBy", desc := "(LWeddingRegister$Person;LWeddingRegister$Person;)Z" } : Jvm.MethodName)) ∈ uw := uw_of (List.mem_append_right _ (List.mem_append_left _ (List.mem_of_getElem? (i := 153) rfl : _ ∈ tables_1_2))) (by rfl)
set_option maxRecDepth 4000 in
theorem u394 : (Jvm.Cond.static ({ cls := "WeddingRegister", name := "isCousinBy", desc := "(LWeddingRegister$Person;LWeddingRegister$Person;)Z" } : Jvm.MethodName)) ∈ uw := uw_of (List.mem_append_right _ (List.mem_append_left _ (List.mem_of_getElem? (i := 154) rfl : _ ∈ tables_1_2))) (by rfl)
set_option maxRecDepth 4000 in
theorem u395 : (Jvm.Cond.code ({ cls := "WeddingRegister", name := "isCousinBy", desc := "(LWeddingRegister$Person;LWeddingRegister$Person;)Z" } : Jvm.MethodName) prog_1_method_38_code (2 : Nat) (Option.some Jvm.ClassFile.FieldType.boolean)) ∈ uw := uw_of (List.mem_append_right _ (List.mem_append_left _ (List.mem_of_getElem? (i := 155) rfl : _ ∈ tables_1_2))) (by rfl)
set_option maxRecDepth 4000 in
theorem u396 : (Jvm.Cond.methodLink "WeddingRegister" (291 : Nat) ({ cls := "WeddingRegister", name := "sharesParent", desc := "(LWeddingRegister$Person;LWeddingRegister$Person;)Z" } : Jvm.MethodName)) ∈ uw := uw_of (List.mem_append_right _ (List.mem_append_left _ (List.mem_of_getElem? (i := 156) rfl : _ ∈ tables_1_2))) (by rfl)
set_option maxRecDepth 4000 in
theorem u397 : (Jvm.Cond.static ({ cls := "WeddingRegister", name := "sharesParent", desc := "(LWeddingRegister$Person;LWeddingRegister$Person;)Z" } : Jvm.MethodName)) ∈ uw := uw_of (List.mem_append_right _ (List.mem_append_left _ (List.mem_of_getElem? (i := 157) rfl : _ ∈ tables_1_2))) (by rfl)
set_option maxRecDepth 4000 in
theorem u398 : (Jvm.Cond.code ({ cls := "WeddingRegister", name := "sharesParent", desc := "(LWeddingRegister$Person;LWeddingRegister$Person;)Z" } : Jvm.MethodName) prog_1_method_39_code (2 : Nat) (Option.some Jvm.ClassFile.FieldType.boolean)) ∈ uw := uw_of (List.mem_append_right _ (List.mem_append_left _ (List.mem_of_getElem? (i := 158) rfl : _ ∈ tables_1_2))) (by rfl)
set_option maxRecDepth 4000 in
theorem u399 : (Jvm.Cond.methodLink "WeddingRegisterLaw" (43 : Nat) ({ cls := "WeddingRegister", name := "against", desc := "(III)I" } : Jvm.MethodName)) ∈ uw := uw_of (List.mem_append_right _ (List.mem_append_left _ (List.mem_of_getElem? (i := 159) rfl : _ ∈ tables_1_2))) (by rfl)
set_option maxRecDepth 4000 in
theorem u400 : (Jvm.Cond.instanceMethod ({ cls := "WeddingRegister", name := "against", desc := "(III)I" } : Jvm.MethodName)) ∈ uw := uw_of (List.mem_append_right _ (List.mem_append_left _ (List.mem_of_getElem? (i := 160) rfl : _ ∈ tables_1_2))) (by rfl)
set_option maxRecDepth 4000 in
theorem u401 : (Jvm.Cond.selects "WeddingRegister" ({ cls := "WeddingRegister", name := "against", desc := "(III)I" } : Jvm.MethodName) ({ cls := "WeddingRegister", name := "against", desc := "(III)I" } : Jvm.MethodName)) ∈ uw := uw_of (List.mem_append_right _ (List.mem_append_left _ (List.mem_of_getElem? (i := 161) rfl : _ ∈ tables_1_2))) (by rfl)
set_option maxRecDepth 4000 in
theorem u402 : (Jvm.Cond.code ({ cls := "WeddingRegister", name := "against", desc := "(III)I" } : Jvm.MethodName) prog_1_method_8_code (6 : Nat) (Option.some Jvm.ClassFile.FieldType.int)) ∈ uw := uw_of (List.mem_append_right _ (List.mem_append_left _ (List.mem_of_getElem? (i := 162) rfl : _ ∈ tables_1_2))) (by rfl)
set_option maxRecDepth 4000 in
theorem u403 : (Jvm.Cond.methodLink "WeddingRegister" (131 : Nat) ({ cls := "WeddingRegister", name := "barToCouple", desc := "(LWeddingRegister$Person;LWeddingRegister$Person;I)I" } : Jvm.MethodName)) ∈ uw := uw_of (List.mem_append_right _ (List.mem_append_left _ (List.mem_of_getElem? (i := 163) rfl : _ ∈ tables_1_2))) (by rfl)
set_option maxRecDepth 4000 in
theorem u405 : (Jvm.Cond.instanceMethod ({ cls := "WeddingRegister", name := "barToCouple", desc := "(LWeddingRegister$Person;LWeddingRegister$Person;I)I" } : Jvm.MethodName)) ∈ uw := uw_of (List.mem_append_right _ (List.mem_append_left _ (List.mem_of_getElem? (i := 165) rfl : _ ∈ tables_1_2))) (by rfl)
set_option maxRecDepth 4000 in
theorem u406 : (Jvm.Cond.code ({ cls := "WeddingRegister", name := "barToCouple", desc := "(LWeddingRegister$Person;LWeddingRegister$Person;I)I" } : Jvm.MethodName) prog_1_method_40_code (7 : Nat) (Option.some Jvm.ClassFile.FieldType.int)) ∈ uw := uw_of (List.mem_append_right _ (List.mem_append_left _ (List.mem_of_getElem? (i := 166) rfl : _ ∈ tables_1_2))) (by rfl)
set_option maxRecDepth 4000 in
theorem u407 : (Jvm.Cond.methodLink "WeddingRegister" (297 : Nat) ({ cls := "WeddingRegister$LawBook", name := "inForce", desc := "(II)LWeddingRegister$Law;" } : Jvm.MethodName)) ∈ uw := uw_of (List.mem_append_right _ (List.mem_append_left _ (List.mem_of_getElem? (i := 167) rfl : _ ∈ tables_1_2))) (by rfl)
set_option maxRecDepth 4000 in
theorem u408 : (Jvm.Cond.instanceMethod ({ cls := "WeddingRegister$LawBook", name := "inForce", desc := "(II)LWeddingRegister$Law;" } : Jvm.MethodName)) ∈ uw := uw_of (List.mem_append_right _ (List.mem_append_left _ (List.mem_of_getElem? (i := 168) rfl : _ ∈ tables_1_2))) (by rfl)
set_option maxRecDepth 4000 in
theorem u409 : (Jvm.Cond.selects "WeddingRegister$LawBook" ({ cls := "WeddingRegister$LawBook", name := "inForce", desc := "(II)LWeddingRegister$Law;" } : Jvm.MethodName) ({ cls := "WeddingRegister$LawBook", name := "inForce", desc := "(II)LWeddingRegister$Law;" } : Jvm.MethodName)) ∈ uw := uw_of (List.mem_append_right _ (List.mem_append_left _ (List.mem_of_getElem? (i := 169) rfl : _ ∈ tables_1_2))) (by rfl)
set_option maxRecDepth 4000 in
theorem u410 : (Jvm.Cond.code ({ cls := "WeddingRegister$LawBook", name := "inForce", desc := "(II)LWeddingRegister$Law;" } : Jvm.MethodName) prog_7_method_4_code (6 : Nat) (Option.some (Jvm.ClassFile.FieldType.object "WeddingRegister$Law"))) ∈ uw := uw_of (List.mem_append_right _ (List.mem_append_left _ (List.mem_of_getElem? (i := 170) rfl : _ ∈ tables_1_2))) (by rfl)
set_option maxRecDepth 4000 in
theorem u411 : (Jvm.Cond.methodLink "WeddingRegister$LawBook" (35 : Nat) ({ cls := "java/util/ArrayList", name := "get", desc := "(I)Ljava/lang/Object;" } : Jvm.MethodName)) ∈ uw := uw_of (List.mem_append_right _ (List.mem_append_left _ (List.mem_of_getElem? (i := 171) rfl : _ ∈ tables_1_2))) (by rfl)
set_option maxRecDepth 4000 in
theorem u412 : (Jvm.Cond.methodLink "WeddingRegister" (301 : Nat) ({ cls := "WeddingRegister", name := "isTooYoung", desc := "(LWeddingRegister$Person;LWeddingRegister$Law;I)Z" } : Jvm.MethodName)) ∈ uw := uw_of (List.mem_append_right _ (List.mem_append_left _ (List.mem_of_getElem? (i := 172) rfl : _ ∈ tables_1_2))) (by rfl)
set_option maxRecDepth 4000 in
theorem u413 : (Jvm.Cond.static ({ cls := "WeddingRegister", name := "isTooYoung", desc := "(LWeddingRegister$Person;LWeddingRegister$Law;I)Z" } : Jvm.MethodName)) ∈ uw := uw_of (List.mem_append_right _ (List.mem_append_left _ (List.mem_of_getElem? (i := 173) rfl : _ ∈ tables_1_2))) (by rfl)
set_option maxRecDepth 4000 in
theorem u414 : (Jvm.Cond.code ({ cls := "WeddingRegister", name := "isTooYoung", desc := "(LWeddingRegister$Person;LWeddingRegister$Law;I)Z" } : Jvm.MethodName) prog_1_method_41_code (3 : Nat) (Option.some Jvm.ClassFile.FieldType.boolean)) ∈ uw := uw_of (List.mem_append_right _ (List.mem_append_left _ (List.mem_of_getElem? (i := 174) rfl : _ ∈ tables_1_2))) (by rfl)
set_option maxRecDepth 4000 in
theorem u415 : (Jvm.Cond.methodLink "WeddingRegister" (308 : Nat) ({ cls := "WeddingRegister", name := "lacksPaper", desc := "(LWeddingRegister$Person;LWeddingRegister$Law;I)Z" } : Jvm.MethodName)) ∈ uw := uw_of (List.mem_append_right _ (List.mem_append_left _ (List.mem_of_getElem? (i := 175) rfl : _ ∈ tables_1_2))) (by rfl)
set_option maxRecDepth 4000 in
theorem u416 : (Jvm.Cond.static ({ cls := "WeddingRegister", name := "lacksPaper", desc := "(LWeddingRegister$Person;LWeddingRegister$Law;I)Z" } : Jvm.MethodName)) ∈ uw := uw_of (List.mem_append_right _ (List.mem_append_left _ (List.mem_of_getElem? (i := 176) rfl : _ ∈ tables_1_2))) (by rfl)
set_option maxRecDepth 4000 in
theorem u417 : (Jvm.Cond.code ({ cls := "WeddingRegister", name := "lacksPaper", desc := "(LWeddingRegister$Person;LWeddingRegister$Law;I)Z" } : Jvm.MethodName) prog_1_method_42_code (4 : Nat) (Option.some Jvm.ClassFile.FieldType.boolean)) ∈ uw := uw_of (List.mem_append_right _ (List.mem_append_left _ (List.mem_of_getElem? (i := 177) rfl : _ ∈ tables_1_2))) (by rfl)
set_option maxRecDepth 4000 in
theorem u418 : (Jvm.Cond.methodLink "WeddingRegister" (317 : Nat) ({ cls := "WeddingRegister$Law", name := "wantsPaper", desc := "(I)Z" } : Jvm.MethodName)) ∈ uw := uw_of (List.mem_append_right _ (List.mem_append_left _ (List.mem_of_getElem? (i := 178) rfl : _ ∈ tables_1_2))) (by rfl)
set_option maxRecDepth 4000 in
theorem u419 : (Jvm.Cond.instanceMethod ({ cls := "WeddingRegister$Law", name := "wantsPaper", desc := "(I)Z" } : Jvm.MethodName)) ∈ uw := uw_of (List.mem_append_right _ (List.mem_append_left _ (List.mem_of_getElem? (i := 179) rfl : _ ∈ tables_1_2))) (by rfl)
set_option maxRecDepth 4000 in
theorem u420 : (Jvm.Cond.selects "WeddingRegister$Law" ({ cls := "WeddingRegister$Law", name := "wantsPaper", desc := "(I)Z" } : Jvm.MethodName) ({ cls := "WeddingRegister$Law", name := "wantsPaper", desc := "(I)Z" } : Jvm.MethodName)) ∈ uw := uw_of (List.mem_append_right _ (List.mem_append_left _ (List.mem_of_getElem? (i := 180) rfl : _ ∈ tables_1_2))) (by rfl)
set_option maxRecDepth 4000 in
theorem u421 : (Jvm.Cond.code ({ cls := "WeddingRegister$Law", name := "wantsPaper", desc := "(I)Z" } : Jvm.MethodName) prog_6_method_3_code (2 : Nat) (Option.some Jvm.ClassFile.FieldType.boolean)) ∈ uw := uw_of (List.mem_append_right _ (List.mem_append_left _ (List.mem_of_getElem? (i := 181) rfl : _ ∈ tables_1_2))) (by rfl)
set_option maxRecDepth 4000 in
theorem u422 : (Jvm.Cond.methodLink "WeddingRegister" (323 : Nat) ({ cls := "WeddingRegister$Person", name := "hasPaper", desc := "(III)Z" } : Jvm.MethodName)) ∈ uw := uw_of (List.mem_append_right _ (List.mem_append_left _ (List.mem_of_getElem? (i := 182) rfl : _ ∈ tables_1_2))) (by rfl)
set_option maxRecDepth 4000 in
theorem u423 : (Jvm.Cond.instanceMethod ({ cls := "WeddingRegister$Person", name := "hasPaper", desc := "(III)Z" } : Jvm.MethodName)) ∈ uw := uw_of (List.mem_append_right _ (List.mem_append_left _ (List.mem_of_getElem? (i := 183) rfl : _ ∈ tables_1_2))) (by rfl)
set_option maxRecDepth 4000 in
theorem u424 : (Jvm.Cond.selects "WeddingRegister$Person" ({ cls := "WeddingRegister$Person", name := "hasPaper", desc := "(III)Z" } : Jvm.MethodName) ({ cls := "WeddingRegister$Person", name := "hasPaper", desc := "(III)Z" } : Jvm.MethodName)) ∈ uw := uw_of (List.mem_append_right _ (List.mem_append_left _ (List.mem_of_getElem? (i := 184) rfl : _ ∈ tables_1_2))) (by rfl)
set_option maxRecDepth 4000 in
theorem u425 : (Jvm.Cond.code ({ cls := "WeddingRegister$Person", name := "hasPaper", desc := "(III)Z" } : Jvm.MethodName) prog_11_method_5_code (6 : Nat) (Option.some Jvm.ClassFile.FieldType.boolean)) ∈ uw := uw_of (List.mem_append_right _ (List.mem_append_left _ (List.mem_of_getElem? (i := 185) rfl : _ ∈ tables_1_2))) (by rfl)
set_option maxRecDepth 4000 in
theorem u426 : (Jvm.Cond.methodLink "WeddingRegister$Person" (45 : Nat) ({ cls := "java/util/ArrayList", name := "size", desc := "()I" } : Jvm.MethodName)) ∈ uw := uw_of (List.mem_append_right _ (List.mem_append_left _ (List.mem_of_getElem? (i := 186) rfl : _ ∈ tables_1_2))) (by rfl)
set_option maxRecDepth 4000 in
theorem u427 : (Jvm.Cond.methodLink "WeddingRegister$Person" (49 : Nat) ({ cls := "java/util/ArrayList", name := "get", desc := "(I)Ljava/lang/Object;" } : Jvm.MethodName)) ∈ uw := uw_of (List.mem_append_right _ (List.mem_append_left _ (List.mem_of_getElem? (i := 187) rfl : _ ∈ tables_1_2))) (by rfl)
set_option maxRecDepth 4000 in
theorem u428 : (Jvm.Cond.classLink "WeddingRegister$Person" (53 : Nat) "WeddingRegister$Paper") ∈ uw := uw_of (List.mem_append_right _ (List.mem_append_left _ (List.mem_of_getElem? (i := 188) rfl : _ ∈ tables_1_2))) (by rfl)
set_option maxRecDepth 4000 in
theorem u429 : (Jvm.Cond.methodLink "WeddingRegisterLaw" (48 : Nat) ({ cls := "WeddingRegister", name := "post", desc := "(II)I" } : Jvm.MethodName)) ∈ uw := uw_of (List.mem_append_right _ (List.mem_append_left _ (List.mem_of_getElem? (i := 189) rfl : _ ∈ tables_1_2))) (by rfl)
set_option maxRecDepth 4000 in
theorem u430 : (Jvm.Cond.instanceMethod ({ cls := "WeddingRegister", name := "post", desc := "(II)I" } : Jvm.MethodName)) ∈ uw := uw_of (List.mem_append_right _ (List.mem_append_left _ (List.mem_of_getElem? (i := 190) rfl : _ ∈ tables_1_2))) (by rfl)
set_option maxRecDepth 4000 in
theorem u431 : (Jvm.Cond.selects "WeddingRegister" ({ cls := "WeddingRegister", name := "post", desc := "(II)I" } : Jvm.MethodName) ({ cls := "WeddingRegister", name := "post", desc := "(II)I" } : Jvm.MethodName)) ∈ uw := uw_of (List.mem_append_right _ (List.mem_append_left _ (List.mem_of_getElem? (i := 191) rfl : _ ∈ tables_1_2))) (by rfl)
set_option maxRecDepth 4000 in
theorem u432 : (Jvm.Cond.code ({ cls := "WeddingRegister", name := "post", desc := "(II)I" } : Jvm.MethodName) prog_1_method_9_code (6 : Nat) (Option.some Jvm.ClassFile.FieldType.int)) ∈ uw := uw_of (List.mem_append_right _ (List.mem_append_left _ (List.mem_of_getElem? (i := 192) rfl : _ ∈ tables_1_2))) (by rfl)
set_option maxRecDepth 4000 in
theorem u433 : (Jvm.Cond.methodLink "WeddingRegister" (139 : Nat) ({ cls := "WeddingRegister", name := "hasOpenNotice", desc := "(LWeddingRegister$Person;LWeddingRegister$Person;)Z" } : Jvm.MethodName)) ∈ uw := uw_of (List.mem_append_right _ (List.mem_append_left _ (List.mem_of_getElem? (i := 193) rfl : _ ∈ tables_1_2))) (by rfl)
set_option maxRecDepth 4000 in
theorem u435 : (Jvm.Cond.instanceMethod ({ cls := "WeddingRegister", name := "hasOpenNotice", desc := "(LWeddingRegister$Person;LWeddingRegister$Person;)Z" } : Jvm.MethodName)) ∈ uw := uw_of (List.mem_append_right _ (List.mem_append_left _ (List.mem_of_getElem? (i := 195) rfl : _ ∈ tables_1_2))) (by rfl)
set_option maxRecDepth 4000 in
theorem u436 : (Jvm.Cond.code ({ cls := "WeddingRegister", name := "hasOpenNotice", desc := "(LWeddingRegister$Person;LWeddingRegister$Person;)Z" } : Jvm.MethodName) prog_1_method_34_code (5 : Nat) (Option.some Jvm.ClassFile.FieldType.boolean)) ∈ uw := uw_of (List.mem_append_right _ (List.mem_append_left _ (List.mem_of_getElem? (i := 196) rfl : _ ∈ tables_1_2))) (by rfl)
set_option maxRecDepth 4000 in
theorem u437 : (Jvm.Cond.classLink "WeddingRegister" (143 : Nat) "WeddingRegister$Notice") ∈ uw := uw_of (List.mem_append_right _ (List.mem_append_left _ (List.mem_of_getElem? (i := 197) rfl : _ ∈ tables_1_2))) (by rfl)
set_option maxRecDepth 4000 in
theorem u438 : (Jvm.Cond.methodLink "WeddingRegister" (266 : Nat) ({ cls := "WeddingRegister$Notice", name := "isOf", desc := "(LWeddingRegister$Person;LWeddingRegister$Person;)Z" } : Jvm.MethodName)) ∈ uw := uw_of (List.mem_append_right _ (List.mem_append_left _ (List.mem_of_getElem? (i := 198) rfl : _ ∈ tables_1_2))) (by rfl)
set_option maxRecDepth 4000 in
theorem u439 : (Jvm.Cond.instanceMethod ({ cls := "WeddingRegister$Notice", name := "isOf", desc := "(LWeddingRegister$Person;LWeddingRegister$Person;)Z" } : Jvm.MethodName)) ∈ uw := uw_of (List.mem_append_right _ (List.mem_append_left _ (List.mem_of_getElem? (i := 199) rfl : _ ∈ tables_1_2))) (by rfl)
set_option maxRecDepth 4000 in
theorem u440 : (Jvm.Cond.selects "WeddingRegister$Notice" ({ cls := "WeddingRegister$Notice", name := "isOf", desc := "(LWeddingRegister$Person;LWeddingRegister$Person;)Z" } : Jvm.MethodName) ({ cls := "WeddingRegister$Notice", name := "isOf", desc := "(LWeddingRegister$Person;LWeddingRegister$Person;)Z" } : Jvm.MethodName)) ∈ uw := uw_of (List.mem_append_right _ (List.mem_append_left _ (List.mem_of_getElem? (i := 200) rfl : _ ∈ tables_1_2))) (by rfl)
set_option maxRecDepth 4000 in
theorem u441 : (Jvm.Cond.code ({ cls := "WeddingRegister$Notice", name := "isOf", desc := "(LWeddingRegister$Person;LWeddingRegister$Person;)Z" } : Jvm.MethodName) prog_8_method_2_code (3 : Nat) (Option.some Jvm.ClassFile.FieldType.boolean)) ∈ uw := uw_of (List.mem_append_right _ (List.mem_append_left _ (List.mem_of_getElem? (i := 201) rfl : _ ∈ tables_1_2))) (by rfl)
set_option maxRecDepth 4000 in
theorem u442 : (Jvm.Cond.instantiable "WeddingRegister$Notice" (8 : Nat)) ∈ uw := uw_of (List.mem_append_right _ (List.mem_append_left _ (List.mem_of_getElem? (i := 202) rfl : _ ∈ tables_1_2))) (by rfl)
set_option maxRecDepth 4000 in
theorem u443 : (Jvm.Cond.methodLink "WeddingRegister" (145 : Nat) ({ cls := "WeddingRegister$Notice", name := "<init>", desc := "(ILWeddingRegister$Person;LWeddingRegister$Person;I)V" } : Jvm.MethodName)) ∈ uw := uw_of (List.mem_append_right _ (List.mem_append_left _ (List.mem_of_getElem? (i := 203) rfl : _ ∈ tables_1_2))) (by rfl)
set_option maxRecDepth 4000 in
theorem u444 : (Jvm.Cond.instanceMethod ({ cls := "WeddingRegister$Notice", name := "<init>", desc := "(ILWeddingRegister$Person;LWeddingRegister$Person;I)V" } : Jvm.MethodName)) ∈ uw := uw_of (List.mem_append_right _ (List.mem_append_left _ (List.mem_of_getElem? (i := 204) rfl : _ ∈ tables_1_2))) (by rfl)
set_option maxRecDepth 4000 in
theorem u445 : (Jvm.Cond.code ({ cls := "WeddingRegister$Notice", name := "<init>", desc := "(ILWeddingRegister$Person;LWeddingRegister$Person;I)V" } : Jvm.MethodName) prog_8_method_1_code (5 : Nat) (Option.none : Option Jvm.ClassFile.FieldType)) ∈ uw := uw_of (List.mem_append_right _ (List.mem_append_left _ (List.mem_of_getElem? (i := 205) rfl : _ ∈ tables_1_2))) (by rfl)
set_option maxRecDepth 4000 in
theorem u446 : (Jvm.Cond.methodLink "WeddingRegister$Notice" (3 : Nat) ({ cls := "java/lang/Object", name := "<init>", desc := "()V" } : Jvm.MethodName)) ∈ uw := uw_of (List.mem_append_right _ (List.mem_append_left _ (List.mem_of_getElem? (i := 206) rfl : _ ∈ tables_1_2))) (by rfl)
set_option maxRecDepth 4000 in
theorem u447 : (Jvm.Cond.fieldLink "WeddingRegister$Notice" (9 : Nat) "WeddingRegister$Notice" "number" "I") ∈ uw := uw_of (List.mem_append_right _ (List.mem_append_left _ (List.mem_of_getElem? (i := 207) rfl : _ ∈ tables_1_2))) (by rfl)
set_option maxRecDepth 4000 in
theorem u448 : (Jvm.Cond.fieldLink "WeddingRegister$Entry" (58 : Nat) "WeddingRegister$Notice" "number" "I") ∈ uw := uw_of (List.mem_append_right _ (List.mem_append_left _ (List.mem_of_getElem? (i := 208) rfl : _ ∈ tables_1_2))) (by rfl)
set_option maxRecDepth 4000 in
theorem u449 : (Jvm.Cond.fieldLink "WeddingRegister$Notice" (15 : Nat) "WeddingRegister$Notice" "first" "LWeddingRegister$Person;") ∈ uw := uw_of (List.mem_append_right _ (List.mem_append_left _ (List.mem_of_getElem? (i := 209) rfl : _ ∈ tables_1_2))) (by rfl)
set_option maxRecDepth 4000 in
theorem u450 : (Jvm.Cond.fieldLink "WeddingRegister$Entry" (19 : Nat) "WeddingRegister$Notice" "first" "LWeddingRegister$Person;") ∈ uw := uw_of (List.mem_append_right _ (List.mem_append_left _ (List.mem_of_getElem? (i := 210) rfl : _ ∈ tables_1_2))) (by rfl)
set_option maxRecDepth 4000 in
theorem u451 : (Jvm.Cond.fieldLink "WeddingRegister" (212 : Nat) "WeddingRegister$Notice" "first" "LWeddingRegister$Person;") ∈ uw := uw_of (List.mem_append_right _ (List.mem_append_left _ (List.mem_of_getElem? (i := 211) rfl : _ ∈ tables_1_2))) (by rfl)
set_option maxRecDepth 4000 in
theorem u452 : (Jvm.Cond.fieldLink "WeddingRegister$Notice" (19 : Nat) "WeddingRegister$Notice" "second" "LWeddingRegister$Person;") ∈ uw := uw_of (List.mem_append_right _ (List.mem_append_left _ (List.mem_of_getElem? (i := 212) rfl : _ ∈ tables_1_2))) (by rfl)
set_option maxRecDepth 4000 in
theorem u453 : (Jvm.Cond.fieldLink "WeddingRegister$Entry" (33 : Nat) "WeddingRegister$Notice" "second" "LWeddingRegister$Person;") ∈ uw := uw_of (List.mem_append_right _ (List.mem_append_left _ (List.mem_of_getElem? (i := 213) rfl : _ ∈ tables_1_2))) (by rfl)
set_option maxRecDepth 4000 in
theorem u454 : (Jvm.Cond.fieldLink "WeddingRegister" (215 : Nat) "WeddingRegister$Notice" "second" "LWeddingRegister$Person;") ∈ uw := uw_of (List.mem_append_right _ (List.mem_append_left _ (List.mem_of_getElem? (i := 214) rfl : _ ∈ tables_1_2))) (by rfl)
set_option maxRecDepth 4000 in
theorem u455 : (Jvm.Cond.fieldLink "WeddingRegister$Notice" (22 : Nat) "WeddingRegister$Notice" "posted" "I") ∈ uw := uw_of (List.mem_append_right _ (List.mem_append_left _ (List.mem_of_getElem? (i := 215) rfl : _ ∈ tables_1_2))) (by rfl)
set_option maxRecDepth 4000 in
theorem u456 : (Jvm.Cond.fieldLink "WeddingRegister" (158 : Nat) "WeddingRegister$Notice" "posted" "I") ∈ uw := uw_of (List.mem_append_right _ (List.mem_append_left _ (List.mem_of_getElem? (i := 216) rfl : _ ∈ tables_1_2))) (by rfl)
set_option maxRecDepth 4000 in
theorem u457 : (Jvm.Cond.fieldLink "WeddingRegister$Notice" (25 : Nat) "WeddingRegister$Notice" "state" "I") ∈ uw := uw_of (List.mem_append_right _ (List.mem_append_left _ (List.mem_of_getElem? (i := 217) rfl : _ ∈ tables_1_2))) (by rfl)
set_option maxRecDepth 4000 in
theorem u458 : (Jvm.Cond.fieldLink "WeddingRegister" (152 : Nat) "WeddingRegister$Notice" "state" "I") ∈ uw := uw_of (List.mem_append_right _ (List.mem_append_left _ (List.mem_of_getElem? (i := 218) rfl : _ ∈ tables_1_2))) (by rfl)
set_option maxRecDepth 4000 in
theorem u459 : (Jvm.Cond.fieldLink "WeddingRegister$Notice" (28 : Nat) "WeddingRegister$Notice" "standingObjections" "I") ∈ uw := uw_of (List.mem_append_right _ (List.mem_append_left _ (List.mem_of_getElem? (i := 219) rfl : _ ∈ tables_1_2))) (by rfl)
set_option maxRecDepth 4000 in
theorem u460 : (Jvm.Cond.fieldLink "WeddingRegister" (173 : Nat) "WeddingRegister$Notice" "standingObjections" "I") ∈ uw := uw_of (List.mem_append_right _ (List.mem_append_left _ (List.mem_of_getElem? (i := 220) rfl : _ ∈ tables_1_2))) (by rfl)
set_option maxRecDepth 4000 in
theorem u461 : (Jvm.Cond.fieldLink "WeddingRegister$Notice" (31 : Nat) "WeddingRegister$Notice" "bookedDay" "I") ∈ uw := uw_of (List.mem_append_right _ (List.mem_append_left _ (List.mem_of_getElem? (i := 221) rfl : _ ∈ tables_1_2))) (by rfl)
set_option maxRecDepth 4000 in
theorem u462 : (Jvm.Cond.fieldLink "WeddingRegister" (209 : Nat) "WeddingRegister$Notice" "bookedDay" "I") ∈ uw := uw_of (List.mem_append_right _ (List.mem_append_left _ (List.mem_of_getElem? (i := 222) rfl : _ ∈ tables_1_2))) (by rfl)
set_option maxRecDepth 4000 in
theorem u463 : (Jvm.Cond.fieldLink "WeddingRegister$Entry" (39 : Nat) "WeddingRegister$Notice" "slot" "I") ∈ uw := uw_of (List.mem_append_right _ (List.mem_append_left _ (List.mem_of_getElem? (i := 223) rfl : _ ∈ tables_1_2))) (by rfl)
set_option maxRecDepth 4000 in
theorem u464 : (Jvm.Cond.fieldLink "WeddingRegister$Notice" (34 : Nat) "WeddingRegister$Notice" "slot" "I") ∈ uw := uw_of (List.mem_append_right _ (List.mem_append_left _ (List.mem_of_getElem? (i := 224) rfl : _ ∈ tables_1_2))) (by rfl)
set_option maxRecDepth 4000 in
theorem u465 : (Jvm.Cond.fieldLink "WeddingRegister" (254 : Nat) "WeddingRegister$Notice" "slot" "I") ∈ uw := uw_of (List.mem_append_right _ (List.mem_append_left _ (List.mem_of_getElem? (i := 225) rfl : _ ∈ tables_1_2))) (by rfl)
set_option maxRecDepth 4000 in
theorem u466 : (Jvm.Cond.laysFinal "WeddingRegister$Notice" "WeddingRegister$Notice" "number" "I") ∈ uw := uw_of (List.mem_append_right _ (List.mem_append_left _ (List.mem_of_getElem? (i := 226) rfl : _ ∈ tables_1_2))) (by rfl)
set_option maxRecDepth 4000 in
theorem u468 : (Jvm.Cond.laysFinal "WeddingRegister$Notice" "WeddingRegister$Notice" "first" "LWeddingRegister$Person;") ∈ uw := uw_of (List.mem_append_right _ (List.mem_append_left _ (List.mem_of_getElem? (i := 228) rfl : _ ∈ tables_1_2))) (by rfl)
set_option maxRecDepth 4000 in
theorem u470 : (Jvm.Cond.laysFinal "WeddingRegister$Notice" "WeddingRegister$Notice" "second" "LWeddingRegister$Person;") ∈ uw := uw_of (List.mem_append_right _ (List.mem_append_left _ (List.mem_of_getElem? (i := 230) rfl : _ ∈ tables_1_2))) (by rfl)
set_option maxRecDepth 4000 in
theorem u472 : (Jvm.Cond.laysFinal "WeddingRegister$Notice" "WeddingRegister$Notice" "posted" "I") ∈ uw := uw_of (List.mem_append_right _ (List.mem_append_left _ (List.mem_of_getElem? (i := 232) rfl : _ ∈ tables_1_2))) (by rfl)
set_option maxRecDepth 4000 in
theorem u474 : (Jvm.Cond.lays "WeddingRegister$Notice" "WeddingRegister$Notice" "state" "I") ∈ uw := uw_of (List.mem_append_right _ (List.mem_append_left _ (List.mem_of_getElem? (i := 234) rfl : _ ∈ tables_1_2))) (by rfl)
set_option maxRecDepth 4000 in
theorem u476 : (Jvm.Cond.lays "WeddingRegister$Notice" "WeddingRegister$Notice" "standingObjections" "I") ∈ uw := uw_of (List.mem_append_right _ (List.mem_append_left _ (List.mem_of_getElem? (i := 236) rfl : _ ∈ tables_1_2))) (by rfl)
set_option maxRecDepth 4000 in
theorem u478 : (Jvm.Cond.lays "WeddingRegister$Notice" "WeddingRegister$Notice" "bookedDay" "I") ∈ uw := uw_of (List.mem_append_right _ (List.mem_append_left _ (List.mem_of_getElem? (i := 238) rfl : _ ∈ tables_1_2))) (by rfl)
set_option maxRecDepth 4000 in
theorem u480 : (Jvm.Cond.lays "WeddingRegister$Notice" "WeddingRegister$Notice" "slot" "I") ∈ uw := uw_of (List.mem_append_right _ (List.mem_append_right _ (List.mem_append_left _ (List.mem_of_getElem? (i := 0) rfl : _ ∈ tables_1_3)))) (by rfl)
set_option maxRecDepth 4000 in
theorem u483 : (Jvm.Cond.methodLink "WeddingRegisterLaw" (52 : Nat) ({ cls := "WeddingRegister", name := "withdraw", desc := "(I)Z" } : Jvm.MethodName)) ∈ uw := uw_of (List.mem_append_right _ (List.mem_append_right _ (List.mem_append_left _ (List.mem_of_getElem? (i := 3) rfl : _ ∈ tables_1_3)))) (by rfl)
set_option maxRecDepth 4000 in
theorem u484 : (Jvm.Cond.instanceMethod ({ cls := "WeddingRegister", name := "withdraw", desc := "(I)Z" } : Jvm.MethodName)) ∈ uw := uw_of (List.mem_append_right _ (List.mem_append_right _ (List.mem_append_left _ (List.mem_of_getElem? (i := 4) rfl : _ ∈ tables_1_3)))) (by rfl)
set_option maxRecDepth 4000 in
theorem u485 : (Jvm.Cond.selects "WeddingRegister" ({ cls := "WeddingRegister", name := "withdraw", desc := "(I)Z" } : Jvm.MethodName) ({ cls := "WeddingRegister", name := "withdraw", desc := "(I)Z" } : Jvm.MethodName)) ∈ uw := uw_of (List.mem_append_right _ (List.mem_append_right _ (List.mem_append_left _ (List.mem_of_getElem? (i := 5) rfl : _ ∈ tables_1_3)))) (by rfl)
set_option maxRecDepth 4000 in
theorem u486 : (Jvm.Cond.code ({ cls := "WeddingRegister", name := "withdraw", desc := "(I)Z" } : Jvm.MethodName) prog_1_method_10_code (3 : Nat) (Option.some Jvm.ClassFile.FieldType.boolean)) ∈ uw := uw_of (List.mem_append_right _ (List.mem_append_right _ (List.mem_append_left _ (List.mem_of_getElem? (i := 6) rfl : _ ∈ tables_1_3)))) (by rfl)
set_option maxRecDepth 4000 in
theorem u487 : (Jvm.Cond.methodLink "WeddingRegister" (148 : Nat) ({ cls := "WeddingRegister", name := "noticeAt", desc := "(I)LWeddingRegister$Notice;" } : Jvm.MethodName)) ∈ uw := uw_of (List.mem_append_right _ (List.mem_append_right _ (List.mem_append_left _ (List.mem_of_getElem? (i := 7) rfl : _ ∈ tables_1_3)))) (by rfl)
set_option maxRecDepth 4000 in
theorem u489 : (Jvm.Cond.instanceMethod ({ cls := "WeddingRegister", name := "noticeAt", desc := "(I)LWeddingRegister$Notice;" } : Jvm.MethodName)) ∈ uw := uw_of (List.mem_append_right _ (List.mem_append_right _ (List.mem_append_left _ (List.mem_of_getElem? (i := 9) rfl : _ ∈ tables_1_3)))) (by rfl)
set_option maxRecDepth 4000 in
theorem u490 : (Jvm.Cond.code ({ cls := "WeddingRegister", name := "noticeAt", desc := "(I)LWeddingRegister$Notice;" } : Jvm.MethodName) prog_1_method_30_code (2 : Nat) (Option.some (Jvm.ClassFile.FieldType.object "WeddingRegister$Notice"))) ∈ uw := uw_of (List.mem_append_right _ (List.mem_append_right _ (List.mem_append_left _ (List.mem_of_getElem? (i := 10) rfl : _ ∈ tables_1_3)))) (by rfl)
set_option maxRecDepth 4000 in
theorem u491 : (Jvm.Cond.methodLink "WeddingRegister" (155 : Nat) ({ cls := "WeddingRegister$Notice", name := "setBooking", desc := "(II)V" } : Jvm.MethodName)) ∈ uw := uw_of (List.mem_append_right _ (List.mem_append_right _ (List.mem_append_left _ (List.mem_of_getElem? (i := 11) rfl : _ ∈ tables_1_3)))) (by rfl)
set_option maxRecDepth 4000 in
theorem u492 : (Jvm.Cond.instanceMethod ({ cls := "WeddingRegister$Notice", name := "setBooking", desc := "(II)V" } : Jvm.MethodName)) ∈ uw := uw_of (List.mem_append_right _ (List.mem_append_right _ (List.mem_append_left _ (List.mem_of_getElem? (i := 12) rfl : _ ∈ tables_1_3)))) (by rfl)
set_option maxRecDepth 4000 in
theorem u493 : (Jvm.Cond.selects "WeddingRegister$Notice" ({ cls := "WeddingRegister$Notice", name := "setBooking", desc := "(II)V" } : Jvm.MethodName) ({ cls := "WeddingRegister$Notice", name := "setBooking", desc := "(II)V" } : Jvm.MethodName)) ∈ uw := uw_of (List.mem_append_right _ (List.mem_append_right _ (List.mem_append_left _ (List.mem_of_getElem? (i := 13) rfl : _ ∈ tables_1_3)))) (by rfl)
set_option maxRecDepth 4000 in
theorem u494 : (Jvm.Cond.code ({ cls := "WeddingRegister$Notice", name := "setBooking", desc := "(II)V" } : Jvm.MethodName) prog_8_method_4_code (3 : Nat) (Option.none : Option Jvm.ClassFile.FieldType)) ∈ uw := uw_of (List.mem_append_right _ (List.mem_append_right _ (List.mem_append_left _ (List.mem_of_getElem? (i := 14) rfl : _ ∈ tables_1_3)))) (by rfl)
set_option maxRecDepth 4000 in
theorem u495 : (Jvm.Cond.methodLink "WeddingRegisterLaw" (56 : Nat) ({ cls := "WeddingRegister", name := "hung", desc := "(II)I" } : Jvm.MethodName)) ∈ uw := uw_of (List.mem_append_right _ (List.mem_append_right _ (List.mem_append_left _ (List.mem_of_getElem? (i := 15) rfl : _ ∈ tables_1_3)))) (by rfl)
set_option maxRecDepth 4000 in
theorem u496 : (Jvm.Cond.instanceMethod ({ cls := "WeddingRegister", name := "hung", desc := "(II)I" } : Jvm.MethodName)) ∈ uw := uw_of (List.mem_append_right _ (List.mem_append_right _ (List.mem_append_left _ (List.mem_of_getElem? (i := 16) rfl : _ ∈ tables_1_3)))) (by rfl)
set_option maxRecDepth 4000 in
theorem u497 : (Jvm.Cond.selects "WeddingRegister" ({ cls := "WeddingRegister", name := "hung", desc := "(II)I" } : Jvm.MethodName) ({ cls := "WeddingRegister", name := "hung", desc := "(II)I" } : Jvm.MethodName)) ∈ uw := uw_of (List.mem_append_right _ (List.mem_append_right _ (List.mem_append_left _ (List.mem_of_getElem? (i := 17) rfl : _ ∈ tables_1_3)))) (by rfl)
set_option maxRecDepth 4000 in
theorem u498 : (Jvm.Cond.code ({ cls := "WeddingRegister", name := "hung", desc := "(II)I" } : Jvm.MethodName) prog_1_method_11_code (4 : Nat) (Option.some Jvm.ClassFile.FieldType.int)) ∈ uw := uw_of (List.mem_append_right _ (List.mem_append_right _ (List.mem_append_left _ (List.mem_of_getElem? (i := 18) rfl : _ ∈ tables_1_3)))) (by rfl)
set_option maxRecDepth 4000 in
theorem u499 : (Jvm.Cond.methodLink "WeddingRegister" (161 : Nat) ({ cls := "WeddingRegister$Calendar", name := "workdaysBetween", desc := "(II)I" } : Jvm.MethodName)) ∈ uw := uw_of (List.mem_append_right _ (List.mem_append_right _ (List.mem_append_left _ (List.mem_of_getElem? (i := 19) rfl : _ ∈ tables_1_3)))) (by rfl)
set_option maxRecDepth 4000 in
theorem u500 : (Jvm.Cond.instanceMethod ({ cls := "WeddingRegister$Calendar", name := "workdaysBetween", desc := "(II)I" } : Jvm.MethodName)) ∈ uw := uw_of (List.mem_append_right _ (List.mem_append_right _ (List.mem_append_left _ (List.mem_of_getElem? (i := 20) rfl : _ ∈ tables_1_3)))) (by rfl)
set_option maxRecDepth 4000 in
theorem u501 : (Jvm.Cond.selects "WeddingRegister$Calendar" ({ cls := "WeddingRegister$Calendar", name := "workdaysBetween", desc := "(II)I" } : Jvm.MethodName) ({ cls := "WeddingRegister$Calendar", name := "workdaysBetween", desc := "(II)I" } : Jvm.MethodName)) ∈ uw := uw_of (List.mem_append_right _ (List.mem_append_right _ (List.mem_append_left _ (List.mem_of_getElem? (i := 21) rfl : _ ∈ tables_1_3)))) (by rfl)
set_option maxRecDepth 4000 in
theorem u502 : (Jvm.Cond.code ({ cls := "WeddingRegister$Calendar", name := "workdaysBetween", desc := "(II)I" } : Jvm.MethodName) prog_2_method_4_code (3 : Nat) (Option.some Jvm.ClassFile.FieldType.int)) ∈ uw := uw_of (List.mem_append_right _ (List.mem_append_right _ (List.mem_append_left _ (List.mem_of_getElem? (i := 22) rfl : _ ∈ tables_1_3)))) (by rfl)
set_option maxRecDepth 4000 in
theorem u503 : (Jvm.Cond.methodLink "WeddingRegister$Calendar" (15 : Nat) ({ cls := "WeddingRegister$Calendar", name := "feastsAheadOf", desc := "(I)I" } : Jvm.MethodName)) ∈ uw := uw_of (List.mem_append_right _ (List.mem_append_right _ (List.mem_append_left _ (List.mem_of_getElem? (i := 23) rfl : _ ∈ tables_1_3)))) (by rfl)
set_option maxRecDepth 4000 in
theorem u505 : (Jvm.Cond.instanceMethod ({ cls := "WeddingRegister$Calendar", name := "feastsAheadOf", desc := "(I)I" } : Jvm.MethodName)) ∈ uw := uw_of (List.mem_append_right _ (List.mem_append_right _ (List.mem_append_left _ (List.mem_of_getElem? (i := 25) rfl : _ ∈ tables_1_3)))) (by rfl)
set_option maxRecDepth 4000 in
theorem u506 : (Jvm.Cond.code ({ cls := "WeddingRegister$Calendar", name := "feastsAheadOf", desc := "(I)I" } : Jvm.MethodName) prog_2_method_5_code (5 : Nat) (Option.some Jvm.ClassFile.FieldType.int)) ∈ uw := uw_of (List.mem_append_right _ (List.mem_append_right _ (List.mem_append_left _ (List.mem_of_getElem? (i := 26) rfl : _ ∈ tables_1_3)))) (by rfl)
set_option maxRecDepth 4000 in
theorem u507 : (Jvm.Cond.methodLink "WeddingRegister$Calendar" (19 : Nat) ({ cls := "java/lang/Long", name := "bitCount", desc := "(J)I" } : Jvm.MethodName)) ∈ uw := uw_of (List.mem_append_right _ (List.mem_append_right _ (List.mem_append_left _ (List.mem_of_getElem? (i := 27) rfl : _ ∈ tables_1_3)))) (by rfl)
set_option maxRecDepth 4000 in
theorem u508 : (Jvm.Cond.static ({ cls := "java/lang/Long", name := "bitCount", desc := "(J)I" } : Jvm.MethodName)) ∈ uw := uw_of (List.mem_append_right _ (List.mem_append_right _ (List.mem_append_left _ (List.mem_of_getElem? (i := 28) rfl : _ ∈ tables_1_3)))) (by rfl)
set_option maxRecDepth 4000 in
theorem u509 : (Jvm.Cond.code ({ cls := "java/lang/Long", name := "bitCount", desc := "(J)I" } : Jvm.MethodName) prog_17_method_50_code (2 : Nat) (Option.some Jvm.ClassFile.FieldType.int)) ∈ uw := uw_of (List.mem_append_right _ (List.mem_append_right _ (List.mem_append_left _ (List.mem_of_getElem? (i := 29) rfl : _ ∈ tables_1_3)))) (by rfl)
set_option maxRecDepth 4000 in
theorem u510 : (Jvm.Cond.constantLong "java/lang/Long" (314 : Nat) (6148914691236517205 : Int64)) ∈ uw := uw_of (List.mem_append_right _ (List.mem_append_right _ (List.mem_append_left _ (List.mem_of_getElem? (i := 30) rfl : _ ∈ tables_1_3)))) (by rfl)
set_option maxRecDepth 4000 in
theorem u511 : (Jvm.Cond.constantLong "java/lang/Long" (316 : Nat) (3689348814741910323 : Int64)) ∈ uw := uw_of (List.mem_append_right _ (List.mem_append_right _ (List.mem_append_left _ (List.mem_of_getElem? (i := 31) rfl : _ ∈ tables_1_3)))) (by rfl)
set_option maxRecDepth 4000 in
theorem u512 : (Jvm.Cond.constantLong "java/lang/Long" (318 : Nat) (1085102592571150095 : Int64)) ∈ uw := uw_of (List.mem_append_right _ (List.mem_append_right _ (List.mem_append_left _ (List.mem_of_getElem? (i := 32) rfl : _ ∈ tables_1_3)))) (by rfl)
set_option maxRecDepth 4000 in
theorem u513 : (Jvm.Cond.methodLink "WeddingRegisterLaw" (60 : Nat) ({ cls := "WeddingRegister", name := "ripe", desc := "(I)I" } : Jvm.MethodName)) ∈ uw := uw_of (List.mem_append_right _ (List.mem_append_right _ (List.mem_append_left _ (List.mem_of_getElem? (i := 33) rfl : _ ∈ tables_1_3)))) (by rfl)
set_option maxRecDepth 4000 in
theorem u514 : (Jvm.Cond.instanceMethod ({ cls := "WeddingRegister", name := "ripe", desc := "(I)I" } : Jvm.MethodName)) ∈ uw := uw_of (List.mem_append_right _ (List.mem_append_right _ (List.mem_append_left _ (List.mem_of_getElem? (i := 34) rfl : _ ∈ tables_1_3)))) (by rfl)
set_option maxRecDepth 4000 in
theorem u515 : (Jvm.Cond.selects "WeddingRegister" ({ cls := "WeddingRegister", name := "ripe", desc := "(I)I" } : Jvm.MethodName) ({ cls := "WeddingRegister", name := "ripe", desc := "(I)I" } : Jvm.MethodName)) ∈ uw := uw_of (List.mem_append_right _ (List.mem_append_right _ (List.mem_append_left _ (List.mem_of_getElem? (i := 35) rfl : _ ∈ tables_1_3)))) (by rfl)
set_option maxRecDepth 4000 in
theorem u516 : (Jvm.Cond.code ({ cls := "WeddingRegister", name := "ripe", desc := "(I)I" } : Jvm.MethodName) prog_1_method_12_code (3 : Nat) (Option.some Jvm.ClassFile.FieldType.int)) ∈ uw := uw_of (List.mem_append_right _ (List.mem_append_right _ (List.mem_append_left _ (List.mem_of_getElem? (i := 36) rfl : _ ∈ tables_1_3)))) (by rfl)
set_option maxRecDepth 4000 in
theorem u517 : (Jvm.Cond.methodLink "WeddingRegister" (164 : Nat) ({ cls := "WeddingRegister", name := "firstRipeDay", desc := "(LWeddingRegister$Notice;)I" } : Jvm.MethodName)) ∈ uw := uw_of (List.mem_append_right _ (List.mem_append_right _ (List.mem_append_left _ (List.mem_of_getElem? (i := 37) rfl : _ ∈ tables_1_3)))) (by rfl)
set_option maxRecDepth 4000 in
theorem u519 : (Jvm.Cond.instanceMethod ({ cls := "WeddingRegister", name := "firstRipeDay", desc := "(LWeddingRegister$Notice;)I" } : Jvm.MethodName)) ∈ uw := uw_of (List.mem_append_right _ (List.mem_append_right _ (List.mem_append_left _ (List.mem_of_getElem? (i := 39) rfl : _ ∈ tables_1_3)))) (by rfl)
set_option maxRecDepth 4000 in
theorem u520 : (Jvm.Cond.code ({ cls := "WeddingRegister", name := "firstRipeDay", desc := "(LWeddingRegister$Notice;)I" } : Jvm.MethodName) prog_1_method_45_code (4 : Nat) (Option.some Jvm.ClassFile.FieldType.int)) ∈ uw := uw_of (List.mem_append_right _ (List.mem_append_right _ (List.mem_append_left _ (List.mem_of_getElem? (i := 40) rfl : _ ∈ tables_1_3)))) (by rfl)
set_option maxRecDepth 4000 in
theorem u521 : (Jvm.Cond.methodLink "WeddingRegister" (332 : Nat) ({ cls := "WeddingRegister", name := "hangingAsked", desc := "(LWeddingRegister$Notice;I)I" } : Jvm.MethodName)) ∈ uw := uw_of (List.mem_append_right _ (List.mem_append_right _ (List.mem_append_left _ (List.mem_of_getElem? (i := 41) rfl : _ ∈ tables_1_3)))) (by rfl)
set_option maxRecDepth 4000 in
theorem u523 : (Jvm.Cond.instanceMethod ({ cls := "WeddingRegister", name := "hangingAsked", desc := "(LWeddingRegister$Notice;I)I" } : Jvm.MethodName)) ∈ uw := uw_of (List.mem_append_right _ (List.mem_append_right _ (List.mem_append_left _ (List.mem_of_getElem? (i := 43) rfl : _ ∈ tables_1_3)))) (by rfl)
set_option maxRecDepth 4000 in
theorem u524 : (Jvm.Cond.code ({ cls := "WeddingRegister", name := "hangingAsked", desc := "(LWeddingRegister$Notice;I)I" } : Jvm.MethodName) prog_1_method_43_code (3 : Nat) (Option.some Jvm.ClassFile.FieldType.int)) ∈ uw := uw_of (List.mem_append_right _ (List.mem_append_right _ (List.mem_append_left _ (List.mem_of_getElem? (i := 44) rfl : _ ∈ tables_1_3)))) (by rfl)
set_option maxRecDepth 4000 in
theorem u525 : (Jvm.Cond.methodLink "WeddingRegister" (329 : Nat) ({ cls := "java/lang/Math", name := "max", desc := "(II)I" } : Jvm.MethodName)) ∈ uw := uw_of (List.mem_append_right _ (List.mem_append_right _ (List.mem_append_left _ (List.mem_of_getElem? (i := 45) rfl : _ ∈ tables_1_3)))) (by rfl)
set_option maxRecDepth 4000 in
theorem u526 : (Jvm.Cond.methodLink "WeddingRegisterLaw" (64 : Nat) ({ cls := "WeddingRegister", name := "object", desc := "(I)I" } : Jvm.MethodName)) ∈ uw := uw_of (List.mem_append_right _ (List.mem_append_right _ (List.mem_append_left _ (List.mem_of_getElem? (i := 46) rfl : _ ∈ tables_1_3)))) (by rfl)
set_option maxRecDepth 4000 in
theorem u527 : (Jvm.Cond.instanceMethod ({ cls := "WeddingRegister", name := "object", desc := "(I)I" } : Jvm.MethodName)) ∈ uw := uw_of (List.mem_append_right _ (List.mem_append_right _ (List.mem_append_left _ (List.mem_of_getElem? (i := 47) rfl : _ ∈ tables_1_3)))) (by rfl)
set_option maxRecDepth 4000 in
theorem u528 : (Jvm.Cond.selects "WeddingRegister" ({ cls := "WeddingRegister", name := "object", desc := "(I)I" } : Jvm.MethodName) ({ cls := "WeddingRegister", name := "object", desc := "(I)I" } : Jvm.MethodName)) ∈ uw := uw_of (List.mem_append_right _ (List.mem_append_right _ (List.mem_append_left _ (List.mem_of_getElem? (i := 48) rfl : _ ∈ tables_1_3)))) (by rfl)
set_option maxRecDepth 4000 in
theorem u529 : (Jvm.Cond.code ({ cls := "WeddingRegister", name := "object", desc := "(I)I" } : Jvm.MethodName) prog_1_method_13_code (5 : Nat) (Option.some Jvm.ClassFile.FieldType.int)) ∈ uw := uw_of (List.mem_append_right _ (List.mem_append_right _ (List.mem_append_left _ (List.mem_of_getElem? (i := 49) rfl : _ ∈ tables_1_3)))) (by rfl)
set_option maxRecDepth 4000 in
theorem u530 : (Jvm.Cond.classLink "WeddingRegister" (168 : Nat) "WeddingRegister$Objection") ∈ uw := uw_of (List.mem_append_right _ (List.mem_append_right _ (List.mem_append_left _ (List.mem_of_getElem? (i := 50) rfl : _ ∈ tables_1_3)))) (by rfl)
set_option maxRecDepth 4000 in
theorem u531 : (Jvm.Cond.instantiable "WeddingRegister$Objection" (2 : Nat)) ∈ uw := uw_of (List.mem_append_right _ (List.mem_append_right _ (List.mem_append_left _ (List.mem_of_getElem? (i := 51) rfl : _ ∈ tables_1_3)))) (by rfl)
set_option maxRecDepth 4000 in
theorem u532 : (Jvm.Cond.methodLink "WeddingRegister" (170 : Nat) ({ cls := "WeddingRegister$Objection", name := "<init>", desc := "(LWeddingRegister$Notice;)V" } : Jvm.MethodName)) ∈ uw := uw_of (List.mem_append_right _ (List.mem_append_right _ (List.mem_append_left _ (List.mem_of_getElem? (i := 52) rfl : _ ∈ tables_1_3)))) (by rfl)
set_option maxRecDepth 4000 in
theorem u533 : (Jvm.Cond.instanceMethod ({ cls := "WeddingRegister$Objection", name := "<init>", desc := "(LWeddingRegister$Notice;)V" } : Jvm.MethodName)) ∈ uw := uw_of (List.mem_append_right _ (List.mem_append_right _ (List.mem_append_left _ (List.mem_of_getElem? (i := 53) rfl : _ ∈ tables_1_3)))) (by rfl)
set_option maxRecDepth 4000 in
theorem u534 : (Jvm.Cond.code ({ cls := "WeddingRegister$Objection", name := "<init>", desc := "(LWeddingRegister$Notice;)V" } : Jvm.MethodName) prog_9_method_1_code (2 : Nat) (Option.none : Option Jvm.ClassFile.FieldType)) ∈ uw := uw_of (List.mem_append_right _ (List.mem_append_right _ (List.mem_append_left _ (List.mem_of_getElem? (i := 54) rfl : _ ∈ tables_1_3)))) (by rfl)
set_option maxRecDepth 4000 in
theorem u535 : (Jvm.Cond.methodLink "WeddingRegister$Objection" (1 : Nat) ({ cls := "java/lang/Object", name := "<init>", desc := "()V" } : Jvm.MethodName)) ∈ uw := uw_of (List.mem_append_right _ (List.mem_append_right _ (List.mem_append_left _ (List.mem_of_getElem? (i := 55) rfl : _ ∈ tables_1_3)))) (by rfl)
set_option maxRecDepth 4000 in
theorem u536 : (Jvm.Cond.fieldLink "WeddingRegister$Objection" (7 : Nat) "WeddingRegister$Objection" "notice" "LWeddingRegister$Notice;") ∈ uw := uw_of (List.mem_append_right _ (List.mem_append_right _ (List.mem_append_left _ (List.mem_of_getElem? (i := 56) rfl : _ ∈ tables_1_3)))) (by rfl)
set_option maxRecDepth 4000 in
theorem u537 : (Jvm.Cond.fieldLink "WeddingRegister" (184 : Nat) "WeddingRegister$Objection" "notice" "LWeddingRegister$Notice;") ∈ uw := uw_of (List.mem_append_right _ (List.mem_append_right _ (List.mem_append_left _ (List.mem_of_getElem? (i := 57) rfl : _ ∈ tables_1_3)))) (by rfl)
set_option maxRecDepth 4000 in
theorem u538 : (Jvm.Cond.fieldLink "WeddingRegister$Objection" (13 : Nat) "WeddingRegister$Objection" "open" "Z") ∈ uw := uw_of (List.mem_append_right _ (List.mem_append_right _ (List.mem_append_left _ (List.mem_of_getElem? (i := 58) rfl : _ ∈ tables_1_3)))) (by rfl)
set_option maxRecDepth 4000 in
theorem u539 : (Jvm.Cond.fieldLink "WeddingRegister" (180 : Nat) "WeddingRegister$Objection" "open" "Z") ∈ uw := uw_of (List.mem_append_right _ (List.mem_append_right _ (List.mem_append_left _ (List.mem_of_getElem? (i := 59) rfl : _ ∈ tables_1_3)))) (by rfl)
set_option maxRecDepth 4000 in
theorem u540 : (Jvm.Cond.laysFinal "WeddingRegister$Objection" "WeddingRegister$Objection" "notice" "LWeddingRegister$Notice;") ∈ uw := uw_of (List.mem_append_right _ (List.mem_append_right _ (List.mem_append_left _ (List.mem_of_getElem? (i := 60) rfl : _ ∈ tables_1_3)))) (by rfl)
set_option maxRecDepth 4000 in
theorem u542 : (Jvm.Cond.lays "WeddingRegister$Objection" "WeddingRegister$Objection" "open" "Z") ∈ uw := uw_of (List.mem_append_right _ (List.mem_append_right _ (List.mem_append_left _ (List.mem_of_getElem? (i := 62) rfl : _ ∈ tables_1_3)))) (by rfl)
set_option maxRecDepth 4000 in
theorem u545 : (Jvm.Cond.methodLink "WeddingRegisterLaw" (68 : Nat) ({ cls := "WeddingRegister", name := "judge", desc := "(IZ)Z" } : Jvm.MethodName)) ∈ uw := uw_of (List.mem_append_right _ (List.mem_append_right _ (List.mem_append_left _ (List.mem_of_getElem? (i := 65) rfl : _ ∈ tables_1_3)))) (by rfl)
set_option maxRecDepth 4000 in
theorem u546 : (Jvm.Cond.instanceMethod ({ cls := "WeddingRegister", name := "judge", desc := "(IZ)Z" } : Jvm.MethodName)) ∈ uw := uw_of (List.mem_append_right _ (List.mem_append_right _ (List.mem_append_left _ (List.mem_of_getElem? (i := 66) rfl : _ ∈ tables_1_3)))) (by rfl)
set_option maxRecDepth 4000 in
theorem u547 : (Jvm.Cond.selects "WeddingRegister" ({ cls := "WeddingRegister", name := "judge", desc := "(IZ)Z" } : Jvm.MethodName) ({ cls := "WeddingRegister", name := "judge", desc := "(IZ)Z" } : Jvm.MethodName)) ∈ uw := uw_of (List.mem_append_right _ (List.mem_append_right _ (List.mem_append_left _ (List.mem_of_getElem? (i := 67) rfl : _ ∈ tables_1_3)))) (by rfl)
set_option maxRecDepth 4000 in
theorem u548 : (Jvm.Cond.code ({ cls := "WeddingRegister", name := "judge", desc := "(IZ)Z" } : Jvm.MethodName) prog_1_method_14_code (4 : Nat) (Option.some Jvm.ClassFile.FieldType.boolean)) ∈ uw := uw_of (List.mem_append_right _ (List.mem_append_right _ (List.mem_append_left _ (List.mem_of_getElem? (i := 68) rfl : _ ∈ tables_1_3)))) (by rfl)
set_option maxRecDepth 4000 in
theorem u549 : (Jvm.Cond.methodLink "WeddingRegisterLaw" (73 : Nat) ({ cls := "WeddingRegister", name := "registrar", desc := "(I)I" } : Jvm.MethodName)) ∈ uw := uw_of (List.mem_append_right _ (List.mem_append_right _ (List.mem_append_left _ (List.mem_of_getElem? (i := 69) rfl : _ ∈ tables_1_3)))) (by rfl)
set_option maxRecDepth 4000 in
theorem u550 : (Jvm.Cond.instanceMethod ({ cls := "WeddingRegister", name := "registrar", desc := "(I)I" } : Jvm.MethodName)) ∈ uw := uw_of (List.mem_append_right _ (List.mem_append_right _ (List.mem_append_left _ (List.mem_of_getElem? (i := 70) rfl : _ ∈ tables_1_3)))) (by rfl)
set_option maxRecDepth 4000 in
theorem u551 : (Jvm.Cond.selects "WeddingRegister" ({ cls := "WeddingRegister", name := "registrar", desc := "(I)I" } : Jvm.MethodName) ({ cls := "WeddingRegister", name := "registrar", desc := "(I)I" } : Jvm.MethodName)) ∈ uw := uw_of (List.mem_append_right _ (List.mem_append_right _ (List.mem_append_left _ (List.mem_of_getElem? (i := 71) rfl : _ ∈ tables_1_3)))) (by rfl)
set_option maxRecDepth 4000 in
theorem u552 : (Jvm.Cond.code ({ cls := "WeddingRegister", name := "registrar", desc := "(I)I" } : Jvm.MethodName) prog_1_method_15_code (3 : Nat) (Option.some Jvm.ClassFile.FieldType.int)) ∈ uw := uw_of (List.mem_append_right _ (List.mem_append_right _ (List.mem_append_left _ (List.mem_of_getElem? (i := 72) rfl : _ ∈ tables_1_3)))) (by rfl)
set_option maxRecDepth 4000 in
theorem u553 : (Jvm.Cond.methodLink "WeddingRegisterLaw" (77 : Nat) ({ cls := "WeddingRegister", name := "book", desc := "(III)I" } : Jvm.MethodName)) ∈ uw := uw_of (List.mem_append_right _ (List.mem_append_right _ (List.mem_append_left _ (List.mem_of_getElem? (i := 73) rfl : _ ∈ tables_1_3)))) (by rfl)
set_option maxRecDepth 4000 in
theorem u554 : (Jvm.Cond.instanceMethod ({ cls := "WeddingRegister", name := "book", desc := "(III)I" } : Jvm.MethodName)) ∈ uw := uw_of (List.mem_append_right _ (List.mem_append_right _ (List.mem_append_left _ (List.mem_of_getElem? (i := 74) rfl : _ ∈ tables_1_3)))) (by rfl)
set_option maxRecDepth 4000 in
theorem u555 : (Jvm.Cond.selects "WeddingRegister" ({ cls := "WeddingRegister", name := "book", desc := "(III)I" } : Jvm.MethodName) ({ cls := "WeddingRegister", name := "book", desc := "(III)I" } : Jvm.MethodName)) ∈ uw := uw_of (List.mem_append_right _ (List.mem_append_right _ (List.mem_append_left _ (List.mem_of_getElem? (i := 75) rfl : _ ∈ tables_1_3)))) (by rfl)
set_option maxRecDepth 4000 in
theorem u556 : (Jvm.Cond.code ({ cls := "WeddingRegister", name := "book", desc := "(III)I" } : Jvm.MethodName) prog_1_method_16_code (6 : Nat) (Option.some Jvm.ClassFile.FieldType.int)) ∈ uw := uw_of (List.mem_append_right _ (List.mem_append_right _ (List.mem_append_left _ (List.mem_of_getElem? (i := 76) rfl : _ ∈ tables_1_3)))) (by rfl)
set_option maxRecDepth 4000 in
theorem u557 : (Jvm.Cond.methodLink "WeddingRegister" (188 : Nat) ({ cls := "WeddingRegister", name := "isDayToCome", desc := "(I)Z" } : Jvm.MethodName)) ∈ uw := uw_of (List.mem_append_right _ (List.mem_append_right _ (List.mem_append_left _ (List.mem_of_getElem? (i := 77) rfl : _ ∈ tables_1_3)))) (by rfl)
set_option maxRecDepth 4000 in
theorem u559 : (Jvm.Cond.instanceMethod ({ cls := "WeddingRegister", name := "isDayToCome", desc := "(I)Z" } : Jvm.MethodName)) ∈ uw := uw_of (List.mem_append_right _ (List.mem_append_right _ (List.mem_append_left _ (List.mem_of_getElem? (i := 79) rfl : _ ∈ tables_1_3)))) (by rfl)
set_option maxRecDepth 4000 in
theorem u560 : (Jvm.Cond.code ({ cls := "WeddingRegister", name := "isDayToCome", desc := "(I)Z" } : Jvm.MethodName) prog_1_method_28_code (2 : Nat) (Option.some Jvm.ClassFile.FieldType.boolean)) ∈ uw := uw_of (List.mem_append_right _ (List.mem_append_right _ (List.mem_append_left _ (List.mem_of_getElem? (i := 80) rfl : _ ∈ tables_1_3)))) (by rfl)
set_option maxRecDepth 4000 in
theorem u561 : (Jvm.Cond.methodLink "WeddingRegister" (191 : Nat) ({ cls := "WeddingRegister", name := "isSlot", desc := "(I)Z" } : Jvm.MethodName)) ∈ uw := uw_of (List.mem_append_right _ (List.mem_append_right _ (List.mem_append_left _ (List.mem_of_getElem? (i := 81) rfl : _ ∈ tables_1_3)))) (by rfl)
set_option maxRecDepth 4000 in
theorem u563 : (Jvm.Cond.instanceMethod ({ cls := "WeddingRegister", name := "isSlot", desc := "(I)Z" } : Jvm.MethodName)) ∈ uw := uw_of (List.mem_append_right _ (List.mem_append_right _ (List.mem_append_left _ (List.mem_of_getElem? (i := 83) rfl : _ ∈ tables_1_3)))) (by rfl)
set_option maxRecDepth 4000 in
theorem u564 : (Jvm.Cond.code ({ cls := "WeddingRegister", name := "isSlot", desc := "(I)Z" } : Jvm.MethodName) prog_1_method_46_code (3 : Nat) (Option.some Jvm.ClassFile.FieldType.boolean)) ∈ uw := uw_of (List.mem_append_right _ (List.mem_append_right _ (List.mem_append_left _ (List.mem_of_getElem? (i := 84) rfl : _ ∈ tables_1_3)))) (by rfl)
set_option maxRecDepth 4000 in
theorem u565 : (Jvm.Cond.methodLink "WeddingRegister" (335 : Nat) ({ cls := "WeddingRegister", name := "hourOf", desc := "(I)I" } : Jvm.MethodName)) ∈ uw := uw_of (List.mem_append_right _ (List.mem_append_right _ (List.mem_append_left _ (List.mem_of_getElem? (i := 85) rfl : _ ∈ tables_1_3)))) (by rfl)
set_option maxRecDepth 4000 in
theorem u566 : (Jvm.Cond.static ({ cls := "WeddingRegister", name := "hourOf", desc := "(I)I" } : Jvm.MethodName)) ∈ uw := uw_of (List.mem_append_right _ (List.mem_append_right _ (List.mem_append_left _ (List.mem_of_getElem? (i := 86) rfl : _ ∈ tables_1_3)))) (by rfl)
set_option maxRecDepth 4000 in
theorem u567 : (Jvm.Cond.code ({ cls := "WeddingRegister", name := "hourOf", desc := "(I)I" } : Jvm.MethodName) prog_1_method_48_code (1 : Nat) (Option.some Jvm.ClassFile.FieldType.int)) ∈ uw := uw_of (List.mem_append_right _ (List.mem_append_right _ (List.mem_append_left _ (List.mem_of_getElem? (i := 87) rfl : _ ∈ tables_1_3)))) (by rfl)
set_option maxRecDepth 4000 in
theorem u568 : (Jvm.Cond.methodLink "WeddingRegister" (338 : Nat) ({ cls := "WeddingRegister", name := "hallOf", desc := "(I)I" } : Jvm.MethodName)) ∈ uw := uw_of (List.mem_append_right _ (List.mem_append_right _ (List.mem_append_left _ (List.mem_of_getElem? (i := 88) rfl : _ ∈ tables_1_3)))) (by rfl)
set_option maxRecDepth 4000 in
theorem u569 : (Jvm.Cond.static ({ cls := "WeddingRegister", name := "hallOf", desc := "(I)I" } : Jvm.MethodName)) ∈ uw := uw_of (List.mem_append_right _ (List.mem_append_right _ (List.mem_append_left _ (List.mem_of_getElem? (i := 89) rfl : _ ∈ tables_1_3)))) (by rfl)
set_option maxRecDepth 4000 in
theorem u570 : (Jvm.Cond.code ({ cls := "WeddingRegister", name := "hallOf", desc := "(I)I" } : Jvm.MethodName) prog_1_method_49_code (1 : Nat) (Option.some Jvm.ClassFile.FieldType.int)) ∈ uw := uw_of (List.mem_append_right _ (List.mem_append_right _ (List.mem_append_left _ (List.mem_of_getElem? (i := 90) rfl : _ ∈ tables_1_3)))) (by rfl)
set_option maxRecDepth 4000 in
theorem u571 : (Jvm.Cond.methodLink "WeddingRegister" (341 : Nat) ({ cls := "WeddingRegister", name := "registrarOf", desc := "(I)I" } : Jvm.MethodName)) ∈ uw := uw_of (List.mem_append_right _ (List.mem_append_right _ (List.mem_append_left _ (List.mem_of_getElem? (i := 91) rfl : _ ∈ tables_1_3)))) (by rfl)
set_option maxRecDepth 4000 in
theorem u572 : (Jvm.Cond.static ({ cls := "WeddingRegister", name := "registrarOf", desc := "(I)I" } : Jvm.MethodName)) ∈ uw := uw_of (List.mem_append_right _ (List.mem_append_right _ (List.mem_append_left _ (List.mem_of_getElem? (i := 92) rfl : _ ∈ tables_1_3)))) (by rfl)
set_option maxRecDepth 4000 in
theorem u573 : (Jvm.Cond.code ({ cls := "WeddingRegister", name := "registrarOf", desc := "(I)I" } : Jvm.MethodName) prog_1_method_50_code (1 : Nat) (Option.some Jvm.ClassFile.FieldType.int)) ∈ uw := uw_of (List.mem_append_right _ (List.mem_append_right _ (List.mem_append_left _ (List.mem_of_getElem? (i := 93) rfl : _ ∈ tables_1_3)))) (by rfl)
set_option maxRecDepth 4000 in
theorem u574 : (Jvm.Cond.methodLink "WeddingRegister" (194 : Nat) ({ cls := "WeddingRegister", name := "barToDay", desc := "(LWeddingRegister$Notice;I)I" } : Jvm.MethodName)) ∈ uw := uw_of (List.mem_append_right _ (List.mem_append_right _ (List.mem_append_left _ (List.mem_of_getElem? (i := 94) rfl : _ ∈ tables_1_3)))) (by rfl)
set_option maxRecDepth 4000 in
theorem u576 : (Jvm.Cond.instanceMethod ({ cls := "WeddingRegister", name := "barToDay", desc := "(LWeddingRegister$Notice;I)I" } : Jvm.MethodName)) ∈ uw := uw_of (List.mem_append_right _ (List.mem_append_right _ (List.mem_append_left _ (List.mem_of_getElem? (i := 96) rfl : _ ∈ tables_1_3)))) (by rfl)
set_option maxRecDepth 4000 in
theorem u577 : (Jvm.Cond.code ({ cls := "WeddingRegister", name := "barToDay", desc := "(LWeddingRegister$Notice;I)I" } : Jvm.MethodName) prog_1_method_52_code (3 : Nat) (Option.some Jvm.ClassFile.FieldType.int)) ∈ uw := uw_of (List.mem_append_right _ (List.mem_append_right _ (List.mem_append_left _ (List.mem_of_getElem? (i := 97) rfl : _ ∈ tables_1_3)))) (by rfl)
set_option maxRecDepth 4000 in
theorem u578 : (Jvm.Cond.methodLink "WeddingRegister" (218 : Nat) ({ cls := "WeddingRegister", name := "isRipeOn", desc := "(LWeddingRegister$Notice;I)Z" } : Jvm.MethodName)) ∈ uw := uw_of (List.mem_append_right _ (List.mem_append_right _ (List.mem_append_left _ (List.mem_of_getElem? (i := 98) rfl : _ ∈ tables_1_3)))) (by rfl)
set_option maxRecDepth 4000 in
theorem u580 : (Jvm.Cond.instanceMethod ({ cls := "WeddingRegister", name := "isRipeOn", desc := "(LWeddingRegister$Notice;I)Z" } : Jvm.MethodName)) ∈ uw := uw_of (List.mem_append_right _ (List.mem_append_right _ (List.mem_append_left _ (List.mem_of_getElem? (i := 100) rfl : _ ∈ tables_1_3)))) (by rfl)
set_option maxRecDepth 4000 in
theorem u581 : (Jvm.Cond.code ({ cls := "WeddingRegister", name := "isRipeOn", desc := "(LWeddingRegister$Notice;I)Z" } : Jvm.MethodName) prog_1_method_44_code (3 : Nat) (Option.some Jvm.ClassFile.FieldType.boolean)) ∈ uw := uw_of (List.mem_append_right _ (List.mem_append_right _ (List.mem_append_left _ (List.mem_of_getElem? (i := 101) rfl : _ ∈ tables_1_3)))) (by rfl)
set_option maxRecDepth 4000 in
theorem u582 : (Jvm.Cond.methodLink "WeddingRegister" (198 : Nat) ({ cls := "WeddingRegister", name := "fillPlan", desc := "(ILWeddingRegister$Notice;)V" } : Jvm.MethodName)) ∈ uw := uw_of (List.mem_append_right _ (List.mem_append_right _ (List.mem_append_left _ (List.mem_of_getElem? (i := 102) rfl : _ ∈ tables_1_3)))) (by rfl)
set_option maxRecDepth 4000 in
theorem u584 : (Jvm.Cond.instanceMethod ({ cls := "WeddingRegister", name := "fillPlan", desc := "(ILWeddingRegister$Notice;)V" } : Jvm.MethodName)) ∈ uw := uw_of (List.mem_append_right _ (List.mem_append_right _ (List.mem_append_left _ (List.mem_of_getElem? (i := 104) rfl : _ ∈ tables_1_3)))) (by rfl)
set_option maxRecDepth 4000 in
theorem u585 : (Jvm.Cond.code ({ cls := "WeddingRegister", name := "fillPlan", desc := "(ILWeddingRegister$Notice;)V" } : Jvm.MethodName) prog_1_method_51_code (5 : Nat) (Option.none : Option Jvm.ClassFile.FieldType)) ∈ uw := uw_of (List.mem_append_right _ (List.mem_append_right _ (List.mem_append_left _ (List.mem_of_getElem? (i := 105) rfl : _ ∈ tables_1_3)))) (by rfl)
set_option maxRecDepth 4000 in
theorem u586 : (Jvm.Cond.methodLink "WeddingRegister" (344 : Nat) ({ cls := "WeddingRegister$DayPlan", name := "clear", desc := "()V" } : Jvm.MethodName)) ∈ uw := uw_of (List.mem_append_right _ (List.mem_append_right _ (List.mem_append_left _ (List.mem_of_getElem? (i := 106) rfl : _ ∈ tables_1_3)))) (by rfl)
set_option maxRecDepth 4000 in
theorem u587 : (Jvm.Cond.instanceMethod ({ cls := "WeddingRegister$DayPlan", name := "clear", desc := "()V" } : Jvm.MethodName)) ∈ uw := uw_of (List.mem_append_right _ (List.mem_append_right _ (List.mem_append_left _ (List.mem_of_getElem? (i := 107) rfl : _ ∈ tables_1_3)))) (by rfl)
set_option maxRecDepth 4000 in
theorem u588 : (Jvm.Cond.selects "WeddingRegister$DayPlan" ({ cls := "WeddingRegister$DayPlan", name := "clear", desc := "()V" } : Jvm.MethodName) ({ cls := "WeddingRegister$DayPlan", name := "clear", desc := "()V" } : Jvm.MethodName)) ∈ uw := uw_of (List.mem_append_right _ (List.mem_append_right _ (List.mem_append_left _ (List.mem_of_getElem? (i := 108) rfl : _ ∈ tables_1_3)))) (by rfl)
set_option maxRecDepth 4000 in
theorem u589 : (Jvm.Cond.code ({ cls := "WeddingRegister$DayPlan", name := "clear", desc := "()V" } : Jvm.MethodName) prog_4_method_2_code (1 : Nat) (Option.none : Option Jvm.ClassFile.FieldType)) ∈ uw := uw_of (List.mem_append_right _ (List.mem_append_right _ (List.mem_append_left _ (List.mem_of_getElem? (i := 109) rfl : _ ∈ tables_1_3)))) (by rfl)
set_option maxRecDepth 4000 in
theorem u590 : (Jvm.Cond.methodLink "WeddingRegister$DayPlan" (18 : Nat) ({ cls := "java/util/Arrays", name := "fill", desc := "([II)V" } : Jvm.MethodName)) ∈ uw := uw_of (List.mem_append_right _ (List.mem_append_right _ (List.mem_append_left _ (List.mem_of_getElem? (i := 110) rfl : _ ∈ tables_1_3)))) (by rfl)
set_option maxRecDepth 4000 in
theorem u591 : (Jvm.Cond.static ({ cls := "java/util/Arrays", name := "fill", desc := "([II)V" } : Jvm.MethodName)) ∈ uw := uw_of (List.mem_append_right _ (List.mem_append_right _ (List.mem_append_left _ (List.mem_of_getElem? (i := 111) rfl : _ ∈ tables_1_3)))) (by rfl)
set_option maxRecDepth 4000 in
theorem u592 : (Jvm.Cond.code ({ cls := "java/util/Arrays", name := "fill", desc := "([II)V" } : Jvm.MethodName) prog_23_method_103_code (4 : Nat) (Option.none : Option Jvm.ClassFile.FieldType)) ∈ uw := uw_of (List.mem_append_right _ (List.mem_append_right _ (List.mem_append_left _ (List.mem_of_getElem? (i := 112) rfl : _ ∈ tables_1_3)))) (by rfl)
set_option maxRecDepth 4000 in
theorem u593 : (Jvm.Cond.methodLink "WeddingRegister" (263 : Nat) ({ cls := "WeddingRegister$Notice", name := "isBooked", desc := "()Z" } : Jvm.MethodName)) ∈ uw := uw_of (List.mem_append_right _ (List.mem_append_right _ (List.mem_append_left _ (List.mem_of_getElem? (i := 113) rfl : _ ∈ tables_1_3)))) (by rfl)
set_option maxRecDepth 4000 in
theorem u594 : (Jvm.Cond.instanceMethod ({ cls := "WeddingRegister$Notice", name := "isBooked", desc := "()Z" } : Jvm.MethodName)) ∈ uw := uw_of (List.mem_append_right _ (List.mem_append_right _ (List.mem_append_left _ (List.mem_of_getElem? (i := 114) rfl : _ ∈ tables_1_3)))) (by rfl)
set_option maxRecDepth 4000 in
theorem u595 : (Jvm.Cond.selects "WeddingRegister$Notice" ({ cls := "WeddingRegister$Notice", name := "isBooked", desc := "()Z" } : Jvm.MethodName) ({ cls := "WeddingRegister$Notice", name := "isBooked", desc := "()Z" } : Jvm.MethodName)) ∈ uw := uw_of (List.mem_append_right _ (List.mem_append_right _ (List.mem_append_left _ (List.mem_of_getElem? (i := 115) rfl : _ ∈ tables_1_3)))) (by rfl)
set_option maxRecDepth 4000 in
theorem u596 : (Jvm.Cond.code ({ cls := "WeddingRegister$Notice", name := "isBooked", desc := "()Z" } : Jvm.MethodName) prog_8_method_3_code (1 : Nat) (Option.some Jvm.ClassFile.FieldType.boolean)) ∈ uw := uw_of (List.mem_append_right _ (List.mem_append_right _ (List.mem_append_left _ (List.mem_of_getElem? (i := 116) rfl : _ ∈ tables_1_3)))) (by rfl)
set_option maxRecDepth 4000 in
theorem u597 : (Jvm.Cond.methodLink "WeddingRegister" (347 : Nat) ({ cls := "WeddingRegister$DayPlan", name := "take", desc := "(I)V" } : Jvm.MethodName)) ∈ uw := uw_of (List.mem_append_right _ (List.mem_append_right _ (List.mem_append_left _ (List.mem_of_getElem? (i := 117) rfl : _ ∈ tables_1_3)))) (by rfl)
set_option maxRecDepth 4000 in
theorem u598 : (Jvm.Cond.instanceMethod ({ cls := "WeddingRegister$DayPlan", name := "take", desc := "(I)V" } : Jvm.MethodName)) ∈ uw := uw_of (List.mem_append_right _ (List.mem_append_right _ (List.mem_append_left _ (List.mem_of_getElem? (i := 118) rfl : _ ∈ tables_1_3)))) (by rfl)
set_option maxRecDepth 4000 in
theorem u599 : (Jvm.Cond.selects "WeddingRegister$DayPlan" ({ cls := "WeddingRegister$DayPlan", name := "take", desc := "(I)V" } : Jvm.MethodName) ({ cls := "WeddingRegister$DayPlan", name := "take", desc := "(I)V" } : Jvm.MethodName)) ∈ uw := uw_of (List.mem_append_right _ (List.mem_append_right _ (List.mem_append_left _ (List.mem_of_getElem? (i := 119) rfl : _ ∈ tables_1_3)))) (by rfl)
set_option maxRecDepth 4000 in
theorem u600 : (Jvm.Cond.code ({ cls := "WeddingRegister$DayPlan", name := "take", desc := "(I)V" } : Jvm.MethodName) prog_4_method_3_code (4 : Nat) (Option.none : Option Jvm.ClassFile.FieldType)) ∈ uw := uw_of (List.mem_append_right _ (List.mem_append_right _ (List.mem_append_left _ (List.mem_of_getElem? (i := 120) rfl : _ ∈ tables_1_3)))) (by rfl)
set_option maxRecDepth 4000 in
theorem u601 : (Jvm.Cond.methodLinkNest "WeddingRegister$DayPlan" (24 : Nat) ({ cls := "WeddingRegister", name := "hourOf", desc := "(I)I" } : Jvm.MethodName) "WeddingRegister") ∈ lw_tbl := List.mem_append_right _ (List.mem_append_right _ (List.mem_append_right _ (List.mem_append_left _ (List.mem_of_getElem? (i := 121) rfl : _ ∈ tables_1_3))))
set_option maxRecDepth 4000 in
theorem u602 : (Jvm.Cond.methodLinkNest "WeddingRegister$DayPlan" (28 : Nat) ({ cls := "WeddingRegister", name := "registrarOf", desc := "(I)I" } : Jvm.MethodName) "WeddingRegister") ∈ lw_tbl := List.mem_append_right _ (List.mem_append_right _ (List.mem_append_right _ (List.mem_append_left _ (List.mem_of_getElem? (i := 122) rfl : _ ∈ tables_1_3))))
set_option maxRecDepth 4000 in
theorem u603 : (Jvm.Cond.methodLink "WeddingRegister$DayPlan" (31 : Nat) ({ cls := "WeddingRegister$DayPlan", name := "placeOf", desc := "(II)I" } : Jvm.MethodName)) ∈ uw := uw_of (List.mem_append_right _ (List.mem_append_right _ (List.mem_append_left _ (List.mem_of_getElem? (i := 123) rfl : _ ∈ tables_1_3)))) (by rfl)
set_option maxRecDepth 4000 in
theorem u605 : (Jvm.Cond.instanceMethod ({ cls := "WeddingRegister$DayPlan", name := "placeOf", desc := "(II)I" } : Jvm.MethodName)) ∈ uw := uw_of (List.mem_append_right _ (List.mem_append_right _ (List.mem_append_left _ (List.mem_of_getElem? (i := 125) rfl : _ ∈ tables_1_3)))) (by rfl)
set_option maxRecDepth 4000 in
theorem u606 : (Jvm.Cond.code ({ cls := "WeddingRegister$DayPlan", name := "placeOf", desc := "(II)I" } : Jvm.MethodName) prog_4_method_7_code (4 : Nat) (Option.some Jvm.ClassFile.FieldType.int)) ∈ uw := uw_of (List.mem_append_right _ (List.mem_append_right _ (List.mem_append_left _ (List.mem_of_getElem? (i := 126) rfl : _ ∈ tables_1_3)))) (by rfl)
set_option maxRecDepth 4000 in
theorem u607 : (Jvm.Cond.methodLinkNest "WeddingRegister$DayPlan" (35 : Nat) ({ cls := "WeddingRegister", name := "hallOf", desc := "(I)I" } : Jvm.MethodName) "WeddingRegister") ∈ lw_tbl := List.mem_append_right _ (List.mem_append_right _ (List.mem_append_right _ (List.mem_append_left _ (List.mem_of_getElem? (i := 127) rfl : _ ∈ tables_1_3))))
set_option maxRecDepth 4000 in
theorem u608 : (Jvm.Cond.methodLink "WeddingRegister" (202 : Nat) ({ cls := "WeddingRegister", name := "barToSlot", desc := "(LWeddingRegister$Notice;I)I" } : Jvm.MethodName)) ∈ uw := uw_of (List.mem_append_right _ (List.mem_append_right _ (List.mem_append_left _ (List.mem_of_getElem? (i := 128) rfl : _ ∈ tables_1_3)))) (by rfl)
set_option maxRecDepth 4000 in
theorem u610 : (Jvm.Cond.instanceMethod ({ cls := "WeddingRegister", name := "barToSlot", desc := "(LWeddingRegister$Notice;I)I" } : Jvm.MethodName)) ∈ uw := uw_of (List.mem_append_right _ (List.mem_append_right _ (List.mem_append_left _ (List.mem_of_getElem? (i := 130) rfl : _ ∈ tables_1_3)))) (by rfl)
set_option maxRecDepth 4000 in
theorem u611 : (Jvm.Cond.code ({ cls := "WeddingRegister", name := "barToSlot", desc := "(LWeddingRegister$Notice;I)I" } : Jvm.MethodName) prog_1_method_53_code (4 : Nat) (Option.some Jvm.ClassFile.FieldType.int)) ∈ uw := uw_of (List.mem_append_right _ (List.mem_append_right _ (List.mem_append_left _ (List.mem_of_getElem? (i := 131) rfl : _ ∈ tables_1_3)))) (by rfl)
set_option maxRecDepth 4000 in
theorem u612 : (Jvm.Cond.methodLink "WeddingRegister" (350 : Nat) ({ cls := "WeddingRegister$DayPlan", name := "barTo", desc := "(I)I" } : Jvm.MethodName)) ∈ uw := uw_of (List.mem_append_right _ (List.mem_append_right _ (List.mem_append_left _ (List.mem_of_getElem? (i := 132) rfl : _ ∈ tables_1_3)))) (by rfl)
set_option maxRecDepth 4000 in
theorem u613 : (Jvm.Cond.instanceMethod ({ cls := "WeddingRegister$DayPlan", name := "barTo", desc := "(I)I" } : Jvm.MethodName)) ∈ uw := uw_of (List.mem_append_right _ (List.mem_append_right _ (List.mem_append_left _ (List.mem_of_getElem? (i := 133) rfl : _ ∈ tables_1_3)))) (by rfl)
set_option maxRecDepth 4000 in
theorem u614 : (Jvm.Cond.selects "WeddingRegister$DayPlan" ({ cls := "WeddingRegister$DayPlan", name := "barTo", desc := "(I)I" } : Jvm.MethodName) ({ cls := "WeddingRegister$DayPlan", name := "barTo", desc := "(I)I" } : Jvm.MethodName)) ∈ uw := uw_of (List.mem_append_right _ (List.mem_append_right _ (List.mem_append_left _ (List.mem_of_getElem? (i := 134) rfl : _ ∈ tables_1_3)))) (by rfl)
set_option maxRecDepth 4000 in
theorem u615 : (Jvm.Cond.code ({ cls := "WeddingRegister$DayPlan", name := "barTo", desc := "(I)I" } : Jvm.MethodName) prog_4_method_4_code (7 : Nat) (Option.some Jvm.ClassFile.FieldType.int)) ∈ uw := uw_of (List.mem_append_right _ (List.mem_append_right _ (List.mem_append_left _ (List.mem_of_getElem? (i := 135) rfl : _ ∈ tables_1_3)))) (by rfl)
set_option maxRecDepth 4000 in
theorem u616 : (Jvm.Cond.methodLink "WeddingRegister$DayPlan" (38 : Nat) ({ cls := "WeddingRegister$DayPlan", name := "isTaken", desc := "(II)Z" } : Jvm.MethodName)) ∈ uw := uw_of (List.mem_append_right _ (List.mem_append_right _ (List.mem_append_left _ (List.mem_of_getElem? (i := 136) rfl : _ ∈ tables_1_3)))) (by rfl)
set_option maxRecDepth 4000 in
theorem u618 : (Jvm.Cond.instanceMethod ({ cls := "WeddingRegister$DayPlan", name := "isTaken", desc := "(II)Z" } : Jvm.MethodName)) ∈ uw := uw_of (List.mem_append_right _ (List.mem_append_right _ (List.mem_append_left _ (List.mem_of_getElem? (i := 138) rfl : _ ∈ tables_1_3)))) (by rfl)
set_option maxRecDepth 4000 in
theorem u619 : (Jvm.Cond.code ({ cls := "WeddingRegister$DayPlan", name := "isTaken", desc := "(II)Z" } : Jvm.MethodName) prog_4_method_5_code (4 : Nat) (Option.some Jvm.ClassFile.FieldType.boolean)) ∈ uw := uw_of (List.mem_append_right _ (List.mem_append_right _ (List.mem_append_left _ (List.mem_of_getElem? (i := 139) rfl : _ ∈ tables_1_3)))) (by rfl)
set_option maxRecDepth 4000 in
theorem u620 : (Jvm.Cond.methodLink "WeddingRegister$DayPlan" (42 : Nat) ({ cls := "WeddingRegister$DayPlan", name := "hallAt", desc := "(II)I" } : Jvm.MethodName)) ∈ uw := uw_of (List.mem_append_right _ (List.mem_append_right _ (List.mem_append_left _ (List.mem_of_getElem? (i := 140) rfl : _ ∈ tables_1_3)))) (by rfl)
set_option maxRecDepth 4000 in
theorem u622 : (Jvm.Cond.instanceMethod ({ cls := "WeddingRegister$DayPlan", name := "hallAt", desc := "(II)I" } : Jvm.MethodName)) ∈ uw := uw_of (List.mem_append_right _ (List.mem_append_right _ (List.mem_append_left _ (List.mem_of_getElem? (i := 142) rfl : _ ∈ tables_1_3)))) (by rfl)
set_option maxRecDepth 4000 in
theorem u623 : (Jvm.Cond.code ({ cls := "WeddingRegister$DayPlan", name := "hallAt", desc := "(II)I" } : Jvm.MethodName) prog_4_method_6_code (4 : Nat) (Option.some Jvm.ClassFile.FieldType.int)) ∈ uw := uw_of (List.mem_append_right _ (List.mem_append_right _ (List.mem_append_left _ (List.mem_of_getElem? (i := 143) rfl : _ ∈ tables_1_3)))) (by rfl)
set_option maxRecDepth 4000 in
theorem u624 : (Jvm.Cond.methodLink "WeddingRegister" (353 : Nat) ({ cls := "WeddingRegister", name := "speaksWithBoth", desc := "(ILWeddingRegister$Notice;)Z" } : Jvm.MethodName)) ∈ uw := uw_of (List.mem_append_right _ (List.mem_append_right _ (List.mem_append_left _ (List.mem_of_getElem? (i := 144) rfl : _ ∈ tables_1_3)))) (by rfl)
set_option maxRecDepth 4000 in
theorem u626 : (Jvm.Cond.instanceMethod ({ cls := "WeddingRegister", name := "speaksWithBoth", desc := "(ILWeddingRegister$Notice;)Z" } : Jvm.MethodName)) ∈ uw := uw_of (List.mem_append_right _ (List.mem_append_right _ (List.mem_append_left _ (List.mem_of_getElem? (i := 146) rfl : _ ∈ tables_1_3)))) (by rfl)
set_option maxRecDepth 4000 in
theorem u627 : (Jvm.Cond.code ({ cls := "WeddingRegister", name := "speaksWithBoth", desc := "(ILWeddingRegister$Notice;)Z" } : Jvm.MethodName) prog_1_method_54_code (4 : Nat) (Option.some Jvm.ClassFile.FieldType.boolean)) ∈ uw := uw_of (List.mem_append_right _ (List.mem_append_right _ (List.mem_append_left _ (List.mem_of_getElem? (i := 147) rfl : _ ∈ tables_1_3)))) (by rfl)
set_option maxRecDepth 4000 in
theorem u628 : (Jvm.Cond.methodLink "WeddingRegisterLaw" (81 : Nat) ({ cls := "WeddingRegister", name := "order", desc := "(I)I" } : Jvm.MethodName)) ∈ uw := uw_of (List.mem_append_right _ (List.mem_append_right _ (List.mem_append_left _ (List.mem_of_getElem? (i := 148) rfl : _ ∈ tables_1_3)))) (by rfl)
set_option maxRecDepth 4000 in
theorem u629 : (Jvm.Cond.instanceMethod ({ cls := "WeddingRegister", name := "order", desc := "(I)I" } : Jvm.MethodName)) ∈ uw := uw_of (List.mem_append_right _ (List.mem_append_right _ (List.mem_append_left _ (List.mem_of_getElem? (i := 149) rfl : _ ∈ tables_1_3)))) (by rfl)
set_option maxRecDepth 4000 in
theorem u630 : (Jvm.Cond.selects "WeddingRegister" ({ cls := "WeddingRegister", name := "order", desc := "(I)I" } : Jvm.MethodName) ({ cls := "WeddingRegister", name := "order", desc := "(I)I" } : Jvm.MethodName)) ∈ uw := uw_of (List.mem_append_right _ (List.mem_append_right _ (List.mem_append_left _ (List.mem_of_getElem? (i := 150) rfl : _ ∈ tables_1_3)))) (by rfl)
set_option maxRecDepth 4000 in
theorem u631 : (Jvm.Cond.code ({ cls := "WeddingRegister", name := "order", desc := "(I)I" } : Jvm.MethodName) prog_1_method_17_code (4 : Nat) (Option.some Jvm.ClassFile.FieldType.int)) ∈ uw := uw_of (List.mem_append_right _ (List.mem_append_right _ (List.mem_append_left _ (List.mem_of_getElem? (i := 151) rfl : _ ∈ tables_1_3)))) (by rfl)
set_option maxRecDepth 4000 in
theorem u632 : (Jvm.Cond.methodLink "WeddingRegister" (205 : Nat) ({ cls := "WeddingRegister", name := "bookByOrder", desc := "(LWeddingRegister$Notice;I)Z" } : Jvm.MethodName)) ∈ uw := uw_of (List.mem_append_right _ (List.mem_append_right _ (List.mem_append_left _ (List.mem_of_getElem? (i := 152) rfl : _ ∈ tables_1_3)))) (by rfl)
set_option maxRecDepth 4000 in
theorem u634 : (Jvm.Cond.instanceMethod ({ cls := "WeddingRegister", name := "bookByOrder", desc := "(LWeddingRegister$Notice;I)Z" } : Jvm.MethodName)) ∈ uw := uw_of (List.mem_append_right _ (List.mem_append_right _ (List.mem_append_left _ (List.mem_of_getElem? (i := 154) rfl : _ ∈ tables_1_3)))) (by rfl)
set_option maxRecDepth 4000 in
theorem u635 : (Jvm.Cond.code ({ cls := "WeddingRegister", name := "bookByOrder", desc := "(LWeddingRegister$Notice;I)Z" } : Jvm.MethodName) prog_1_method_55_code (4 : Nat) (Option.some Jvm.ClassFile.FieldType.boolean)) ∈ uw := uw_of (List.mem_append_right _ (List.mem_append_right _ (List.mem_append_left _ (List.mem_of_getElem? (i := 155) rfl : _ ∈ tables_1_3)))) (by rfl)
set_option maxRecDepth 4000 in
theorem u636 : (Jvm.Cond.methodLink "WeddingRegister" (360 : Nat) ({ cls := "WeddingRegister", name := "firstFreeSlot", desc := "(LWeddingRegister$Notice;)I" } : Jvm.MethodName)) ∈ uw := uw_of (List.mem_append_right _ (List.mem_append_right _ (List.mem_append_left _ (List.mem_of_getElem? (i := 156) rfl : _ ∈ tables_1_3)))) (by rfl)
set_option maxRecDepth 4000 in
theorem u638 : (Jvm.Cond.instanceMethod ({ cls := "WeddingRegister", name := "firstFreeSlot", desc := "(LWeddingRegister$Notice;)I" } : Jvm.MethodName)) ∈ uw := uw_of (List.mem_append_right _ (List.mem_append_right _ (List.mem_append_left _ (List.mem_of_getElem? (i := 158) rfl : _ ∈ tables_1_3)))) (by rfl)
set_option maxRecDepth 4000 in
theorem u639 : (Jvm.Cond.code ({ cls := "WeddingRegister", name := "firstFreeSlot", desc := "(LWeddingRegister$Notice;)I" } : Jvm.MethodName) prog_1_method_56_code (6 : Nat) (Option.some Jvm.ClassFile.FieldType.int)) ∈ uw := uw_of (List.mem_append_right _ (List.mem_append_right _ (List.mem_append_left _ (List.mem_of_getElem? (i := 159) rfl : _ ∈ tables_1_3)))) (by rfl)
set_option maxRecDepth 4000 in
theorem u640 : (Jvm.Cond.methodLink "WeddingRegister" (363 : Nat) ({ cls := "WeddingRegister", name := "slotOf", desc := "(III)I" } : Jvm.MethodName)) ∈ uw := uw_of (List.mem_append_right _ (List.mem_append_right _ (List.mem_append_left _ (List.mem_of_getElem? (i := 160) rfl : _ ∈ tables_1_3)))) (by rfl)
set_option maxRecDepth 4000 in
theorem u641 : (Jvm.Cond.static ({ cls := "WeddingRegister", name := "slotOf", desc := "(III)I" } : Jvm.MethodName)) ∈ uw := uw_of (List.mem_append_right _ (List.mem_append_right _ (List.mem_append_left _ (List.mem_of_getElem? (i := 161) rfl : _ ∈ tables_1_3)))) (by rfl)
set_option maxRecDepth 4000 in
theorem u642 : (Jvm.Cond.code ({ cls := "WeddingRegister", name := "slotOf", desc := "(III)I" } : Jvm.MethodName) prog_1_method_47_code (3 : Nat) (Option.some Jvm.ClassFile.FieldType.int)) ∈ uw := uw_of (List.mem_append_right _ (List.mem_append_right _ (List.mem_append_left _ (List.mem_of_getElem? (i := 162) rfl : _ ∈ tables_1_3)))) (by rfl)
set_option maxRecDepth 4000 in
theorem u643 : (Jvm.Cond.methodLink "WeddingRegisterLaw" (85 : Nat) ({ cls := "WeddingRegister", name := "wed", desc := "(I)I" } : Jvm.MethodName)) ∈ uw := uw_of (List.mem_append_right _ (List.mem_append_right _ (List.mem_append_left _ (List.mem_of_getElem? (i := 163) rfl : _ ∈ tables_1_3)))) (by rfl)
set_option maxRecDepth 4000 in
theorem u644 : (Jvm.Cond.instanceMethod ({ cls := "WeddingRegister", name := "wed", desc := "(I)I" } : Jvm.MethodName)) ∈ uw := uw_of (List.mem_append_right _ (List.mem_append_right _ (List.mem_append_left _ (List.mem_of_getElem? (i := 164) rfl : _ ∈ tables_1_3)))) (by rfl)
set_option maxRecDepth 4000 in
theorem u645 : (Jvm.Cond.selects "WeddingRegister" ({ cls := "WeddingRegister", name := "wed", desc := "(I)I" } : Jvm.MethodName) ({ cls := "WeddingRegister", name := "wed", desc := "(I)I" } : Jvm.MethodName)) ∈ uw := uw_of (List.mem_append_right _ (List.mem_append_right _ (List.mem_append_left _ (List.mem_of_getElem? (i := 165) rfl : _ ∈ tables_1_3)))) (by rfl)
set_option maxRecDepth 4000 in
theorem u646 : (Jvm.Cond.code ({ cls := "WeddingRegister", name := "wed", desc := "(I)I" } : Jvm.MethodName) prog_1_method_18_code (4 : Nat) (Option.some Jvm.ClassFile.FieldType.int)) ∈ uw := uw_of (List.mem_append_right _ (List.mem_append_right _ (List.mem_append_left _ (List.mem_of_getElem? (i := 166) rfl : _ ∈ tables_1_3)))) (by rfl)
set_option maxRecDepth 4000 in
theorem u647 : (Jvm.Cond.classLink "WeddingRegister" (221 : Nat) "WeddingRegister$Entry") ∈ uw := uw_of (List.mem_append_right _ (List.mem_append_right _ (List.mem_append_left _ (List.mem_of_getElem? (i := 167) rfl : _ ∈ tables_1_3)))) (by rfl)
set_option maxRecDepth 4000 in
theorem u648 : (Jvm.Cond.instantiable "WeddingRegister$Entry" (6 : Nat)) ∈ uw := uw_of (List.mem_append_right _ (List.mem_append_right _ (List.mem_append_left _ (List.mem_of_getElem? (i := 168) rfl : _ ∈ tables_1_3)))) (by rfl)
set_option maxRecDepth 4000 in
theorem u649 : (Jvm.Cond.methodLink "WeddingRegister" (223 : Nat) ({ cls := "WeddingRegister$Entry", name := "<init>", desc := "(LWeddingRegister$Notice;I)V" } : Jvm.MethodName)) ∈ uw := uw_of (List.mem_append_right _ (List.mem_append_right _ (List.mem_append_left _ (List.mem_of_getElem? (i := 169) rfl : _ ∈ tables_1_3)))) (by rfl)
set_option maxRecDepth 4000 in
theorem u650 : (Jvm.Cond.instanceMethod ({ cls := "WeddingRegister$Entry", name := "<init>", desc := "(LWeddingRegister$Notice;I)V" } : Jvm.MethodName)) ∈ uw := uw_of (List.mem_append_right _ (List.mem_append_right _ (List.mem_append_left _ (List.mem_of_getElem? (i := 170) rfl : _ ∈ tables_1_3)))) (by rfl)
set_option maxRecDepth 4000 in
theorem u651 : (Jvm.Cond.code ({ cls := "WeddingRegister$Entry", name := "<init>", desc := "(LWeddingRegister$Notice;I)V" } : Jvm.MethodName) prog_5_method_1_code (3 : Nat) (Option.none : Option Jvm.ClassFile.FieldType)) ∈ uw := uw_of (List.mem_append_right _ (List.mem_append_right _ (List.mem_append_left _ (List.mem_of_getElem? (i := 171) rfl : _ ∈ tables_1_3)))) (by rfl)
set_option maxRecDepth 4000 in
theorem u652 : (Jvm.Cond.methodLink "WeddingRegister$Entry" (3 : Nat) ({ cls := "java/lang/Object", name := "<init>", desc := "()V" } : Jvm.MethodName)) ∈ uw := uw_of (List.mem_append_right _ (List.mem_append_right _ (List.mem_append_left _ (List.mem_of_getElem? (i := 172) rfl : _ ∈ tables_1_3)))) (by rfl)
set_option maxRecDepth 4000 in
theorem u653 : (Jvm.Cond.methodLinkNest "WeddingRegister$Entry" (42 : Nat) ({ cls := "WeddingRegister", name := "hallOf", desc := "(I)I" } : Jvm.MethodName) "WeddingRegister") ∈ lw_tbl := List.mem_append_right _ (List.mem_append_right _ (List.mem_append_right _ (List.mem_append_left _ (List.mem_of_getElem? (i := 173) rfl : _ ∈ tables_1_3))))
set_option maxRecDepth 4000 in
theorem u654 : (Jvm.Cond.methodLinkNest "WeddingRegister$Entry" (49 : Nat) ({ cls := "WeddingRegister", name := "registrarOf", desc := "(I)I" } : Jvm.MethodName) "WeddingRegister") ∈ lw_tbl := List.mem_append_right _ (List.mem_append_right _ (List.mem_append_right _ (List.mem_append_left _ (List.mem_of_getElem? (i := 174) rfl : _ ∈ tables_1_3))))
set_option maxRecDepth 4000 in
theorem u655 : (Jvm.Cond.fieldLink "WeddingRegister$Entry" (9 : Nat) "WeddingRegister$Entry" "notice" "LWeddingRegister$Notice;") ∈ uw := uw_of (List.mem_append_right _ (List.mem_append_right _ (List.mem_append_left _ (List.mem_of_getElem? (i := 175) rfl : _ ∈ tables_1_3)))) (by rfl)
set_option maxRecDepth 4000 in
theorem u656 : (Jvm.Cond.fieldLink "WeddingRegister" (367 : Nat) "WeddingRegister$Entry" "notice" "LWeddingRegister$Notice;") ∈ uw := uw_of (List.mem_append_right _ (List.mem_append_right _ (List.mem_append_left _ (List.mem_of_getElem? (i := 176) rfl : _ ∈ tables_1_3)))) (by rfl)
set_option maxRecDepth 4000 in
theorem u657 : (Jvm.Cond.fieldLink "WeddingRegister$Entry" (15 : Nat) "WeddingRegister$Entry" "day" "I") ∈ uw := uw_of (List.mem_append_right _ (List.mem_append_right _ (List.mem_append_left _ (List.mem_of_getElem? (i := 177) rfl : _ ∈ tables_1_3)))) (by rfl)
set_option maxRecDepth 4000 in
theorem u658 : (Jvm.Cond.fieldLink "WeddingRegister" (233 : Nat) "WeddingRegister$Entry" "day" "I") ∈ uw := uw_of (List.mem_append_right _ (List.mem_append_right _ (List.mem_append_left _ (List.mem_of_getElem? (i := 178) rfl : _ ∈ tables_1_3)))) (by rfl)
set_option maxRecDepth 4000 in
theorem u659 : (Jvm.Cond.fieldLink "WeddingRegister$Entry" (30 : Nat) "WeddingRegister$Entry" "firstName" "I") ∈ uw := uw_of (List.mem_append_right _ (List.mem_append_right _ (List.mem_append_left _ (List.mem_of_getElem? (i := 179) rfl : _ ∈ tables_1_3)))) (by rfl)
set_option maxRecDepth 4000 in
theorem u660 : (Jvm.Cond.fieldLink "WeddingRegister" (371 : Nat) "WeddingRegister$Entry" "firstName" "I") ∈ uw := uw_of (List.mem_append_right _ (List.mem_append_right _ (List.mem_append_left _ (List.mem_of_getElem? (i := 180) rfl : _ ∈ tables_1_3)))) (by rfl)
set_option maxRecDepth 4000 in
theorem u661 : (Jvm.Cond.fieldLink "WeddingRegister$Entry" (36 : Nat) "WeddingRegister$Entry" "secondName" "I") ∈ uw := uw_of (List.mem_append_right _ (List.mem_append_right _ (List.mem_append_left _ (List.mem_of_getElem? (i := 181) rfl : _ ∈ tables_1_3)))) (by rfl)
set_option maxRecDepth 4000 in
theorem u662 : (Jvm.Cond.fieldLink "WeddingRegister" (374 : Nat) "WeddingRegister$Entry" "secondName" "I") ∈ uw := uw_of (List.mem_append_right _ (List.mem_append_right _ (List.mem_append_left _ (List.mem_of_getElem? (i := 182) rfl : _ ∈ tables_1_3)))) (by rfl)
set_option maxRecDepth 4000 in
theorem u663 : (Jvm.Cond.fieldLink "WeddingRegister$Entry" (46 : Nat) "WeddingRegister$Entry" "hall" "I") ∈ uw := uw_of (List.mem_append_right _ (List.mem_append_right _ (List.mem_append_left _ (List.mem_of_getElem? (i := 183) rfl : _ ∈ tables_1_3)))) (by rfl)
set_option maxRecDepth 4000 in
theorem u664 : (Jvm.Cond.fieldLink "WeddingRegister$Entry" (52 : Nat) "WeddingRegister$Entry" "registrar" "I") ∈ uw := uw_of (List.mem_append_right _ (List.mem_append_right _ (List.mem_append_left _ (List.mem_of_getElem? (i := 184) rfl : _ ∈ tables_1_3)))) (by rfl)
set_option maxRecDepth 4000 in
theorem u665 : (Jvm.Cond.laysFinal "WeddingRegister$Entry" "WeddingRegister$Entry" "notice" "LWeddingRegister$Notice;") ∈ uw := uw_of (List.mem_append_right _ (List.mem_append_right _ (List.mem_append_left _ (List.mem_of_getElem? (i := 185) rfl : _ ∈ tables_1_3)))) (by rfl)
set_option maxRecDepth 4000 in
theorem u667 : (Jvm.Cond.laysFinal "WeddingRegister$Entry" "WeddingRegister$Entry" "day" "I") ∈ uw := uw_of (List.mem_append_right _ (List.mem_append_right _ (List.mem_append_left _ (List.mem_of_getElem? (i := 187) rfl : _ ∈ tables_1_3)))) (by rfl)
set_option maxRecDepth 4000 in
theorem u669 : (Jvm.Cond.laysFinal "WeddingRegister$Entry" "WeddingRegister$Entry" "firstName" "I") ∈ uw := uw_of (List.mem_append_right _ (List.mem_append_right _ (List.mem_append_left _ (List.mem_of_getElem? (i := 189) rfl : _ ∈ tables_1_3)))) (by rfl)
set_option maxRecDepth 4000 in
theorem u671 : (Jvm.Cond.laysFinal "WeddingRegister$Entry" "WeddingRegister$Entry" "secondName" "I") ∈ uw := uw_of (List.mem_append_right _ (List.mem_append_right _ (List.mem_append_left _ (List.mem_of_getElem? (i := 191) rfl : _ ∈ tables_1_3)))) (by rfl)
set_option maxRecDepth 4000 in
theorem u673 : (Jvm.Cond.laysFinal "WeddingRegister$Entry" "WeddingRegister$Entry" "hall" "I") ∈ uw := uw_of (List.mem_append_right _ (List.mem_append_right _ (List.mem_append_left _ (List.mem_of_getElem? (i := 193) rfl : _ ∈ tables_1_3)))) (by rfl)
set_option maxRecDepth 4000 in
theorem u675 : (Jvm.Cond.laysFinal "WeddingRegister$Entry" "WeddingRegister$Entry" "registrar" "I") ∈ uw := uw_of (List.mem_append_right _ (List.mem_append_right _ (List.mem_append_left _ (List.mem_of_getElem? (i := 195) rfl : _ ∈ tables_1_3)))) (by rfl)
set_option maxRecDepth 4000 in
theorem u678 : (Jvm.Cond.methodLink "WeddingRegisterLaw" (89 : Nat) ({ cls := "WeddingRegister", name := "part", desc := "(I)Z" } : Jvm.MethodName)) ∈ uw := uw_of (List.mem_append_right _ (List.mem_append_right _ (List.mem_append_left _ (List.mem_of_getElem? (i := 198) rfl : _ ∈ tables_1_3)))) (by rfl)
set_option maxRecDepth 4000 in
theorem u679 : (Jvm.Cond.instanceMethod ({ cls := "WeddingRegister", name := "part", desc := "(I)Z" } : Jvm.MethodName)) ∈ uw := uw_of (List.mem_append_right _ (List.mem_append_right _ (List.mem_append_left _ (List.mem_of_getElem? (i := 199) rfl : _ ∈ tables_1_3)))) (by rfl)
set_option maxRecDepth 4000 in
theorem u680 : (Jvm.Cond.selects "WeddingRegister" ({ cls := "WeddingRegister", name := "part", desc := "(I)Z" } : Jvm.MethodName) ({ cls := "WeddingRegister", name := "part", desc := "(I)Z" } : Jvm.MethodName)) ∈ uw := uw_of (List.mem_append_right _ (List.mem_append_right _ (List.mem_append_left _ (List.mem_of_getElem? (i := 200) rfl : _ ∈ tables_1_3)))) (by rfl)
set_option maxRecDepth 4000 in
theorem u681 : (Jvm.Cond.code ({ cls := "WeddingRegister", name := "part", desc := "(I)Z" } : Jvm.MethodName) prog_1_method_19_code (4 : Nat) (Option.some Jvm.ClassFile.FieldType.boolean)) ∈ uw := uw_of (List.mem_append_right _ (List.mem_append_right _ (List.mem_append_left _ (List.mem_of_getElem? (i := 201) rfl : _ ∈ tables_1_3)))) (by rfl)
set_option maxRecDepth 4000 in
theorem u682 : (Jvm.Cond.methodLink "WeddingRegisterLaw" (93 : Nat) ({ cls := "WeddingRegister", name := "correct", desc := "(III)Z" } : Jvm.MethodName)) ∈ uw := uw_of (List.mem_append_right _ (List.mem_append_right _ (List.mem_append_left _ (List.mem_of_getElem? (i := 202) rfl : _ ∈ tables_1_3)))) (by rfl)
set_option maxRecDepth 4000 in
theorem u683 : (Jvm.Cond.instanceMethod ({ cls := "WeddingRegister", name := "correct", desc := "(III)Z" } : Jvm.MethodName)) ∈ uw := uw_of (List.mem_append_right _ (List.mem_append_right _ (List.mem_append_left _ (List.mem_of_getElem? (i := 203) rfl : _ ∈ tables_1_3)))) (by rfl)
set_option maxRecDepth 4000 in
theorem u684 : (Jvm.Cond.selects "WeddingRegister" ({ cls := "WeddingRegister", name := "correct", desc := "(III)Z" } : Jvm.MethodName) ({ cls := "WeddingRegister", name := "correct", desc := "(III)Z" } : Jvm.MethodName)) ∈ uw := uw_of (List.mem_append_right _ (List.mem_append_right _ (List.mem_append_left _ (List.mem_of_getElem? (i := 204) rfl : _ ∈ tables_1_3)))) (by rfl)
set_option maxRecDepth 4000 in
theorem u685 : (Jvm.Cond.code ({ cls := "WeddingRegister", name := "correct", desc := "(III)Z" } : Jvm.MethodName) prog_1_method_20_code (5 : Nat) (Option.some Jvm.ClassFile.FieldType.boolean)) ∈ uw := uw_of (List.mem_append_right _ (List.mem_append_right _ (List.mem_append_left _ (List.mem_of_getElem? (i := 205) rfl : _ ∈ tables_1_3)))) (by rfl)
set_option maxRecDepth 4000 in
theorem u686 : (Jvm.Cond.methodLink "WeddingRegister" (226 : Nat) ({ cls := "WeddingRegister", name := "entryAt", desc := "(I)LWeddingRegister$Entry;" } : Jvm.MethodName)) ∈ uw := uw_of (List.mem_append_right _ (List.mem_append_right _ (List.mem_append_left _ (List.mem_of_getElem? (i := 206) rfl : _ ∈ tables_1_3)))) (by rfl)
set_option maxRecDepth 4000 in
theorem u688 : (Jvm.Cond.instanceMethod ({ cls := "WeddingRegister", name := "entryAt", desc := "(I)LWeddingRegister$Entry;" } : Jvm.MethodName)) ∈ uw := uw_of (List.mem_append_right _ (List.mem_append_right _ (List.mem_append_left _ (List.mem_of_getElem? (i := 208) rfl : _ ∈ tables_1_3)))) (by rfl)
set_option maxRecDepth 4000 in
theorem u689 : (Jvm.Cond.code ({ cls := "WeddingRegister", name := "entryAt", desc := "(I)LWeddingRegister$Entry;" } : Jvm.MethodName) prog_1_method_31_code (2 : Nat) (Option.some (Jvm.ClassFile.FieldType.object "WeddingRegister$Entry"))) ∈ uw := uw_of (List.mem_append_right _ (List.mem_append_right _ (List.mem_append_left _ (List.mem_of_getElem? (i := 209) rfl : _ ∈ tables_1_3)))) (by rfl)
set_option maxRecDepth 4000 in
theorem u690 : (Jvm.Cond.classLink "WeddingRegister" (230 : Nat) "WeddingRegister$Correction") ∈ uw := uw_of (List.mem_append_right _ (List.mem_append_right _ (List.mem_append_left _ (List.mem_of_getElem? (i := 210) rfl : _ ∈ tables_1_3)))) (by rfl)
set_option maxRecDepth 4000 in
theorem u691 : (Jvm.Cond.instantiable "WeddingRegister$Correction" (4 : Nat)) ∈ uw := uw_of (List.mem_append_right _ (List.mem_append_right _ (List.mem_append_left _ (List.mem_of_getElem? (i := 211) rfl : _ ∈ tables_1_3)))) (by rfl)
set_option maxRecDepth 4000 in
theorem u692 : (Jvm.Cond.methodLink "WeddingRegister" (232 : Nat) ({ cls := "WeddingRegister$Correction", name := "<init>", desc := "(IIII)V" } : Jvm.MethodName)) ∈ uw := uw_of (List.mem_append_right _ (List.mem_append_right _ (List.mem_append_left _ (List.mem_of_getElem? (i := 212) rfl : _ ∈ tables_1_3)))) (by rfl)
set_option maxRecDepth 4000 in
theorem u693 : (Jvm.Cond.instanceMethod ({ cls := "WeddingRegister$Correction", name := "<init>", desc := "(IIII)V" } : Jvm.MethodName)) ∈ uw := uw_of (List.mem_append_right _ (List.mem_append_right _ (List.mem_append_left _ (List.mem_of_getElem? (i := 213) rfl : _ ∈ tables_1_3)))) (by rfl)
set_option maxRecDepth 4000 in
theorem u694 : (Jvm.Cond.code ({ cls := "WeddingRegister$Correction", name := "<init>", desc := "(IIII)V" } : Jvm.MethodName) prog_3_method_1_code (5 : Nat) (Option.none : Option Jvm.ClassFile.FieldType)) ∈ uw := uw_of (List.mem_append_right _ (List.mem_append_right _ (List.mem_append_left _ (List.mem_of_getElem? (i := 214) rfl : _ ∈ tables_1_3)))) (by rfl)
set_option maxRecDepth 4000 in
theorem u695 : (Jvm.Cond.methodLink "WeddingRegister$Correction" (1 : Nat) ({ cls := "java/lang/Object", name := "<init>", desc := "()V" } : Jvm.MethodName)) ∈ uw := uw_of (List.mem_append_right _ (List.mem_append_right _ (List.mem_append_left _ (List.mem_of_getElem? (i := 215) rfl : _ ∈ tables_1_3)))) (by rfl)
set_option maxRecDepth 4000 in
theorem u696 : (Jvm.Cond.fieldLink "WeddingRegister$Correction" (7 : Nat) "WeddingRegister$Correction" "entry" "I") ∈ uw := uw_of (List.mem_append_right _ (List.mem_append_right _ (List.mem_append_left _ (List.mem_of_getElem? (i := 216) rfl : _ ∈ tables_1_3)))) (by rfl)
set_option maxRecDepth 4000 in
theorem u697 : (Jvm.Cond.fieldLink "WeddingRegister" (236 : Nat) "WeddingRegister$Correction" "entry" "I") ∈ uw := uw_of (List.mem_append_right _ (List.mem_append_right _ (List.mem_append_left _ (List.mem_of_getElem? (i := 217) rfl : _ ∈ tables_1_3)))) (by rfl)
set_option maxRecDepth 4000 in
theorem u698 : (Jvm.Cond.fieldLink "WeddingRegister$Correction" (13 : Nat) "WeddingRegister$Correction" "field" "I") ∈ uw := uw_of (List.mem_append_right _ (List.mem_append_right _ (List.mem_append_left _ (List.mem_of_getElem? (i := 218) rfl : _ ∈ tables_1_3)))) (by rfl)
set_option maxRecDepth 4000 in
theorem u699 : (Jvm.Cond.fieldLink "WeddingRegister" (239 : Nat) "WeddingRegister$Correction" "field" "I") ∈ uw := uw_of (List.mem_append_right _ (List.mem_append_right _ (List.mem_append_left _ (List.mem_of_getElem? (i := 219) rfl : _ ∈ tables_1_3)))) (by rfl)
set_option maxRecDepth 4000 in
theorem u700 : (Jvm.Cond.fieldLink "WeddingRegister$Correction" (16 : Nat) "WeddingRegister$Correction" "value" "I") ∈ uw := uw_of (List.mem_append_right _ (List.mem_append_right _ (List.mem_append_left _ (List.mem_of_getElem? (i := 220) rfl : _ ∈ tables_1_3)))) (by rfl)
set_option maxRecDepth 4000 in
theorem u701 : (Jvm.Cond.fieldLink "WeddingRegister" (243 : Nat) "WeddingRegister$Correction" "value" "I") ∈ uw := uw_of (List.mem_append_right _ (List.mem_append_right _ (List.mem_append_left _ (List.mem_of_getElem? (i := 221) rfl : _ ∈ tables_1_3)))) (by rfl)
set_option maxRecDepth 4000 in
theorem u702 : (Jvm.Cond.fieldLink "WeddingRegister$Correction" (19 : Nat) "WeddingRegister$Correction" "day" "I") ∈ uw := uw_of (List.mem_append_right _ (List.mem_append_right _ (List.mem_append_left _ (List.mem_of_getElem? (i := 222) rfl : _ ∈ tables_1_3)))) (by rfl)
set_option maxRecDepth 4000 in
theorem u703 : (Jvm.Cond.fieldLink "WeddingRegister" (242 : Nat) "WeddingRegister$Correction" "day" "I") ∈ uw := uw_of (List.mem_append_right _ (List.mem_append_right _ (List.mem_append_left _ (List.mem_of_getElem? (i := 223) rfl : _ ∈ tables_1_3)))) (by rfl)
set_option maxRecDepth 4000 in
theorem u704 : (Jvm.Cond.laysFinal "WeddingRegister$Correction" "WeddingRegister$Correction" "entry" "I") ∈ uw := uw_of (List.mem_append_right _ (List.mem_append_right _ (List.mem_append_left _ (List.mem_of_getElem? (i := 224) rfl : _ ∈ tables_1_3)))) (by rfl)
set_option maxRecDepth 4000 in
theorem u706 : (Jvm.Cond.laysFinal "WeddingRegister$Correction" "WeddingRegister$Correction" "field" "I") ∈ uw := uw_of (List.mem_append_right _ (List.mem_append_right _ (List.mem_append_left _ (List.mem_of_getElem? (i := 226) rfl : _ ∈ tables_1_3)))) (by rfl)
set_option maxRecDepth 4000 in
theorem u708 : (Jvm.Cond.laysFinal "WeddingRegister$Correction" "WeddingRegister$Correction" "value" "I") ∈ uw := uw_of (List.mem_append_right _ (List.mem_append_right _ (List.mem_append_left _ (List.mem_of_getElem? (i := 228) rfl : _ ∈ tables_1_3)))) (by rfl)
set_option maxRecDepth 4000 in
theorem u710 : (Jvm.Cond.laysFinal "WeddingRegister$Correction" "WeddingRegister$Correction" "day" "I") ∈ uw := uw_of (List.mem_append_right _ (List.mem_append_right _ (List.mem_append_left _ (List.mem_of_getElem? (i := 230) rfl : _ ∈ tables_1_3)))) (by rfl)
set_option maxRecDepth 4000 in
theorem u713 : (Jvm.Cond.methodLink "WeddingRegisterLaw" (97 : Nat) ({ cls := "WeddingRegister", name := "entry", desc := "(III)I" } : Jvm.MethodName)) ∈ uw := uw_of (List.mem_append_right _ (List.mem_append_right _ (List.mem_append_left _ (List.mem_of_getElem? (i := 233) rfl : _ ∈ tables_1_3)))) (by rfl)
set_option maxRecDepth 4000 in
theorem u714 : (Jvm.Cond.instanceMethod ({ cls := "WeddingRegister", name := "entry", desc := "(III)I" } : Jvm.MethodName)) ∈ uw := uw_of (List.mem_append_right _ (List.mem_append_right _ (List.mem_append_left _ (List.mem_of_getElem? (i := 234) rfl : _ ∈ tables_1_3)))) (by rfl)
set_option maxRecDepth 4000 in
theorem u715 : (Jvm.Cond.selects "WeddingRegister" ({ cls := "WeddingRegister", name := "entry", desc := "(III)I" } : Jvm.MethodName) ({ cls := "WeddingRegister", name := "entry", desc := "(III)I" } : Jvm.MethodName)) ∈ uw := uw_of (List.mem_append_right _ (List.mem_append_right _ (List.mem_append_left _ (List.mem_of_getElem? (i := 235) rfl : _ ∈ tables_1_3)))) (by rfl)
set_option maxRecDepth 4000 in
theorem u716 : (Jvm.Cond.code ({ cls := "WeddingRegister", name := "entry", desc := "(III)I" } : Jvm.MethodName) prog_1_method_21_code (7 : Nat) (Option.some Jvm.ClassFile.FieldType.int)) ∈ uw := uw_of (List.mem_append_right _ (List.mem_append_right _ (List.mem_append_left _ (List.mem_of_getElem? (i := 236) rfl : _ ∈ tables_1_3)))) (by rfl)
set_option maxRecDepth 4000 in
theorem u717 : (Jvm.Cond.methodLink "WeddingRegister" (246 : Nat) ({ cls := "WeddingRegister$Entry", name := "written", desc := "(I)I" } : Jvm.MethodName)) ∈ uw := uw_of (List.mem_append_right _ (List.mem_append_right _ (List.mem_append_left _ (List.mem_of_getElem? (i := 237) rfl : _ ∈ tables_1_3)))) (by rfl)
set_option maxRecDepth 4000 in
theorem u718 : (Jvm.Cond.instanceMethod ({ cls := "WeddingRegister$Entry", name := "written", desc := "(I)I" } : Jvm.MethodName)) ∈ uw := uw_of (List.mem_append_right _ (List.mem_append_right _ (List.mem_append_left _ (List.mem_of_getElem? (i := 238) rfl : _ ∈ tables_1_3)))) (by rfl)
set_option maxRecDepth 4000 in
theorem u719 : (Jvm.Cond.selects "WeddingRegister$Entry" ({ cls := "WeddingRegister$Entry", name := "written", desc := "(I)I" } : Jvm.MethodName) ({ cls := "WeddingRegister$Entry", name := "written", desc := "(I)I" } : Jvm.MethodName)) ∈ uw := uw_of (List.mem_append_right _ (List.mem_append_right _ (List.mem_append_left _ (List.mem_of_getElem? (i := 239) rfl : _ ∈ tables_1_3)))) (by rfl)
set_option maxRecDepth 4000 in
theorem u720 : (Jvm.Cond.code ({ cls := "WeddingRegister$Entry", name := "written", desc := "(I)I" } : Jvm.MethodName) prog_5_method_2_code (2 : Nat) (Option.some Jvm.ClassFile.FieldType.int)) ∈ uw := uw_of (List.mem_append_right _ (List.mem_append_right _ (List.mem_append_right _ (List.mem_append_left _ (List.mem_of_getElem? (i := 0) rfl : _ ∈ tables_1_4))))) (by rfl)
set_option maxRecDepth 4000 in
theorem u721 : (Jvm.Cond.methodLink "WeddingRegisterLaw" (101 : Nat) ({ cls := "WeddingRegister", name := "name", desc := "(III)I" } : Jvm.MethodName)) ∈ uw := uw_of (List.mem_append_right _ (List.mem_append_right _ (List.mem_append_right _ (List.mem_append_left _ (List.mem_of_getElem? (i := 1) rfl : _ ∈ tables_1_4))))) (by rfl)
set_option maxRecDepth 4000 in
theorem u722 : (Jvm.Cond.instanceMethod ({ cls := "WeddingRegister", name := "name", desc := "(III)I" } : Jvm.MethodName)) ∈ uw := uw_of (List.mem_append_right _ (List.mem_append_right _ (List.mem_append_right _ (List.mem_append_left _ (List.mem_of_getElem? (i := 2) rfl : _ ∈ tables_1_4))))) (by rfl)
set_option maxRecDepth 4000 in
theorem u723 : (Jvm.Cond.selects "WeddingRegister" ({ cls := "WeddingRegister", name := "name", desc := "(III)I" } : Jvm.MethodName) ({ cls := "WeddingRegister", name := "name", desc := "(III)I" } : Jvm.MethodName)) ∈ uw := uw_of (List.mem_append_right _ (List.mem_append_right _ (List.mem_append_right _ (List.mem_append_left _ (List.mem_of_getElem? (i := 3) rfl : _ ∈ tables_1_4))))) (by rfl)
set_option maxRecDepth 4000 in
theorem u724 : (Jvm.Cond.code ({ cls := "WeddingRegister", name := "name", desc := "(III)I" } : Jvm.MethodName) prog_1_method_22_code (5 : Nat) (Option.some Jvm.ClassFile.FieldType.int)) ∈ uw := uw_of (List.mem_append_right _ (List.mem_append_right _ (List.mem_append_right _ (List.mem_append_left _ (List.mem_of_getElem? (i := 4) rfl : _ ∈ tables_1_4))))) (by rfl)
set_option maxRecDepth 4000 in
theorem u725 : (Jvm.Cond.methodLink "WeddingRegister" (250 : Nat) ({ cls := "WeddingRegister", name := "nameAfter", desc := "(LWeddingRegister$Entry;II)I" } : Jvm.MethodName)) ∈ uw := uw_of (List.mem_append_right _ (List.mem_append_right _ (List.mem_append_right _ (List.mem_append_left _ (List.mem_of_getElem? (i := 5) rfl : _ ∈ tables_1_4))))) (by rfl)
set_option maxRecDepth 4000 in
theorem u727 : (Jvm.Cond.instanceMethod ({ cls := "WeddingRegister", name := "nameAfter", desc := "(LWeddingRegister$Entry;II)I" } : Jvm.MethodName)) ∈ uw := uw_of (List.mem_append_right _ (List.mem_append_right _ (List.mem_append_right _ (List.mem_append_left _ (List.mem_of_getElem? (i := 7) rfl : _ ∈ tables_1_4))))) (by rfl)
set_option maxRecDepth 4000 in
theorem u728 : (Jvm.Cond.code ({ cls := "WeddingRegister", name := "nameAfter", desc := "(LWeddingRegister$Entry;II)I" } : Jvm.MethodName) prog_1_method_57_code (6 : Nat) (Option.some Jvm.ClassFile.FieldType.int)) ∈ uw := uw_of (List.mem_append_right _ (List.mem_append_right _ (List.mem_append_right _ (List.mem_append_left _ (List.mem_of_getElem? (i := 8) rfl : _ ∈ tables_1_4))))) (by rfl)
set_option maxRecDepth 4000 in
theorem u729 : (Jvm.Cond.methodLink "WeddingRegisterLaw" (105 : Nat) ({ cls := "WeddingRegister", name := "quarrel", desc := "(I)Z" } : Jvm.MethodName)) ∈ uw := uw_of (List.mem_append_right _ (List.mem_append_right _ (List.mem_append_right _ (List.mem_append_left _ (List.mem_of_getElem? (i := 9) rfl : _ ∈ tables_1_4))))) (by rfl)
set_option maxRecDepth 4000 in
theorem u730 : (Jvm.Cond.instanceMethod ({ cls := "WeddingRegister", name := "quarrel", desc := "(I)Z" } : Jvm.MethodName)) ∈ uw := uw_of (List.mem_append_right _ (List.mem_append_right _ (List.mem_append_right _ (List.mem_append_left _ (List.mem_of_getElem? (i := 10) rfl : _ ∈ tables_1_4))))) (by rfl)
set_option maxRecDepth 4000 in
theorem u731 : (Jvm.Cond.selects "WeddingRegister" ({ cls := "WeddingRegister", name := "quarrel", desc := "(I)Z" } : Jvm.MethodName) ({ cls := "WeddingRegister", name := "quarrel", desc := "(I)Z" } : Jvm.MethodName)) ∈ uw := uw_of (List.mem_append_right _ (List.mem_append_right _ (List.mem_append_right _ (List.mem_append_left _ (List.mem_of_getElem? (i := 11) rfl : _ ∈ tables_1_4))))) (by rfl)
set_option maxRecDepth 4000 in
theorem u732 : (Jvm.Cond.code ({ cls := "WeddingRegister", name := "quarrel", desc := "(I)Z" } : Jvm.MethodName) prog_1_method_23_code (3 : Nat) (Option.some Jvm.ClassFile.FieldType.boolean)) ∈ uw := uw_of (List.mem_append_right _ (List.mem_append_right _ (List.mem_append_right _ (List.mem_append_left _ (List.mem_of_getElem? (i := 12) rfl : _ ∈ tables_1_4))))) (by rfl)
set_option maxRecDepth 4000 in
theorem u733 : (Jvm.Cond.methodLink "WeddingRegisterLaw" (109 : Nat) ({ cls := "WeddingRegister", name := "told", desc := "(II)I" } : Jvm.MethodName)) ∈ uw := uw_of (List.mem_append_right _ (List.mem_append_right _ (List.mem_append_right _ (List.mem_append_left _ (List.mem_of_getElem? (i := 13) rfl : _ ∈ tables_1_4))))) (by rfl)
set_option maxRecDepth 4000 in
theorem u734 : (Jvm.Cond.instanceMethod ({ cls := "WeddingRegister", name := "told", desc := "(II)I" } : Jvm.MethodName)) ∈ uw := uw_of (List.mem_append_right _ (List.mem_append_right _ (List.mem_append_right _ (List.mem_append_left _ (List.mem_of_getElem? (i := 14) rfl : _ ∈ tables_1_4))))) (by rfl)
set_option maxRecDepth 4000 in
theorem u735 : (Jvm.Cond.selects "WeddingRegister" ({ cls := "WeddingRegister", name := "told", desc := "(II)I" } : Jvm.MethodName) ({ cls := "WeddingRegister", name := "told", desc := "(II)I" } : Jvm.MethodName)) ∈ uw := uw_of (List.mem_append_right _ (List.mem_append_right _ (List.mem_append_right _ (List.mem_append_left _ (List.mem_of_getElem? (i := 15) rfl : _ ∈ tables_1_4))))) (by rfl)
set_option maxRecDepth 4000 in
theorem u736 : (Jvm.Cond.code ({ cls := "WeddingRegister", name := "told", desc := "(II)I" } : Jvm.MethodName) prog_1_method_24_code (4 : Nat) (Option.some Jvm.ClassFile.FieldType.int)) ∈ uw := uw_of (List.mem_append_right _ (List.mem_append_right _ (List.mem_append_right _ (List.mem_append_left _ (List.mem_of_getElem? (i := 16) rfl : _ ∈ tables_1_4))))) (by rfl)
set_option maxRecDepth 4000 in
theorem u737 : (Jvm.Cond.methodLink "WeddingRegisterLaw" (113 : Nat) ({ cls := "WeddingRegister", name := "married", desc := "(I)I" } : Jvm.MethodName)) ∈ uw := uw_of (List.mem_append_right _ (List.mem_append_right _ (List.mem_append_right _ (List.mem_append_left _ (List.mem_of_getElem? (i := 17) rfl : _ ∈ tables_1_4))))) (by rfl)
set_option maxRecDepth 4000 in
theorem u738 : (Jvm.Cond.instanceMethod ({ cls := "WeddingRegister", name := "married", desc := "(I)I" } : Jvm.MethodName)) ∈ uw := uw_of (List.mem_append_right _ (List.mem_append_right _ (List.mem_append_right _ (List.mem_append_left _ (List.mem_of_getElem? (i := 18) rfl : _ ∈ tables_1_4))))) (by rfl)
set_option maxRecDepth 4000 in
theorem u739 : (Jvm.Cond.selects "WeddingRegister" ({ cls := "WeddingRegister", name := "married", desc := "(I)I" } : Jvm.MethodName) ({ cls := "WeddingRegister", name := "married", desc := "(I)I" } : Jvm.MethodName)) ∈ uw := uw_of (List.mem_append_right _ (List.mem_append_right _ (List.mem_append_right _ (List.mem_append_left _ (List.mem_of_getElem? (i := 19) rfl : _ ∈ tables_1_4))))) (by rfl)
set_option maxRecDepth 4000 in
theorem u740 : (Jvm.Cond.code ({ cls := "WeddingRegister", name := "married", desc := "(I)I" } : Jvm.MethodName) prog_1_method_25_code (4 : Nat) (Option.some Jvm.ClassFile.FieldType.int)) ∈ uw := uw_of (List.mem_append_right _ (List.mem_append_right _ (List.mem_append_right _ (List.mem_append_left _ (List.mem_of_getElem? (i := 20) rfl : _ ∈ tables_1_4))))) (by rfl)
set_option maxRecDepth 4000 in
theorem u741 : (Jvm.Cond.methodLink "WeddingRegisterLaw" (117 : Nat) ({ cls := "WeddingRegister", name := "count", desc := "(I)I" } : Jvm.MethodName)) ∈ uw := uw_of (List.mem_append_right _ (List.mem_append_right _ (List.mem_append_right _ (List.mem_append_left _ (List.mem_of_getElem? (i := 21) rfl : _ ∈ tables_1_4))))) (by rfl)
set_option maxRecDepth 4000 in
theorem u742 : (Jvm.Cond.instanceMethod ({ cls := "WeddingRegister", name := "count", desc := "(I)I" } : Jvm.MethodName)) ∈ uw := uw_of (List.mem_append_right _ (List.mem_append_right _ (List.mem_append_right _ (List.mem_append_left _ (List.mem_of_getElem? (i := 22) rfl : _ ∈ tables_1_4))))) (by rfl)
set_option maxRecDepth 4000 in
theorem u743 : (Jvm.Cond.selects "WeddingRegister" ({ cls := "WeddingRegister", name := "count", desc := "(I)I" } : Jvm.MethodName) ({ cls := "WeddingRegister", name := "count", desc := "(I)I" } : Jvm.MethodName)) ∈ uw := uw_of (List.mem_append_right _ (List.mem_append_right _ (List.mem_append_right _ (List.mem_append_left _ (List.mem_of_getElem? (i := 23) rfl : _ ∈ tables_1_4))))) (by rfl)
set_option maxRecDepth 4000 in
theorem u744 : (Jvm.Cond.code ({ cls := "WeddingRegister", name := "count", desc := "(I)I" } : Jvm.MethodName) prog_1_method_26_code (2 : Nat) (Option.some Jvm.ClassFile.FieldType.int)) ∈ uw := uw_of (List.mem_append_right _ (List.mem_append_right _ (List.mem_append_right _ (List.mem_append_left _ (List.mem_of_getElem? (i := 24) rfl : _ ∈ tables_1_4))))) (by rfl)
set_option maxRecDepth 4000 in
theorem u745 : (Jvm.Cond.methodLink "WeddingRegister" (260 : Nat) ({ cls := "WeddingRegister", name := "openBookings", desc := "()I" } : Jvm.MethodName)) ∈ uw := uw_of (List.mem_append_right _ (List.mem_append_right _ (List.mem_append_right _ (List.mem_append_left _ (List.mem_of_getElem? (i := 25) rfl : _ ∈ tables_1_4))))) (by rfl)
set_option maxRecDepth 4000 in
theorem u747 : (Jvm.Cond.instanceMethod ({ cls := "WeddingRegister", name := "openBookings", desc := "()I" } : Jvm.MethodName)) ∈ uw := uw_of (List.mem_append_right _ (List.mem_append_right _ (List.mem_append_right _ (List.mem_append_left _ (List.mem_of_getElem? (i := 27) rfl : _ ∈ tables_1_4))))) (by rfl)
set_option maxRecDepth 4000 in
theorem u748 : (Jvm.Cond.code ({ cls := "WeddingRegister", name := "openBookings", desc := "()I" } : Jvm.MethodName) prog_1_method_33_code (4 : Nat) (Option.some Jvm.ClassFile.FieldType.int)) ∈ uw := uw_of (List.mem_append_right _ (List.mem_append_right _ (List.mem_append_right _ (List.mem_append_left _ (List.mem_of_getElem? (i := 28) rfl : _ ∈ tables_1_4))))) (by rfl)
set_option maxRecDepth 4000 in
theorem u749 : (Jvm.Cond.classLink "WeddingRegisterLaw" (10 : Nat) "WeddingRegisterModel") ∈ uw := uw_of (List.mem_append_right _ (List.mem_append_right _ (List.mem_append_right _ (List.mem_append_left _ (List.mem_of_getElem? (i := 29) rfl : _ ∈ tables_1_4))))) (by rfl)
set_option maxRecDepth 4000 in
theorem u750 : (Jvm.Cond.instantiable "WeddingRegisterModel" (36 : Nat)) ∈ uw := uw_of (List.mem_append_right _ (List.mem_append_right _ (List.mem_append_right _ (List.mem_append_left _ (List.mem_of_getElem? (i := 30) rfl : _ ∈ tables_1_4))))) (by rfl)
set_option maxRecDepth 4000 in
theorem u751 : (Jvm.Cond.methodLink "WeddingRegisterLaw" (12 : Nat) ({ cls := "WeddingRegisterModel", name := "<init>", desc := "()V" } : Jvm.MethodName)) ∈ uw := uw_of (List.mem_append_right _ (List.mem_append_right _ (List.mem_append_right _ (List.mem_append_left _ (List.mem_of_getElem? (i := 31) rfl : _ ∈ tables_1_4))))) (by rfl)
set_option maxRecDepth 4000 in
theorem u752 : (Jvm.Cond.instanceMethod ({ cls := "WeddingRegisterModel", name := "<init>", desc := "()V" } : Jvm.MethodName)) ∈ uw := uw_of (List.mem_append_right _ (List.mem_append_right _ (List.mem_append_right _ (List.mem_append_left _ (List.mem_of_getElem? (i := 32) rfl : _ ∈ tables_1_4))))) (by rfl)
set_option maxRecDepth 4000 in
theorem u753 : (Jvm.Cond.code ({ cls := "WeddingRegisterModel", name := "<init>", desc := "()V" } : Jvm.MethodName) prog_13_method_1_code (1 : Nat) (Option.none : Option Jvm.ClassFile.FieldType)) ∈ uw := uw_of (List.mem_append_right _ (List.mem_append_right _ (List.mem_append_right _ (List.mem_append_left _ (List.mem_of_getElem? (i := 33) rfl : _ ∈ tables_1_4))))) (by rfl)
set_option maxRecDepth 4000 in
theorem u754 : (Jvm.Cond.methodLink "WeddingRegisterModel" (1 : Nat) ({ cls := "java/lang/Object", name := "<init>", desc := "()V" } : Jvm.MethodName)) ∈ uw := uw_of (List.mem_append_right _ (List.mem_append_right _ (List.mem_append_right _ (List.mem_append_left _ (List.mem_of_getElem? (i := 34) rfl : _ ∈ tables_1_4))))) (by rfl)
set_option maxRecDepth 4000 in
theorem u755 : (Jvm.Cond.classLink "WeddingRegisterModel" (9 : Nat) "[[I") ∈ uw := uw_of (List.mem_append_right _ (List.mem_append_right _ (List.mem_append_right _ (List.mem_append_left _ (List.mem_of_getElem? (i := 35) rfl : _ ∈ tables_1_4))))) (by rfl)
set_option maxRecDepth 4000 in
theorem u756 : (Jvm.Cond.arrayOver (Jvm.ClassFile.FieldType.array Jvm.ClassFile.FieldType.int)) ∈ lw_tbl := List.mem_append_right _ (List.mem_append_right _ (List.mem_append_right _ (List.mem_append_right _ (List.mem_append_left _ (List.mem_of_getElem? (i := 36) rfl : _ ∈ tables_1_4)))))
set_option maxRecDepth 4000 in
theorem u757 : (Jvm.Cond.fieldLink "WeddingRegisterModel" (114 : Nat) "WeddingRegisterModel" "now" "I") ∈ uw := uw_of (List.mem_append_right _ (List.mem_append_right _ (List.mem_append_right _ (List.mem_append_left _ (List.mem_of_getElem? (i := 37) rfl : _ ∈ tables_1_4))))) (by rfl)
set_option maxRecDepth 4000 in
theorem u758 : (Jvm.Cond.fieldLink "WeddingRegisterModel" (11 : Nat) "WeddingRegisterModel" "laws" "[[I") ∈ uw := uw_of (List.mem_append_right _ (List.mem_append_right _ (List.mem_append_right _ (List.mem_append_left _ (List.mem_of_getElem? (i := 38) rfl : _ ∈ tables_1_4))))) (by rfl)
set_option maxRecDepth 4000 in
theorem u759 : (Jvm.Cond.fieldLink "WeddingRegisterModel" (107 : Nat) "WeddingRegisterModel" "lawMany" "I") ∈ uw := uw_of (List.mem_append_right _ (List.mem_append_right _ (List.mem_append_right _ (List.mem_append_left _ (List.mem_of_getElem? (i := 39) rfl : _ ∈ tables_1_4))))) (by rfl)
set_option maxRecDepth 4000 in
theorem u760 : (Jvm.Cond.fieldLink "WeddingRegisterModel" (14 : Nat) "WeddingRegisterModel" "law" "[I") ∈ uw := uw_of (List.mem_append_right _ (List.mem_append_right _ (List.mem_append_right _ (List.mem_append_left _ (List.mem_of_getElem? (i := 40) rfl : _ ∈ tables_1_4))))) (by rfl)
set_option maxRecDepth 4000 in
theorem u761 : (Jvm.Cond.fieldLink "WeddingRegisterModel" (18 : Nat) "WeddingRegisterModel" "land" "[I") ∈ uw := uw_of (List.mem_append_right _ (List.mem_append_right _ (List.mem_append_right _ (List.mem_append_left _ (List.mem_of_getElem? (i := 41) rfl : _ ∈ tables_1_4))))) (by rfl)
set_option maxRecDepth 4000 in
theorem u762 : (Jvm.Cond.fieldLink "WeddingRegisterModel" (21 : Nat) "WeddingRegisterModel" "born" "[I") ∈ uw := uw_of (List.mem_append_right _ (List.mem_append_right _ (List.mem_append_right _ (List.mem_append_left _ (List.mem_of_getElem? (i := 42) rfl : _ ∈ tables_1_4))))) (by rfl)
set_option maxRecDepth 4000 in
theorem u763 : (Jvm.Cond.fieldLink "WeddingRegisterModel" (24 : Nat) "WeddingRegisterModel" "father" "[I") ∈ uw := uw_of (List.mem_append_right _ (List.mem_append_right _ (List.mem_append_right _ (List.mem_append_left _ (List.mem_of_getElem? (i := 43) rfl : _ ∈ tables_1_4))))) (by rfl)
set_option maxRecDepth 4000 in
theorem u764 : (Jvm.Cond.fieldLink "WeddingRegisterModel" (27 : Nat) "WeddingRegisterModel" "mother" "[I") ∈ uw := uw_of (List.mem_append_right _ (List.mem_append_right _ (List.mem_append_right _ (List.mem_append_left _ (List.mem_of_getElem? (i := 44) rfl : _ ∈ tables_1_4))))) (by rfl)
set_option maxRecDepth 4000 in
theorem u765 : (Jvm.Cond.fieldLink "WeddingRegisterModel" (30 : Nat) "WeddingRegisterModel" "tongues" "[I") ∈ uw := uw_of (List.mem_append_right _ (List.mem_append_right _ (List.mem_append_right _ (List.mem_append_left _ (List.mem_of_getElem? (i := 45) rfl : _ ∈ tables_1_4))))) (by rfl)
set_option maxRecDepth 4000 in
theorem u766 : (Jvm.Cond.fieldLink "WeddingRegisterModel" (33 : Nat) "WeddingRegisterModel" "names" "[I") ∈ uw := uw_of (List.mem_append_right _ (List.mem_append_right _ (List.mem_append_right _ (List.mem_append_left _ (List.mem_of_getElem? (i := 46) rfl : _ ∈ tables_1_4))))) (by rfl)
set_option maxRecDepth 4000 in
theorem u767 : (Jvm.Cond.fieldLink "WeddingRegisterModel" (36 : Nat) "WeddingRegisterModel" "spouse" "[I") ∈ uw := uw_of (List.mem_append_right _ (List.mem_append_right _ (List.mem_append_right _ (List.mem_append_left _ (List.mem_of_getElem? (i := 47) rfl : _ ∈ tables_1_4))))) (by rfl)
set_option maxRecDepth 4000 in
theorem u768 : (Jvm.Cond.fieldLink "WeddingRegisterModel" (94 : Nat) "WeddingRegisterModel" "persons" "I") ∈ uw := uw_of (List.mem_append_right _ (List.mem_append_right _ (List.mem_append_right _ (List.mem_append_left _ (List.mem_of_getElem? (i := 48) rfl : _ ∈ tables_1_4))))) (by rfl)
set_option maxRecDepth 4000 in
theorem u769 : (Jvm.Cond.fieldLink "WeddingRegisterModel" (39 : Nat) "WeddingRegisterModel" "paperOf" "[I") ∈ uw := uw_of (List.mem_append_right _ (List.mem_append_right _ (List.mem_append_right _ (List.mem_append_left _ (List.mem_of_getElem? (i := 49) rfl : _ ∈ tables_1_4))))) (by rfl)
set_option maxRecDepth 4000 in
theorem u770 : (Jvm.Cond.fieldLink "WeddingRegisterModel" (42 : Nat) "WeddingRegisterModel" "paperKind" "[I") ∈ uw := uw_of (List.mem_append_right _ (List.mem_append_right _ (List.mem_append_right _ (List.mem_append_left _ (List.mem_of_getElem? (i := 50) rfl : _ ∈ tables_1_4))))) (by rfl)
set_option maxRecDepth 4000 in
theorem u771 : (Jvm.Cond.fieldLink "WeddingRegisterModel" (45 : Nat) "WeddingRegisterModel" "paperDay" "[I") ∈ uw := uw_of (List.mem_append_right _ (List.mem_append_right _ (List.mem_append_right _ (List.mem_append_left _ (List.mem_of_getElem? (i := 51) rfl : _ ∈ tables_1_4))))) (by rfl)
set_option maxRecDepth 4000 in
theorem u772 : (Jvm.Cond.fieldLink "WeddingRegisterModel" (121 : Nat) "WeddingRegisterModel" "papers" "I") ∈ uw := uw_of (List.mem_append_right _ (List.mem_append_right _ (List.mem_append_right _ (List.mem_append_left _ (List.mem_of_getElem? (i := 52) rfl : _ ∈ tables_1_4))))) (by rfl)
set_option maxRecDepth 4000 in
theorem u773 : (Jvm.Cond.fieldLink "WeddingRegisterModel" (48 : Nat) "WeddingRegisterModel" "isFeast" "[Z") ∈ uw := uw_of (List.mem_append_right _ (List.mem_append_right _ (List.mem_append_right _ (List.mem_append_left _ (List.mem_of_getElem? (i := 53) rfl : _ ∈ tables_1_4))))) (by rfl)
set_option maxRecDepth 4000 in
theorem u774 : (Jvm.Cond.fieldLink "WeddingRegisterModel" (52 : Nat) "WeddingRegisterModel" "one" "[I") ∈ uw := uw_of (List.mem_append_right _ (List.mem_append_right _ (List.mem_append_right _ (List.mem_append_left _ (List.mem_of_getElem? (i := 54) rfl : _ ∈ tables_1_4))))) (by rfl)
set_option maxRecDepth 4000 in
theorem u775 : (Jvm.Cond.fieldLink "WeddingRegisterModel" (55 : Nat) "WeddingRegisterModel" "other" "[I") ∈ uw := uw_of (List.mem_append_right _ (List.mem_append_right _ (List.mem_append_right _ (List.mem_append_left _ (List.mem_of_getElem? (i := 55) rfl : _ ∈ tables_1_4))))) (by rfl)
set_option maxRecDepth 4000 in
theorem u776 : (Jvm.Cond.fieldLink "WeddingRegisterModel" (58 : Nat) "WeddingRegisterModel" "posted" "[I") ∈ uw := uw_of (List.mem_append_right _ (List.mem_append_right _ (List.mem_append_right _ (List.mem_append_left _ (List.mem_of_getElem? (i := 56) rfl : _ ∈ tables_1_4))))) (by rfl)
set_option maxRecDepth 4000 in
theorem u777 : (Jvm.Cond.fieldLink "WeddingRegisterModel" (61 : Nat) "WeddingRegisterModel" "state" "[I") ∈ uw := uw_of (List.mem_append_right _ (List.mem_append_right _ (List.mem_append_right _ (List.mem_append_left _ (List.mem_of_getElem? (i := 57) rfl : _ ∈ tables_1_4))))) (by rfl)
set_option maxRecDepth 4000 in
theorem u778 : (Jvm.Cond.fieldLink "WeddingRegisterModel" (64 : Nat) "WeddingRegisterModel" "bookedDay" "[I") ∈ uw := uw_of (List.mem_append_right _ (List.mem_append_right _ (List.mem_append_right _ (List.mem_append_left _ (List.mem_of_getElem? (i := 58) rfl : _ ∈ tables_1_4))))) (by rfl)
set_option maxRecDepth 4000 in
theorem u779 : (Jvm.Cond.fieldLink "WeddingRegisterModel" (67 : Nat) "WeddingRegisterModel" "slot" "[I") ∈ uw := uw_of (List.mem_append_right _ (List.mem_append_right _ (List.mem_append_right _ (List.mem_append_left _ (List.mem_of_getElem? (i := 59) rfl : _ ∈ tables_1_4))))) (by rfl)
set_option maxRecDepth 4000 in
theorem u780 : (Jvm.Cond.fieldLink "WeddingRegisterModel" (102 : Nat) "WeddingRegisterModel" "notices" "I") ∈ uw := uw_of (List.mem_append_right _ (List.mem_append_right _ (List.mem_append_right _ (List.mem_append_left _ (List.mem_of_getElem? (i := 60) rfl : _ ∈ tables_1_4))))) (by rfl)
set_option maxRecDepth 4000 in
theorem u781 : (Jvm.Cond.fieldLink "WeddingRegisterModel" (70 : Nat) "WeddingRegisterModel" "against" "[I") ∈ uw := uw_of (List.mem_append_right _ (List.mem_append_right _ (List.mem_append_right _ (List.mem_append_left _ (List.mem_of_getElem? (i := 61) rfl : _ ∈ tables_1_4))))) (by rfl)
set_option maxRecDepth 4000 in
theorem u782 : (Jvm.Cond.fieldLink "WeddingRegisterModel" (73 : Nat) "WeddingRegisterModel" "judged" "[I") ∈ uw := uw_of (List.mem_append_right _ (List.mem_append_right _ (List.mem_append_right _ (List.mem_append_left _ (List.mem_of_getElem? (i := 62) rfl : _ ∈ tables_1_4))))) (by rfl)
set_option maxRecDepth 4000 in
theorem u783 : (Jvm.Cond.fieldLink "WeddingRegisterModel" (178 : Nat) "WeddingRegisterModel" "objections" "I") ∈ uw := uw_of (List.mem_append_right _ (List.mem_append_right _ (List.mem_append_right _ (List.mem_append_left _ (List.mem_of_getElem? (i := 63) rfl : _ ∈ tables_1_4))))) (by rfl)
set_option maxRecDepth 4000 in
theorem u784 : (Jvm.Cond.fieldLink "WeddingRegisterModel" (76 : Nat) "WeddingRegisterModel" "speaks" "[I") ∈ uw := uw_of (List.mem_append_right _ (List.mem_append_right _ (List.mem_append_right _ (List.mem_append_left _ (List.mem_of_getElem? (i := 64) rfl : _ ∈ tables_1_4))))) (by rfl)
set_option maxRecDepth 4000 in
theorem u785 : (Jvm.Cond.fieldLink "WeddingRegisterModel" (184 : Nat) "WeddingRegisterModel" "registrars" "I") ∈ uw := uw_of (List.mem_append_right _ (List.mem_append_right _ (List.mem_append_right _ (List.mem_append_left _ (List.mem_of_getElem? (i := 65) rfl : _ ∈ tables_1_4))))) (by rfl)
set_option maxRecDepth 4000 in
theorem u786 : (Jvm.Cond.fieldLink "WeddingRegisterModel" (79 : Nat) "WeddingRegisterModel" "entries" "[[I") ∈ uw := uw_of (List.mem_append_right _ (List.mem_append_right _ (List.mem_append_right _ (List.mem_append_left _ (List.mem_of_getElem? (i := 66) rfl : _ ∈ tables_1_4))))) (by rfl)
set_option maxRecDepth 4000 in
theorem u787 : (Jvm.Cond.fieldLink "WeddingRegisterModel" (197 : Nat) "WeddingRegisterModel" "entryMany" "I") ∈ uw := uw_of (List.mem_append_right _ (List.mem_append_right _ (List.mem_append_right _ (List.mem_append_left _ (List.mem_of_getElem? (i := 67) rfl : _ ∈ tables_1_4))))) (by rfl)
set_option maxRecDepth 4000 in
theorem u788 : (Jvm.Cond.fieldLink "WeddingRegisterModel" (82 : Nat) "WeddingRegisterModel" "corrected" "[I") ∈ uw := uw_of (List.mem_append_right _ (List.mem_append_right _ (List.mem_append_right _ (List.mem_append_left _ (List.mem_of_getElem? (i := 68) rfl : _ ∈ tables_1_4))))) (by rfl)
set_option maxRecDepth 4000 in
theorem u789 : (Jvm.Cond.fieldLink "WeddingRegisterModel" (85 : Nat) "WeddingRegisterModel" "field" "[I") ∈ uw := uw_of (List.mem_append_right _ (List.mem_append_right _ (List.mem_append_right _ (List.mem_append_left _ (List.mem_of_getElem? (i := 69) rfl : _ ∈ tables_1_4))))) (by rfl)
set_option maxRecDepth 4000 in
theorem u790 : (Jvm.Cond.fieldLink "WeddingRegisterModel" (88 : Nat) "WeddingRegisterModel" "value" "[I") ∈ uw := uw_of (List.mem_append_right _ (List.mem_append_right _ (List.mem_append_right _ (List.mem_append_left _ (List.mem_of_getElem? (i := 70) rfl : _ ∈ tables_1_4))))) (by rfl)
set_option maxRecDepth 4000 in
theorem u791 : (Jvm.Cond.fieldLink "WeddingRegisterModel" (91 : Nat) "WeddingRegisterModel" "toldOn" "[I") ∈ uw := uw_of (List.mem_append_right _ (List.mem_append_right _ (List.mem_append_right _ (List.mem_append_left _ (List.mem_of_getElem? (i := 71) rfl : _ ∈ tables_1_4))))) (by rfl)
set_option maxRecDepth 4000 in
theorem u792 : (Jvm.Cond.fieldLink "WeddingRegisterModel" (200 : Nat) "WeddingRegisterModel" "corrections" "I") ∈ uw := uw_of (List.mem_append_right _ (List.mem_append_right _ (List.mem_append_right _ (List.mem_append_left _ (List.mem_of_getElem? (i := 72) rfl : _ ∈ tables_1_4))))) (by rfl)
set_option maxRecDepth 4000 in
theorem u793 : (Jvm.Cond.lays "WeddingRegisterModel" "WeddingRegisterModel" "now" "I") ∈ uw := uw_of (List.mem_append_right _ (List.mem_append_right _ (List.mem_append_right _ (List.mem_append_left _ (List.mem_of_getElem? (i := 73) rfl : _ ∈ tables_1_4))))) (by rfl)
set_option maxRecDepth 4000 in
theorem u795 : (Jvm.Cond.laysFinal "WeddingRegisterModel" "WeddingRegisterModel" "laws" "[[I") ∈ uw := uw_of (List.mem_append_right _ (List.mem_append_right _ (List.mem_append_right _ (List.mem_append_left _ (List.mem_of_getElem? (i := 75) rfl : _ ∈ tables_1_4))))) (by rfl)
set_option maxRecDepth 4000 in
theorem u797 : (Jvm.Cond.lays "WeddingRegisterModel" "WeddingRegisterModel" "lawMany" "I") ∈ uw := uw_of (List.mem_append_right _ (List.mem_append_right _ (List.mem_append_right _ (List.mem_append_left _ (List.mem_of_getElem? (i := 77) rfl : _ ∈ tables_1_4))))) (by rfl)
set_option maxRecDepth 4000 in
theorem u799 : (Jvm.Cond.laysFinal "WeddingRegisterModel" "WeddingRegisterModel" "law" "[I") ∈ uw := uw_of (List.mem_append_right _ (List.mem_append_right _ (List.mem_append_right _ (List.mem_append_left _ (List.mem_of_getElem? (i := 79) rfl : _ ∈ tables_1_4))))) (by rfl)
set_option maxRecDepth 4000 in
theorem u801 : (Jvm.Cond.laysFinal "WeddingRegisterModel" "WeddingRegisterModel" "land" "[I") ∈ uw := uw_of (List.mem_append_right _ (List.mem_append_right _ (List.mem_append_right _ (List.mem_append_left _ (List.mem_of_getElem? (i := 81) rfl : _ ∈ tables_1_4))))) (by rfl)
set_option maxRecDepth 4000 in
theorem u803 : (Jvm.Cond.laysFinal "WeddingRegisterModel" "WeddingRegisterModel" "born" "[I") ∈ uw := uw_of (List.mem_append_right _ (List.mem_append_right _ (List.mem_append_right _ (List.mem_append_left _ (List.mem_of_getElem? (i := 83) rfl : _ ∈ tables_1_4))))) (by rfl)
set_option maxRecDepth 4000 in
theorem u805 : (Jvm.Cond.laysFinal "WeddingRegisterModel" "WeddingRegisterModel" "father" "[I") ∈ uw := uw_of (List.mem_append_right _ (List.mem_append_right _ (List.mem_append_right _ (List.mem_append_left _ (List.mem_of_getElem? (i := 85) rfl : _ ∈ tables_1_4))))) (by rfl)
set_option maxRecDepth 4000 in
theorem u807 : (Jvm.Cond.laysFinal "WeddingRegisterModel" "WeddingRegisterModel" "mother" "[I") ∈ uw := uw_of (List.mem_append_right _ (List.mem_append_right _ (List.mem_append_right _ (List.mem_append_left _ (List.mem_of_getElem? (i := 87) rfl : _ ∈ tables_1_4))))) (by rfl)
set_option maxRecDepth 4000 in
theorem u809 : (Jvm.Cond.laysFinal "WeddingRegisterModel" "WeddingRegisterModel" "tongues" "[I") ∈ uw := uw_of (List.mem_append_right _ (List.mem_append_right _ (List.mem_append_right _ (List.mem_append_left _ (List.mem_of_getElem? (i := 89) rfl : _ ∈ tables_1_4))))) (by rfl)
set_option maxRecDepth 4000 in
theorem u811 : (Jvm.Cond.laysFinal "WeddingRegisterModel" "WeddingRegisterModel" "names" "[I") ∈ uw := uw_of (List.mem_append_right _ (List.mem_append_right _ (List.mem_append_right _ (List.mem_append_left _ (List.mem_of_getElem? (i := 91) rfl : _ ∈ tables_1_4))))) (by rfl)
set_option maxRecDepth 4000 in
theorem u813 : (Jvm.Cond.laysFinal "WeddingRegisterModel" "WeddingRegisterModel" "spouse" "[I") ∈ uw := uw_of (List.mem_append_right _ (List.mem_append_right _ (List.mem_append_right _ (List.mem_append_left _ (List.mem_of_getElem? (i := 93) rfl : _ ∈ tables_1_4))))) (by rfl)
set_option maxRecDepth 4000 in
theorem u815 : (Jvm.Cond.lays "WeddingRegisterModel" "WeddingRegisterModel" "persons" "I") ∈ uw := uw_of (List.mem_append_right _ (List.mem_append_right _ (List.mem_append_right _ (List.mem_append_left _ (List.mem_of_getElem? (i := 95) rfl : _ ∈ tables_1_4))))) (by rfl)
set_option maxRecDepth 4000 in
theorem u817 : (Jvm.Cond.laysFinal "WeddingRegisterModel" "WeddingRegisterModel" "paperOf" "[I") ∈ uw := uw_of (List.mem_append_right _ (List.mem_append_right _ (List.mem_append_right _ (List.mem_append_left _ (List.mem_of_getElem? (i := 97) rfl : _ ∈ tables_1_4))))) (by rfl)
set_option maxRecDepth 4000 in
theorem u819 : (Jvm.Cond.laysFinal "WeddingRegisterModel" "WeddingRegisterModel" "paperKind" "[I") ∈ uw := uw_of (List.mem_append_right _ (List.mem_append_right _ (List.mem_append_right _ (List.mem_append_left _ (List.mem_of_getElem? (i := 99) rfl : _ ∈ tables_1_4))))) (by rfl)
set_option maxRecDepth 4000 in
theorem u821 : (Jvm.Cond.laysFinal "WeddingRegisterModel" "WeddingRegisterModel" "paperDay" "[I") ∈ uw := uw_of (List.mem_append_right _ (List.mem_append_right _ (List.mem_append_right _ (List.mem_append_left _ (List.mem_of_getElem? (i := 101) rfl : _ ∈ tables_1_4))))) (by rfl)
set_option maxRecDepth 4000 in
theorem u823 : (Jvm.Cond.lays "WeddingRegisterModel" "WeddingRegisterModel" "papers" "I") ∈ uw := uw_of (List.mem_append_right _ (List.mem_append_right _ (List.mem_append_right _ (List.mem_append_left _ (List.mem_of_getElem? (i := 103) rfl : _ ∈ tables_1_4))))) (by rfl)
set_option maxRecDepth 4000 in
theorem u825 : (Jvm.Cond.laysFinal "WeddingRegisterModel" "WeddingRegisterModel" "isFeast" "[Z") ∈ uw := uw_of (List.mem_append_right _ (List.mem_append_right _ (List.mem_append_right _ (List.mem_append_left _ (List.mem_of_getElem? (i := 105) rfl : _ ∈ tables_1_4))))) (by rfl)
set_option maxRecDepth 4000 in
theorem u827 : (Jvm.Cond.laysFinal "WeddingRegisterModel" "WeddingRegisterModel" "one" "[I") ∈ uw := uw_of (List.mem_append_right _ (List.mem_append_right _ (List.mem_append_right _ (List.mem_append_left _ (List.mem_of_getElem? (i := 107) rfl : _ ∈ tables_1_4))))) (by rfl)
set_option maxRecDepth 4000 in
theorem u829 : (Jvm.Cond.laysFinal "WeddingRegisterModel" "WeddingRegisterModel" "other" "[I") ∈ uw := uw_of (List.mem_append_right _ (List.mem_append_right _ (List.mem_append_right _ (List.mem_append_left _ (List.mem_of_getElem? (i := 109) rfl : _ ∈ tables_1_4))))) (by rfl)
set_option maxRecDepth 4000 in
theorem u831 : (Jvm.Cond.laysFinal "WeddingRegisterModel" "WeddingRegisterModel" "posted" "[I") ∈ uw := uw_of (List.mem_append_right _ (List.mem_append_right _ (List.mem_append_right _ (List.mem_append_left _ (List.mem_of_getElem? (i := 111) rfl : _ ∈ tables_1_4))))) (by rfl)
set_option maxRecDepth 4000 in
theorem u833 : (Jvm.Cond.laysFinal "WeddingRegisterModel" "WeddingRegisterModel" "state" "[I") ∈ uw := uw_of (List.mem_append_right _ (List.mem_append_right _ (List.mem_append_right _ (List.mem_append_left _ (List.mem_of_getElem? (i := 113) rfl : _ ∈ tables_1_4))))) (by rfl)
set_option maxRecDepth 4000 in
theorem u835 : (Jvm.Cond.laysFinal "WeddingRegisterModel" "WeddingRegisterModel" "bookedDay" "[I") ∈ uw := uw_of (List.mem_append_right _ (List.mem_append_right _ (List.mem_append_right _ (List.mem_append_left _ (List.mem_of_getElem? (i := 115) rfl : _ ∈ tables_1_4))))) (by rfl)
set_option maxRecDepth 4000 in
theorem u837 : (Jvm.Cond.laysFinal "WeddingRegisterModel" "WeddingRegisterModel" "slot" "[I") ∈ uw := uw_of (List.mem_append_right _ (List.mem_append_right _ (List.mem_append_right _ (List.mem_append_left _ (List.mem_of_getElem? (i := 117) rfl : _ ∈ tables_1_4))))) (by rfl)
set_option maxRecDepth 4000 in
theorem u839 : (Jvm.Cond.lays "WeddingRegisterModel" "WeddingRegisterModel" "notices" "I") ∈ uw := uw_of (List.mem_append_right _ (List.mem_append_right _ (List.mem_append_right _ (List.mem_append_left _ (List.mem_of_getElem? (i := 119) rfl : _ ∈ tables_1_4))))) (by rfl)
set_option maxRecDepth 4000 in
theorem u841 : (Jvm.Cond.laysFinal "WeddingRegisterModel" "WeddingRegisterModel" "against" "[I") ∈ uw := uw_of (List.mem_append_right _ (List.mem_append_right _ (List.mem_append_right _ (List.mem_append_left _ (List.mem_of_getElem? (i := 121) rfl : _ ∈ tables_1_4))))) (by rfl)
set_option maxRecDepth 4000 in
theorem u843 : (Jvm.Cond.laysFinal "WeddingRegisterModel" "WeddingRegisterModel" "judged" "[I") ∈ uw := uw_of (List.mem_append_right _ (List.mem_append_right _ (List.mem_append_right _ (List.mem_append_left _ (List.mem_of_getElem? (i := 123) rfl : _ ∈ tables_1_4))))) (by rfl)
set_option maxRecDepth 4000 in
theorem u845 : (Jvm.Cond.lays "WeddingRegisterModel" "WeddingRegisterModel" "objections" "I") ∈ uw := uw_of (List.mem_append_right _ (List.mem_append_right _ (List.mem_append_right _ (List.mem_append_left _ (List.mem_of_getElem? (i := 125) rfl : _ ∈ tables_1_4))))) (by rfl)
set_option maxRecDepth 4000 in
theorem u847 : (Jvm.Cond.laysFinal "WeddingRegisterModel" "WeddingRegisterModel" "speaks" "[I") ∈ uw := uw_of (List.mem_append_right _ (List.mem_append_right _ (List.mem_append_right _ (List.mem_append_left _ (List.mem_of_getElem? (i := 127) rfl : _ ∈ tables_1_4))))) (by rfl)
set_option maxRecDepth 4000 in
theorem u849 : (Jvm.Cond.lays "WeddingRegisterModel" "WeddingRegisterModel" "registrars" "I") ∈ uw := uw_of (List.mem_append_right _ (List.mem_append_right _ (List.mem_append_right _ (List.mem_append_left _ (List.mem_of_getElem? (i := 129) rfl : _ ∈ tables_1_4))))) (by rfl)
set_option maxRecDepth 4000 in
theorem u851 : (Jvm.Cond.laysFinal "WeddingRegisterModel" "WeddingRegisterModel" "entries" "[[I") ∈ uw := uw_of (List.mem_append_right _ (List.mem_append_right _ (List.mem_append_right _ (List.mem_append_left _ (List.mem_of_getElem? (i := 131) rfl : _ ∈ tables_1_4))))) (by rfl)
set_option maxRecDepth 4000 in
theorem u853 : (Jvm.Cond.lays "WeddingRegisterModel" "WeddingRegisterModel" "entryMany" "I") ∈ uw := uw_of (List.mem_append_right _ (List.mem_append_right _ (List.mem_append_right _ (List.mem_append_left _ (List.mem_of_getElem? (i := 133) rfl : _ ∈ tables_1_4))))) (by rfl)
set_option maxRecDepth 4000 in
theorem u855 : (Jvm.Cond.laysFinal "WeddingRegisterModel" "WeddingRegisterModel" "corrected" "[I") ∈ uw := uw_of (List.mem_append_right _ (List.mem_append_right _ (List.mem_append_right _ (List.mem_append_left _ (List.mem_of_getElem? (i := 135) rfl : _ ∈ tables_1_4))))) (by rfl)
set_option maxRecDepth 4000 in
theorem u857 : (Jvm.Cond.laysFinal "WeddingRegisterModel" "WeddingRegisterModel" "field" "[I") ∈ uw := uw_of (List.mem_append_right _ (List.mem_append_right _ (List.mem_append_right _ (List.mem_append_left _ (List.mem_of_getElem? (i := 137) rfl : _ ∈ tables_1_4))))) (by rfl)
set_option maxRecDepth 4000 in
theorem u859 : (Jvm.Cond.laysFinal "WeddingRegisterModel" "WeddingRegisterModel" "value" "[I") ∈ uw := uw_of (List.mem_append_right _ (List.mem_append_right _ (List.mem_append_right _ (List.mem_append_left _ (List.mem_of_getElem? (i := 139) rfl : _ ∈ tables_1_4))))) (by rfl)
set_option maxRecDepth 4000 in
theorem u861 : (Jvm.Cond.laysFinal "WeddingRegisterModel" "WeddingRegisterModel" "toldOn" "[I") ∈ uw := uw_of (List.mem_append_right _ (List.mem_append_right _ (List.mem_append_right _ (List.mem_append_left _ (List.mem_of_getElem? (i := 141) rfl : _ ∈ tables_1_4))))) (by rfl)
set_option maxRecDepth 4000 in
theorem u863 : (Jvm.Cond.lays "WeddingRegisterModel" "WeddingRegisterModel" "corrections" "I") ∈ uw := uw_of (List.mem_append_right _ (List.mem_append_right _ (List.mem_append_right _ (List.mem_append_left _ (List.mem_of_getElem? (i := 143) rfl : _ ∈ tables_1_4))))) (by rfl)
set_option maxRecDepth 4000 in
theorem u866 : (Jvm.Cond.arrayClass Jvm.ClassFile.FieldType.boolean) ∈ uw := uw_of (List.mem_append_right _ (List.mem_append_right _ (List.mem_append_right _ (List.mem_append_left _ (List.mem_of_getElem? (i := 146) rfl : _ ∈ tables_1_4))))) (by rfl)
set_option maxRecDepth 4000 in
theorem u867 : (Jvm.Cond.methodLink "WeddingRegisterLaw" (17 : Nat) ({ cls := "WeddingRegisterModel", name := "law", desc := "(IIII)Z" } : Jvm.MethodName)) ∈ uw := uw_of (List.mem_append_right _ (List.mem_append_right _ (List.mem_append_right _ (List.mem_append_left _ (List.mem_of_getElem? (i := 147) rfl : _ ∈ tables_1_4))))) (by rfl)
set_option maxRecDepth 4000 in
theorem u868 : (Jvm.Cond.instanceMethod ({ cls := "WeddingRegisterModel", name := "law", desc := "(IIII)Z" } : Jvm.MethodName)) ∈ uw := uw_of (List.mem_append_right _ (List.mem_append_right _ (List.mem_append_right _ (List.mem_append_left _ (List.mem_of_getElem? (i := 148) rfl : _ ∈ tables_1_4))))) (by rfl)
set_option maxRecDepth 4000 in
theorem u869 : (Jvm.Cond.selects "WeddingRegisterModel" ({ cls := "WeddingRegisterModel", name := "law", desc := "(IIII)Z" } : Jvm.MethodName) ({ cls := "WeddingRegisterModel", name := "law", desc := "(IIII)Z" } : Jvm.MethodName)) ∈ uw := uw_of (List.mem_append_right _ (List.mem_append_right _ (List.mem_append_right _ (List.mem_append_left _ (List.mem_of_getElem? (i := 149) rfl : _ ∈ tables_1_4))))) (by rfl)
set_option maxRecDepth 4000 in
theorem u870 : (Jvm.Cond.code ({ cls := "WeddingRegisterModel", name := "law", desc := "(IIII)Z" } : Jvm.MethodName) prog_13_method_5_code (11 : Nat) (Option.some Jvm.ClassFile.FieldType.boolean)) ∈ uw := uw_of (List.mem_append_right _ (List.mem_append_right _ (List.mem_append_right _ (List.mem_append_left _ (List.mem_of_getElem? (i := 150) rfl : _ ∈ tables_1_4))))) (by rfl)
set_option maxRecDepth 4000 in
theorem u871 : (Jvm.Cond.constant "WeddingRegisterModel" (105 : Nat) (1000000 : Int32)) ∈ uw := uw_of (List.mem_append_right _ (List.mem_append_right _ (List.mem_append_right _ (List.mem_append_left _ (List.mem_of_getElem? (i := 151) rfl : _ ∈ tables_1_4))))) (by rfl)
set_option maxRecDepth 4000 in
theorem u872 : (Jvm.Cond.constant "WeddingRegisterModel" (106 : Nat) (100000 : Int32)) ∈ uw := uw_of (List.mem_append_right _ (List.mem_append_right _ (List.mem_append_right _ (List.mem_append_left _ (List.mem_of_getElem? (i := 152) rfl : _ ∈ tables_1_4))))) (by rfl)
set_option maxRecDepth 4000 in
theorem u873 : (Jvm.Cond.methodLink "WeddingRegisterModel" (98 : Nat) ({ cls := "WeddingRegisterModel", name := "in", desc := "(III)Z" } : Jvm.MethodName)) ∈ uw := uw_of (List.mem_append_right _ (List.mem_append_right _ (List.mem_append_right _ (List.mem_append_left _ (List.mem_of_getElem? (i := 153) rfl : _ ∈ tables_1_4))))) (by rfl)
set_option maxRecDepth 4000 in
theorem u874 : (Jvm.Cond.static ({ cls := "WeddingRegisterModel", name := "in", desc := "(III)Z" } : Jvm.MethodName)) ∈ uw := uw_of (List.mem_append_right _ (List.mem_append_right _ (List.mem_append_right _ (List.mem_append_left _ (List.mem_of_getElem? (i := 154) rfl : _ ∈ tables_1_4))))) (by rfl)
set_option maxRecDepth 4000 in
theorem u875 : (Jvm.Cond.code ({ cls := "WeddingRegisterModel", name := "in", desc := "(III)Z" } : Jvm.MethodName) prog_13_method_2_code (3 : Nat) (Option.some Jvm.ClassFile.FieldType.boolean)) ∈ uw := uw_of (List.mem_append_right _ (List.mem_append_right _ (List.mem_append_right _ (List.mem_append_left _ (List.mem_of_getElem? (i := 155) rfl : _ ∈ tables_1_4))))) (by rfl)
set_option maxRecDepth 4000 in
theorem u876 : (Jvm.Cond.methodLink "WeddingRegisterLaw" (22 : Nat) ({ cls := "WeddingRegisterModel", name := "person", desc := "(IIII)I" } : Jvm.MethodName)) ∈ uw := uw_of (List.mem_append_right _ (List.mem_append_right _ (List.mem_append_right _ (List.mem_append_left _ (List.mem_of_getElem? (i := 156) rfl : _ ∈ tables_1_4))))) (by rfl)
set_option maxRecDepth 4000 in
theorem u877 : (Jvm.Cond.instanceMethod ({ cls := "WeddingRegisterModel", name := "person", desc := "(IIII)I" } : Jvm.MethodName)) ∈ uw := uw_of (List.mem_append_right _ (List.mem_append_right _ (List.mem_append_right _ (List.mem_append_left _ (List.mem_of_getElem? (i := 157) rfl : _ ∈ tables_1_4))))) (by rfl)
set_option maxRecDepth 4000 in
theorem u878 : (Jvm.Cond.selects "WeddingRegisterModel" ({ cls := "WeddingRegisterModel", name := "person", desc := "(IIII)I" } : Jvm.MethodName) ({ cls := "WeddingRegisterModel", name := "person", desc := "(IIII)I" } : Jvm.MethodName)) ∈ uw := uw_of (List.mem_append_right _ (List.mem_append_right _ (List.mem_append_right _ (List.mem_append_left _ (List.mem_of_getElem? (i := 158) rfl : _ ∈ tables_1_4))))) (by rfl)
set_option maxRecDepth 4000 in
theorem u879 : (Jvm.Cond.code ({ cls := "WeddingRegisterModel", name := "person", desc := "(IIII)I" } : Jvm.MethodName) prog_13_method_8_code (8 : Nat) (Option.some Jvm.ClassFile.FieldType.int)) ∈ uw := uw_of (List.mem_append_right _ (List.mem_append_right _ (List.mem_append_right _ (List.mem_append_left _ (List.mem_of_getElem? (i := 159) rfl : _ ∈ tables_1_4))))) (by rfl)
set_option maxRecDepth 4000 in
theorem u880 : (Jvm.Cond.methodLink "WeddingRegisterModel" (117 : Nat) ({ cls := "WeddingRegisterModel", name := "isPerson", desc := "(I)Z" } : Jvm.MethodName)) ∈ uw := uw_of (List.mem_append_right _ (List.mem_append_right _ (List.mem_append_right _ (List.mem_append_left _ (List.mem_of_getElem? (i := 160) rfl : _ ∈ tables_1_4))))) (by rfl)
set_option maxRecDepth 4000 in
theorem u882 : (Jvm.Cond.instanceMethod ({ cls := "WeddingRegisterModel", name := "isPerson", desc := "(I)Z" } : Jvm.MethodName)) ∈ uw := uw_of (List.mem_append_right _ (List.mem_append_right _ (List.mem_append_right _ (List.mem_append_left _ (List.mem_of_getElem? (i := 162) rfl : _ ∈ tables_1_4))))) (by rfl)
set_option maxRecDepth 4000 in
theorem u883 : (Jvm.Cond.code ({ cls := "WeddingRegisterModel", name := "isPerson", desc := "(I)Z" } : Jvm.MethodName) prog_13_method_3_code (2 : Nat) (Option.some Jvm.ClassFile.FieldType.boolean)) ∈ uw := uw_of (List.mem_append_right _ (List.mem_append_right _ (List.mem_append_right _ (List.mem_append_left _ (List.mem_of_getElem? (i := 163) rfl : _ ∈ tables_1_4))))) (by rfl)
set_option maxRecDepth 4000 in
theorem u884 : (Jvm.Cond.methodLink "WeddingRegisterLaw" (27 : Nat) ({ cls := "WeddingRegisterModel", name := "paper", desc := "(III)Z" } : Jvm.MethodName)) ∈ uw := uw_of (List.mem_append_right _ (List.mem_append_right _ (List.mem_append_right _ (List.mem_append_left _ (List.mem_of_getElem? (i := 164) rfl : _ ∈ tables_1_4))))) (by rfl)
set_option maxRecDepth 4000 in
theorem u885 : (Jvm.Cond.instanceMethod ({ cls := "WeddingRegisterModel", name := "paper", desc := "(III)Z" } : Jvm.MethodName)) ∈ uw := uw_of (List.mem_append_right _ (List.mem_append_right _ (List.mem_append_right _ (List.mem_append_left _ (List.mem_of_getElem? (i := 165) rfl : _ ∈ tables_1_4))))) (by rfl)
set_option maxRecDepth 4000 in
theorem u886 : (Jvm.Cond.selects "WeddingRegisterModel" ({ cls := "WeddingRegisterModel", name := "paper", desc := "(III)Z" } : Jvm.MethodName) ({ cls := "WeddingRegisterModel", name := "paper", desc := "(III)Z" } : Jvm.MethodName)) ∈ uw := uw_of (List.mem_append_right _ (List.mem_append_right _ (List.mem_append_right _ (List.mem_append_left _ (List.mem_of_getElem? (i := 166) rfl : _ ∈ tables_1_4))))) (by rfl)
set_option maxRecDepth 4000 in
theorem u887 : (Jvm.Cond.code ({ cls := "WeddingRegisterModel", name := "paper", desc := "(III)Z" } : Jvm.MethodName) prog_13_method_9_code (4 : Nat) (Option.some Jvm.ClassFile.FieldType.boolean)) ∈ uw := uw_of (List.mem_append_right _ (List.mem_append_right _ (List.mem_append_right _ (List.mem_append_left _ (List.mem_of_getElem? (i := 167) rfl : _ ∈ tables_1_4))))) (by rfl)
set_option maxRecDepth 4000 in
theorem u888 : (Jvm.Cond.methodLink "WeddingRegisterLaw" (32 : Nat) ({ cls := "WeddingRegisterModel", name := "feast", desc := "(I)Z" } : Jvm.MethodName)) ∈ uw := uw_of (List.mem_append_right _ (List.mem_append_right _ (List.mem_append_right _ (List.mem_append_left _ (List.mem_of_getElem? (i := 168) rfl : _ ∈ tables_1_4))))) (by rfl)
set_option maxRecDepth 4000 in
theorem u889 : (Jvm.Cond.instanceMethod ({ cls := "WeddingRegisterModel", name := "feast", desc := "(I)Z" } : Jvm.MethodName)) ∈ uw := uw_of (List.mem_append_right _ (List.mem_append_right _ (List.mem_append_right _ (List.mem_append_left _ (List.mem_of_getElem? (i := 169) rfl : _ ∈ tables_1_4))))) (by rfl)
set_option maxRecDepth 4000 in
theorem u890 : (Jvm.Cond.selects "WeddingRegisterModel" ({ cls := "WeddingRegisterModel", name := "feast", desc := "(I)Z" } : Jvm.MethodName) ({ cls := "WeddingRegisterModel", name := "feast", desc := "(I)Z" } : Jvm.MethodName)) ∈ uw := uw_of (List.mem_append_right _ (List.mem_append_right _ (List.mem_append_right _ (List.mem_append_left _ (List.mem_of_getElem? (i := 170) rfl : _ ∈ tables_1_4))))) (by rfl)
set_option maxRecDepth 4000 in
theorem u891 : (Jvm.Cond.code ({ cls := "WeddingRegisterModel", name := "feast", desc := "(I)Z" } : Jvm.MethodName) prog_13_method_12_code (2 : Nat) (Option.some Jvm.ClassFile.FieldType.boolean)) ∈ uw := uw_of (List.mem_append_right _ (List.mem_append_right _ (List.mem_append_right _ (List.mem_append_left _ (List.mem_of_getElem? (i := 171) rfl : _ ∈ tables_1_4))))) (by rfl)
set_option maxRecDepth 4000 in
theorem u892 : (Jvm.Cond.methodLink "WeddingRegisterModel" (128 : Nat) ({ cls := "WeddingRegisterModel", name := "isFree", desc := "(I)Z" } : Jvm.MethodName)) ∈ uw := uw_of (List.mem_append_right _ (List.mem_append_right _ (List.mem_append_right _ (List.mem_append_left _ (List.mem_of_getElem? (i := 172) rfl : _ ∈ tables_1_4))))) (by rfl)
set_option maxRecDepth 4000 in
theorem u894 : (Jvm.Cond.instanceMethod ({ cls := "WeddingRegisterModel", name := "isFree", desc := "(I)Z" } : Jvm.MethodName)) ∈ uw := uw_of (List.mem_append_right _ (List.mem_append_right _ (List.mem_append_right _ (List.mem_append_left _ (List.mem_of_getElem? (i := 174) rfl : _ ∈ tables_1_4))))) (by rfl)
set_option maxRecDepth 4000 in
theorem u895 : (Jvm.Cond.code ({ cls := "WeddingRegisterModel", name := "isFree", desc := "(I)Z" } : Jvm.MethodName) prog_13_method_11_code (2 : Nat) (Option.some Jvm.ClassFile.FieldType.boolean)) ∈ uw := uw_of (List.mem_append_right _ (List.mem_append_right _ (List.mem_append_right _ (List.mem_append_left _ (List.mem_of_getElem? (i := 175) rfl : _ ∈ tables_1_4))))) (by rfl)
set_option maxRecDepth 4000 in
theorem u896 : (Jvm.Cond.methodLink "WeddingRegisterLaw" (37 : Nat) ({ cls := "WeddingRegisterModel", name := "go", desc := "(I)I" } : Jvm.MethodName)) ∈ uw := uw_of (List.mem_append_right _ (List.mem_append_right _ (List.mem_append_right _ (List.mem_append_left _ (List.mem_of_getElem? (i := 176) rfl : _ ∈ tables_1_4))))) (by rfl)
set_option maxRecDepth 4000 in
theorem u897 : (Jvm.Cond.instanceMethod ({ cls := "WeddingRegisterModel", name := "go", desc := "(I)I" } : Jvm.MethodName)) ∈ uw := uw_of (List.mem_append_right _ (List.mem_append_right _ (List.mem_append_right _ (List.mem_append_left _ (List.mem_of_getElem? (i := 177) rfl : _ ∈ tables_1_4))))) (by rfl)
set_option maxRecDepth 4000 in
theorem u898 : (Jvm.Cond.selects "WeddingRegisterModel" ({ cls := "WeddingRegisterModel", name := "go", desc := "(I)I" } : Jvm.MethodName) ({ cls := "WeddingRegisterModel", name := "go", desc := "(I)I" } : Jvm.MethodName)) ∈ uw := uw_of (List.mem_append_right _ (List.mem_append_right _ (List.mem_append_right _ (List.mem_append_left _ (List.mem_of_getElem? (i := 178) rfl : _ ∈ tables_1_4))))) (by rfl)
set_option maxRecDepth 4000 in
theorem u899 : (Jvm.Cond.code ({ cls := "WeddingRegisterModel", name := "go", desc := "(I)I" } : Jvm.MethodName) prog_13_method_13_code (2 : Nat) (Option.some Jvm.ClassFile.FieldType.int)) ∈ uw := uw_of (List.mem_append_right _ (List.mem_append_right _ (List.mem_append_right _ (List.mem_append_left _ (List.mem_of_getElem? (i := 179) rfl : _ ∈ tables_1_4))))) (by rfl)
set_option maxRecDepth 4000 in
theorem u900 : (Jvm.Cond.methodLink "WeddingRegisterModel" (131 : Nat) ({ cls := "java/lang/Math", name := "min", desc := "(II)I" } : Jvm.MethodName)) ∈ uw := uw_of (List.mem_append_right _ (List.mem_append_right _ (List.mem_append_right _ (List.mem_append_left _ (List.mem_of_getElem? (i := 180) rfl : _ ∈ tables_1_4))))) (by rfl)
set_option maxRecDepth 4000 in
theorem u901 : (Jvm.Cond.methodLink "WeddingRegisterLaw" (42 : Nat) ({ cls := "WeddingRegisterModel", name := "kin", desc := "(II)I" } : Jvm.MethodName)) ∈ uw := uw_of (List.mem_append_right _ (List.mem_append_right _ (List.mem_append_right _ (List.mem_append_left _ (List.mem_of_getElem? (i := 181) rfl : _ ∈ tables_1_4))))) (by rfl)
set_option maxRecDepth 4000 in
theorem u902 : (Jvm.Cond.instanceMethod ({ cls := "WeddingRegisterModel", name := "kin", desc := "(II)I" } : Jvm.MethodName)) ∈ uw := uw_of (List.mem_append_right _ (List.mem_append_right _ (List.mem_append_right _ (List.mem_append_left _ (List.mem_of_getElem? (i := 182) rfl : _ ∈ tables_1_4))))) (by rfl)
set_option maxRecDepth 4000 in
theorem u903 : (Jvm.Cond.selects "WeddingRegisterModel" ({ cls := "WeddingRegisterModel", name := "kin", desc := "(II)I" } : Jvm.MethodName) ({ cls := "WeddingRegisterModel", name := "kin", desc := "(II)I" } : Jvm.MethodName)) ∈ uw := uw_of (List.mem_append_right _ (List.mem_append_right _ (List.mem_append_right _ (List.mem_append_left _ (List.mem_of_getElem? (i := 183) rfl : _ ∈ tables_1_4))))) (by rfl)
set_option maxRecDepth 4000 in
theorem u904 : (Jvm.Cond.code ({ cls := "WeddingRegisterModel", name := "kin", desc := "(II)I" } : Jvm.MethodName) prog_13_method_18_code (3 : Nat) (Option.some Jvm.ClassFile.FieldType.int)) ∈ uw := uw_of (List.mem_append_right _ (List.mem_append_right _ (List.mem_append_right _ (List.mem_append_left _ (List.mem_of_getElem? (i := 184) rfl : _ ∈ tables_1_4))))) (by rfl)
set_option maxRecDepth 4000 in
theorem u905 : (Jvm.Cond.methodLink "WeddingRegisterModel" (147 : Nat) ({ cls := "WeddingRegisterModel", name := "kinOf", desc := "(II)I" } : Jvm.MethodName)) ∈ uw := uw_of (List.mem_append_right _ (List.mem_append_right _ (List.mem_append_right _ (List.mem_append_left _ (List.mem_of_getElem? (i := 185) rfl : _ ∈ tables_1_4))))) (by rfl)
set_option maxRecDepth 4000 in
theorem u907 : (Jvm.Cond.instanceMethod ({ cls := "WeddingRegisterModel", name := "kinOf", desc := "(II)I" } : Jvm.MethodName)) ∈ uw := uw_of (List.mem_append_right _ (List.mem_append_right _ (List.mem_append_right _ (List.mem_append_left _ (List.mem_of_getElem? (i := 187) rfl : _ ∈ tables_1_4))))) (by rfl)
set_option maxRecDepth 4000 in
theorem u908 : (Jvm.Cond.code ({ cls := "WeddingRegisterModel", name := "kinOf", desc := "(II)I" } : Jvm.MethodName) prog_13_method_17_code (8 : Nat) (Option.some Jvm.ClassFile.FieldType.int)) ∈ uw := uw_of (List.mem_append_right _ (List.mem_append_right _ (List.mem_append_right _ (List.mem_append_left _ (List.mem_of_getElem? (i := 188) rfl : _ ∈ tables_1_4))))) (by rfl)
set_option maxRecDepth 4000 in
theorem u909 : (Jvm.Cond.methodLink "WeddingRegisterModel" (137 : Nat) ({ cls := "WeddingRegisterModel", name := "isParent", desc := "(II)Z" } : Jvm.MethodName)) ∈ uw := uw_of (List.mem_append_right _ (List.mem_append_right _ (List.mem_append_right _ (List.mem_append_left _ (List.mem_of_getElem? (i := 189) rfl : _ ∈ tables_1_4))))) (by rfl)
set_option maxRecDepth 4000 in
theorem u911 : (Jvm.Cond.instanceMethod ({ cls := "WeddingRegisterModel", name := "isParent", desc := "(II)Z" } : Jvm.MethodName)) ∈ uw := uw_of (List.mem_append_right _ (List.mem_append_right _ (List.mem_append_right _ (List.mem_append_left _ (List.mem_of_getElem? (i := 191) rfl : _ ∈ tables_1_4))))) (by rfl)
set_option maxRecDepth 4000 in
theorem u912 : (Jvm.Cond.code ({ cls := "WeddingRegisterModel", name := "isParent", desc := "(II)Z" } : Jvm.MethodName) prog_13_method_14_code (3 : Nat) (Option.some Jvm.ClassFile.FieldType.boolean)) ∈ uw := uw_of (List.mem_append_right _ (List.mem_append_right _ (List.mem_append_right _ (List.mem_append_left _ (List.mem_of_getElem? (i := 192) rfl : _ ∈ tables_1_4))))) (by rfl)
set_option maxRecDepth 4000 in
theorem u913 : (Jvm.Cond.methodLink "WeddingRegisterModel" (141 : Nat) ({ cls := "WeddingRegisterModel", name := "share", desc := "(II)Z" } : Jvm.MethodName)) ∈ uw := uw_of (List.mem_append_right _ (List.mem_append_right _ (List.mem_append_right _ (List.mem_append_left _ (List.mem_of_getElem? (i := 193) rfl : _ ∈ tables_1_4))))) (by rfl)
set_option maxRecDepth 4000 in
theorem u915 : (Jvm.Cond.instanceMethod ({ cls := "WeddingRegisterModel", name := "share", desc := "(II)Z" } : Jvm.MethodName)) ∈ uw := uw_of (List.mem_append_right _ (List.mem_append_right _ (List.mem_append_right _ (List.mem_append_left _ (List.mem_of_getElem? (i := 195) rfl : _ ∈ tables_1_4))))) (by rfl)
set_option maxRecDepth 4000 in
theorem u916 : (Jvm.Cond.code ({ cls := "WeddingRegisterModel", name := "share", desc := "(II)Z" } : Jvm.MethodName) prog_13_method_15_code (3 : Nat) (Option.some Jvm.ClassFile.FieldType.boolean)) ∈ uw := uw_of (List.mem_append_right _ (List.mem_append_right _ (List.mem_append_right _ (List.mem_append_left _ (List.mem_of_getElem? (i := 196) rfl : _ ∈ tables_1_4))))) (by rfl)
set_option maxRecDepth 4000 in
theorem u917 : (Jvm.Cond.methodLink "WeddingRegisterModel" (144 : Nat) ({ cls := "WeddingRegisterModel", name := "parent", desc := "(II)I" } : Jvm.MethodName)) ∈ uw := uw_of (List.mem_append_right _ (List.mem_append_right _ (List.mem_append_right _ (List.mem_append_left _ (List.mem_of_getElem? (i := 197) rfl : _ ∈ tables_1_4))))) (by rfl)
set_option maxRecDepth 4000 in
theorem u919 : (Jvm.Cond.instanceMethod ({ cls := "WeddingRegisterModel", name := "parent", desc := "(II)I" } : Jvm.MethodName)) ∈ uw := uw_of (List.mem_append_right _ (List.mem_append_right _ (List.mem_append_right _ (List.mem_append_left _ (List.mem_of_getElem? (i := 199) rfl : _ ∈ tables_1_4))))) (by rfl)
set_option maxRecDepth 4000 in
theorem u920 : (Jvm.Cond.code ({ cls := "WeddingRegisterModel", name := "parent", desc := "(II)I" } : Jvm.MethodName) prog_13_method_16_code (3 : Nat) (Option.some Jvm.ClassFile.FieldType.int)) ∈ uw := uw_of (List.mem_append_right _ (List.mem_append_right _ (List.mem_append_right _ (List.mem_append_left _ (List.mem_of_getElem? (i := 200) rfl : _ ∈ tables_1_4))))) (by rfl)
set_option maxRecDepth 4000 in
theorem u921 : (Jvm.Cond.methodLink "WeddingRegisterLaw" (47 : Nat) ({ cls := "WeddingRegisterModel", name := "against", desc := "(III)I" } : Jvm.MethodName)) ∈ uw := uw_of (List.mem_append_right _ (List.mem_append_right _ (List.mem_append_right _ (List.mem_append_left _ (List.mem_of_getElem? (i := 201) rfl : _ ∈ tables_1_4))))) (by rfl)
set_option maxRecDepth 4000 in
theorem u922 : (Jvm.Cond.instanceMethod ({ cls := "WeddingRegisterModel", name := "against", desc := "(III)I" } : Jvm.MethodName)) ∈ uw := uw_of (List.mem_append_right _ (List.mem_append_right _ (List.mem_append_right _ (List.mem_append_left _ (List.mem_of_getElem? (i := 202) rfl : _ ∈ tables_1_4))))) (by rfl)
set_option maxRecDepth 4000 in
theorem u923 : (Jvm.Cond.selects "WeddingRegisterModel" ({ cls := "WeddingRegisterModel", name := "against", desc := "(III)I" } : Jvm.MethodName) ({ cls := "WeddingRegisterModel", name := "against", desc := "(III)I" } : Jvm.MethodName)) ∈ uw := uw_of (List.mem_append_right _ (List.mem_append_right _ (List.mem_append_right _ (List.mem_append_left _ (List.mem_of_getElem? (i := 203) rfl : _ ∈ tables_1_4))))) (by rfl)
set_option maxRecDepth 4000 in
theorem u924 : (Jvm.Cond.code ({ cls := "WeddingRegisterModel", name := "against", desc := "(III)I" } : Jvm.MethodName) prog_13_method_22_code (4 : Nat) (Option.some Jvm.ClassFile.FieldType.int)) ∈ uw := uw_of (List.mem_append_right _ (List.mem_append_right _ (List.mem_append_right _ (List.mem_append_left _ (List.mem_of_getElem? (i := 204) rfl : _ ∈ tables_1_4))))) (by rfl)
set_option maxRecDepth 4000 in
theorem u925 : (Jvm.Cond.methodLink "WeddingRegisterModel" (159 : Nat) ({ cls := "WeddingRegisterModel", name := "stands", desc := "(III)I" } : Jvm.MethodName)) ∈ uw := uw_of (List.mem_append_right _ (List.mem_append_right _ (List.mem_append_right _ (List.mem_append_left _ (List.mem_of_getElem? (i := 205) rfl : _ ∈ tables_1_4))))) (by rfl)
set_option maxRecDepth 4000 in
theorem u927 : (Jvm.Cond.instanceMethod ({ cls := "WeddingRegisterModel", name := "stands", desc := "(III)I" } : Jvm.MethodName)) ∈ uw := uw_of (List.mem_append_right _ (List.mem_append_right _ (List.mem_append_right _ (List.mem_append_left _ (List.mem_of_getElem? (i := 207) rfl : _ ∈ tables_1_4))))) (by rfl)
set_option maxRecDepth 4000 in
theorem u928 : (Jvm.Cond.code ({ cls := "WeddingRegisterModel", name := "stands", desc := "(III)I" } : Jvm.MethodName) prog_13_method_21_code (5 : Nat) (Option.some Jvm.ClassFile.FieldType.int)) ∈ uw := uw_of (List.mem_append_right _ (List.mem_append_right _ (List.mem_append_right _ (List.mem_append_left _ (List.mem_of_getElem? (i := 208) rfl : _ ∈ tables_1_4))))) (by rfl)
set_option maxRecDepth 4000 in
theorem u929 : (Jvm.Cond.methodLink "WeddingRegisterModel" (153 : Nat) ({ cls := "WeddingRegisterModel", name := "isYoung", desc := "(II)Z" } : Jvm.MethodName)) ∈ uw := uw_of (List.mem_append_right _ (List.mem_append_right _ (List.mem_append_right _ (List.mem_append_left _ (List.mem_of_getElem? (i := 209) rfl : _ ∈ tables_1_4))))) (by rfl)
set_option maxRecDepth 4000 in
theorem u931 : (Jvm.Cond.instanceMethod ({ cls := "WeddingRegisterModel", name := "isYoung", desc := "(II)Z" } : Jvm.MethodName)) ∈ uw := uw_of (List.mem_append_right _ (List.mem_append_right _ (List.mem_append_right _ (List.mem_append_left _ (List.mem_of_getElem? (i := 211) rfl : _ ∈ tables_1_4))))) (by rfl)
set_option maxRecDepth 4000 in
theorem u932 : (Jvm.Cond.code ({ cls := "WeddingRegisterModel", name := "isYoung", desc := "(II)Z" } : Jvm.MethodName) prog_13_method_19_code (3 : Nat) (Option.some Jvm.ClassFile.FieldType.boolean)) ∈ uw := uw_of (List.mem_append_right _ (List.mem_append_right _ (List.mem_append_right _ (List.mem_append_left _ (List.mem_of_getElem? (i := 212) rfl : _ ∈ tables_1_4))))) (by rfl)
set_option maxRecDepth 4000 in
theorem u933 : (Jvm.Cond.methodLink "WeddingRegisterModel" (124 : Nat) ({ cls := "WeddingRegisterModel", name := "asks", desc := "(III)I" } : Jvm.MethodName)) ∈ uw := uw_of (List.mem_append_right _ (List.mem_append_right _ (List.mem_append_right _ (List.mem_append_left _ (List.mem_of_getElem? (i := 213) rfl : _ ∈ tables_1_4))))) (by rfl)
set_option maxRecDepth 4000 in
theorem u935 : (Jvm.Cond.instanceMethod ({ cls := "WeddingRegisterModel", name := "asks", desc := "(III)I" } : Jvm.MethodName)) ∈ uw := uw_of (List.mem_append_right _ (List.mem_append_right _ (List.mem_append_right _ (List.mem_append_left _ (List.mem_of_getElem? (i := 215) rfl : _ ∈ tables_1_4))))) (by rfl)
set_option maxRecDepth 4000 in
theorem u936 : (Jvm.Cond.code ({ cls := "WeddingRegisterModel", name := "asks", desc := "(III)I" } : Jvm.MethodName) prog_13_method_7_code (4 : Nat) (Option.some Jvm.ClassFile.FieldType.int)) ∈ uw := uw_of (List.mem_append_right _ (List.mem_append_right _ (List.mem_append_right _ (List.mem_append_left _ (List.mem_of_getElem? (i := 216) rfl : _ ∈ tables_1_4))))) (by rfl)
set_option maxRecDepth 4000 in
theorem u937 : (Jvm.Cond.methodLink "WeddingRegisterModel" (110 : Nat) ({ cls := "WeddingRegisterModel", name := "inForce", desc := "(II)[I" } : Jvm.MethodName)) ∈ uw := uw_of (List.mem_append_right _ (List.mem_append_right _ (List.mem_append_right _ (List.mem_append_left _ (List.mem_of_getElem? (i := 217) rfl : _ ∈ tables_1_4))))) (by rfl)
set_option maxRecDepth 4000 in
theorem u939 : (Jvm.Cond.instanceMethod ({ cls := "WeddingRegisterModel", name := "inForce", desc := "(II)[I" } : Jvm.MethodName)) ∈ uw := uw_of (List.mem_append_right _ (List.mem_append_right _ (List.mem_append_right _ (List.mem_append_left _ (List.mem_of_getElem? (i := 219) rfl : _ ∈ tables_1_4))))) (by rfl)
set_option maxRecDepth 4000 in
theorem u940 : (Jvm.Cond.code ({ cls := "WeddingRegisterModel", name := "inForce", desc := "(II)[I" } : Jvm.MethodName) prog_13_method_6_code (5 : Nat) (Option.some (Jvm.ClassFile.FieldType.array Jvm.ClassFile.FieldType.int))) ∈ uw := uw_of (List.mem_append_right _ (List.mem_append_right _ (List.mem_append_right _ (List.mem_append_left _ (List.mem_of_getElem? (i := 220) rfl : _ ∈ tables_1_4))))) (by rfl)
set_option maxRecDepth 4000 in
theorem u941 : (Jvm.Cond.methodLink "WeddingRegisterModel" (156 : Nat) ({ cls := "WeddingRegisterModel", name := "lacks", desc := "(II)Z" } : Jvm.MethodName)) ∈ uw := uw_of (List.mem_append_right _ (List.mem_append_right _ (List.mem_append_right _ (List.mem_append_left _ (List.mem_of_getElem? (i := 221) rfl : _ ∈ tables_1_4))))) (by rfl)
set_option maxRecDepth 4000 in
theorem u943 : (Jvm.Cond.instanceMethod ({ cls := "WeddingRegisterModel", name := "lacks", desc := "(II)Z" } : Jvm.MethodName)) ∈ uw := uw_of (List.mem_append_right _ (List.mem_append_right _ (List.mem_append_right _ (List.mem_append_left _ (List.mem_of_getElem? (i := 223) rfl : _ ∈ tables_1_4))))) (by rfl)
set_option maxRecDepth 4000 in
theorem u944 : (Jvm.Cond.code ({ cls := "WeddingRegisterModel", name := "lacks", desc := "(II)Z" } : Jvm.MethodName) prog_13_method_20_code (4 : Nat) (Option.some Jvm.ClassFile.FieldType.boolean)) ∈ uw := uw_of (List.mem_append_right _ (List.mem_append_right _ (List.mem_append_right _ (List.mem_append_left _ (List.mem_of_getElem? (i := 224) rfl : _ ∈ tables_1_4))))) (by rfl)
set_option maxRecDepth 4000 in
theorem u945 : (Jvm.Cond.methodLink "WeddingRegisterModel" (150 : Nat) ({ cls := "WeddingRegisterModel", name := "hasPaper", desc := "(III)Z" } : Jvm.MethodName)) ∈ uw := uw_of (List.mem_append_right _ (List.mem_append_right _ (List.mem_append_right _ (List.mem_append_left _ (List.mem_of_getElem? (i := 225) rfl : _ ∈ tables_1_4))))) (by rfl)
set_option maxRecDepth 4000 in
theorem u947 : (Jvm.Cond.instanceMethod ({ cls := "WeddingRegisterModel", name := "hasPaper", desc := "(III)Z" } : Jvm.MethodName)) ∈ uw := uw_of (List.mem_append_right _ (List.mem_append_right _ (List.mem_append_right _ (List.mem_append_left _ (List.mem_of_getElem? (i := 227) rfl : _ ∈ tables_1_4))))) (by rfl)
set_option maxRecDepth 4000 in
theorem u948 : (Jvm.Cond.code ({ cls := "WeddingRegisterModel", name := "hasPaper", desc := "(III)Z" } : Jvm.MethodName) prog_13_method_10_code (5 : Nat) (Option.some Jvm.ClassFile.FieldType.boolean)) ∈ uw := uw_of (List.mem_append_right _ (List.mem_append_right _ (List.mem_append_right _ (List.mem_append_left _ (List.mem_of_getElem? (i := 228) rfl : _ ∈ tables_1_4))))) (by rfl)
set_option maxRecDepth 4000 in
theorem u949 : (Jvm.Cond.methodLink "WeddingRegisterLaw" (51 : Nat) ({ cls := "WeddingRegisterModel", name := "post", desc := "(II)I" } : Jvm.MethodName)) ∈ uw := uw_of (List.mem_append_right _ (List.mem_append_right _ (List.mem_append_right _ (List.mem_append_left _ (List.mem_of_getElem? (i := 229) rfl : _ ∈ tables_1_4))))) (by rfl)
set_option maxRecDepth 4000 in
theorem u950 : (Jvm.Cond.instanceMethod ({ cls := "WeddingRegisterModel", name := "post", desc := "(II)I" } : Jvm.MethodName)) ∈ uw := uw_of (List.mem_append_right _ (List.mem_append_right _ (List.mem_append_right _ (List.mem_append_left _ (List.mem_of_getElem? (i := 230) rfl : _ ∈ tables_1_4))))) (by rfl)
set_option maxRecDepth 4000 in
theorem u951 : (Jvm.Cond.selects "WeddingRegisterModel" ({ cls := "WeddingRegisterModel", name := "post", desc := "(II)I" } : Jvm.MethodName) ({ cls := "WeddingRegisterModel", name := "post", desc := "(II)I" } : Jvm.MethodName)) ∈ uw := uw_of (List.mem_append_right _ (List.mem_append_right _ (List.mem_append_right _ (List.mem_append_left _ (List.mem_of_getElem? (i := 231) rfl : _ ∈ tables_1_4))))) (by rfl)
set_option maxRecDepth 4000 in
theorem u952 : (Jvm.Cond.code ({ cls := "WeddingRegisterModel", name := "post", desc := "(II)I" } : Jvm.MethodName) prog_13_method_23_code (4 : Nat) (Option.some Jvm.ClassFile.FieldType.int)) ∈ uw := uw_of (List.mem_append_right _ (List.mem_append_right _ (List.mem_append_right _ (List.mem_append_left _ (List.mem_of_getElem? (i := 232) rfl : _ ∈ tables_1_4))))) (by rfl)
set_option maxRecDepth 4000 in
theorem u953 : (Jvm.Cond.methodLink "WeddingRegisterLaw" (55 : Nat) ({ cls := "WeddingRegisterModel", name := "withdraw", desc := "(I)Z" } : Jvm.MethodName)) ∈ uw := uw_of (List.mem_append_right _ (List.mem_append_right _ (List.mem_append_right _ (List.mem_append_left _ (List.mem_of_getElem? (i := 233) rfl : _ ∈ tables_1_4))))) (by rfl)
set_option maxRecDepth 4000 in
theorem u954 : (Jvm.Cond.instanceMethod ({ cls := "WeddingRegisterModel", name := "withdraw", desc := "(I)Z" } : Jvm.MethodName)) ∈ uw := uw_of (List.mem_append_right _ (List.mem_append_right _ (List.mem_append_right _ (List.mem_append_left _ (List.mem_of_getElem? (i := 234) rfl : _ ∈ tables_1_4))))) (by rfl)
set_option maxRecDepth 4000 in
theorem u955 : (Jvm.Cond.selects "WeddingRegisterModel" ({ cls := "WeddingRegisterModel", name := "withdraw", desc := "(I)Z" } : Jvm.MethodName) ({ cls := "WeddingRegisterModel", name := "withdraw", desc := "(I)Z" } : Jvm.MethodName)) ∈ uw := uw_of (List.mem_append_right _ (List.mem_append_right _ (List.mem_append_right _ (List.mem_append_left _ (List.mem_of_getElem? (i := 235) rfl : _ ∈ tables_1_4))))) (by rfl)
set_option maxRecDepth 4000 in
theorem u956 : (Jvm.Cond.code ({ cls := "WeddingRegisterModel", name := "withdraw", desc := "(I)Z" } : Jvm.MethodName) prog_13_method_24_code (2 : Nat) (Option.some Jvm.ClassFile.FieldType.boolean)) ∈ uw := uw_of (List.mem_append_right _ (List.mem_append_right _ (List.mem_append_right _ (List.mem_append_left _ (List.mem_of_getElem? (i := 236) rfl : _ ∈ tables_1_4))))) (by rfl)
set_option maxRecDepth 4000 in
theorem u957 : (Jvm.Cond.methodLink "WeddingRegisterModel" (162 : Nat) ({ cls := "WeddingRegisterModel", name := "isNotice", desc := "(I)Z" } : Jvm.MethodName)) ∈ uw := uw_of (List.mem_append_right _ (List.mem_append_right _ (List.mem_append_right _ (List.mem_append_left _ (List.mem_of_getElem? (i := 237) rfl : _ ∈ tables_1_4))))) (by rfl)
set_option maxRecDepth 4000 in
theorem u959 : (Jvm.Cond.instanceMethod ({ cls := "WeddingRegisterModel", name := "isNotice", desc := "(I)Z" } : Jvm.MethodName)) ∈ uw := uw_of (List.mem_append_right _ (List.mem_append_right _ (List.mem_append_right _ (List.mem_append_left _ (List.mem_of_getElem? (i := 239) rfl : _ ∈ tables_1_4))))) (by rfl)
set_option maxRecDepth 4000 in
theorem u960 : (Jvm.Cond.code ({ cls := "WeddingRegisterModel", name := "isNotice", desc := "(I)Z" } : Jvm.MethodName) prog_13_method_4_code (2 : Nat) (Option.some Jvm.ClassFile.FieldType.boolean)) ∈ uw := uw_of (List.mem_append_right _ (List.mem_append_right _ (List.mem_append_right _ (List.mem_append_right _ ((List.mem_of_getElem? (i := 0) rfl : _ ∈ tables_1_5)))))) (by rfl)
set_option maxRecDepth 4000 in
theorem u961 : (Jvm.Cond.methodLink "WeddingRegisterLaw" (59 : Nat) ({ cls := "WeddingRegisterModel", name := "hung", desc := "(II)I" } : Jvm.MethodName)) ∈ uw := uw_of (List.mem_append_right _ (List.mem_append_right _ (List.mem_append_right _ (List.mem_append_right _ ((List.mem_of_getElem? (i := 1) rfl : _ ∈ tables_1_5)))))) (by rfl)
set_option maxRecDepth 4000 in
theorem u962 : (Jvm.Cond.instanceMethod ({ cls := "WeddingRegisterModel", name := "hung", desc := "(II)I" } : Jvm.MethodName)) ∈ uw := uw_of (List.mem_append_right _ (List.mem_append_right _ (List.mem_append_right _ (List.mem_append_right _ ((List.mem_of_getElem? (i := 2) rfl : _ ∈ tables_1_5)))))) (by rfl)
set_option maxRecDepth 4000 in
theorem u963 : (Jvm.Cond.selects "WeddingRegisterModel" ({ cls := "WeddingRegisterModel", name := "hung", desc := "(II)I" } : Jvm.MethodName) ({ cls := "WeddingRegisterModel", name := "hung", desc := "(II)I" } : Jvm.MethodName)) ∈ uw := uw_of (List.mem_append_right _ (List.mem_append_right _ (List.mem_append_right _ (List.mem_append_right _ ((List.mem_of_getElem? (i := 3) rfl : _ ∈ tables_1_5)))))) (by rfl)
set_option maxRecDepth 4000 in
theorem u964 : (Jvm.Cond.code ({ cls := "WeddingRegisterModel", name := "hung", desc := "(II)I" } : Jvm.MethodName) prog_13_method_26_code (3 : Nat) (Option.some Jvm.ClassFile.FieldType.int)) ∈ uw := uw_of (List.mem_append_right _ (List.mem_append_right _ (List.mem_append_right _ (List.mem_append_right _ ((List.mem_of_getElem? (i := 4) rfl : _ ∈ tables_1_5)))))) (by rfl)
set_option maxRecDepth 4000 in
theorem u965 : (Jvm.Cond.methodLink "WeddingRegisterModel" (165 : Nat) ({ cls := "WeddingRegisterModel", name := "hungOf", desc := "(II)I" } : Jvm.MethodName)) ∈ uw := uw_of (List.mem_append_right _ (List.mem_append_right _ (List.mem_append_right _ (List.mem_append_right _ ((List.mem_of_getElem? (i := 5) rfl : _ ∈ tables_1_5)))))) (by rfl)
set_option maxRecDepth 4000 in
theorem u967 : (Jvm.Cond.instanceMethod ({ cls := "WeddingRegisterModel", name := "hungOf", desc := "(II)I" } : Jvm.MethodName)) ∈ uw := uw_of (List.mem_append_right _ (List.mem_append_right _ (List.mem_append_right _ (List.mem_append_right _ ((List.mem_of_getElem? (i := 7) rfl : _ ∈ tables_1_5)))))) (by rfl)
set_option maxRecDepth 4000 in
theorem u968 : (Jvm.Cond.code ({ cls := "WeddingRegisterModel", name := "hungOf", desc := "(II)I" } : Jvm.MethodName) prog_13_method_25_code (5 : Nat) (Option.some Jvm.ClassFile.FieldType.int)) ∈ uw := uw_of (List.mem_append_right _ (List.mem_append_right _ (List.mem_append_right _ (List.mem_append_right _ ((List.mem_of_getElem? (i := 8) rfl : _ ∈ tables_1_5)))))) (by rfl)
set_option maxRecDepth 4000 in
theorem u969 : (Jvm.Cond.methodLink "WeddingRegisterLaw" (63 : Nat) ({ cls := "WeddingRegisterModel", name := "ripe", desc := "(I)I" } : Jvm.MethodName)) ∈ uw := uw_of (List.mem_append_right _ (List.mem_append_right _ (List.mem_append_right _ (List.mem_append_right _ ((List.mem_of_getElem? (i := 9) rfl : _ ∈ tables_1_5)))))) (by rfl)
set_option maxRecDepth 4000 in
theorem u970 : (Jvm.Cond.instanceMethod ({ cls := "WeddingRegisterModel", name := "ripe", desc := "(I)I" } : Jvm.MethodName)) ∈ uw := uw_of (List.mem_append_right _ (List.mem_append_right _ (List.mem_append_right _ (List.mem_append_right _ ((List.mem_of_getElem? (i := 10) rfl : _ ∈ tables_1_5)))))) (by rfl)
set_option maxRecDepth 4000 in
theorem u971 : (Jvm.Cond.selects "WeddingRegisterModel" ({ cls := "WeddingRegisterModel", name := "ripe", desc := "(I)I" } : Jvm.MethodName) ({ cls := "WeddingRegisterModel", name := "ripe", desc := "(I)I" } : Jvm.MethodName)) ∈ uw := uw_of (List.mem_append_right _ (List.mem_append_right _ (List.mem_append_right _ (List.mem_append_right _ ((List.mem_of_getElem? (i := 11) rfl : _ ∈ tables_1_5)))))) (by rfl)
set_option maxRecDepth 4000 in
theorem u972 : (Jvm.Cond.code ({ cls := "WeddingRegisterModel", name := "ripe", desc := "(I)I" } : Jvm.MethodName) prog_13_method_29_code (2 : Nat) (Option.some Jvm.ClassFile.FieldType.int)) ∈ uw := uw_of (List.mem_append_right _ (List.mem_append_right _ (List.mem_append_right _ (List.mem_append_right _ ((List.mem_of_getElem? (i := 12) rfl : _ ∈ tables_1_5)))))) (by rfl)
set_option maxRecDepth 4000 in
theorem u973 : (Jvm.Cond.methodLink "WeddingRegisterModel" (174 : Nat) ({ cls := "WeddingRegisterModel", name := "ripeOf", desc := "(I)I" } : Jvm.MethodName)) ∈ uw := uw_of (List.mem_append_right _ (List.mem_append_right _ (List.mem_append_right _ (List.mem_append_right _ ((List.mem_of_getElem? (i := 13) rfl : _ ∈ tables_1_5)))))) (by rfl)
set_option maxRecDepth 4000 in
theorem u975 : (Jvm.Cond.instanceMethod ({ cls := "WeddingRegisterModel", name := "ripeOf", desc := "(I)I" } : Jvm.MethodName)) ∈ uw := uw_of (List.mem_append_right _ (List.mem_append_right _ (List.mem_append_right _ (List.mem_append_right _ ((List.mem_of_getElem? (i := 15) rfl : _ ∈ tables_1_5)))))) (by rfl)
set_option maxRecDepth 4000 in
theorem u976 : (Jvm.Cond.code ({ cls := "WeddingRegisterModel", name := "ripeOf", desc := "(I)I" } : Jvm.MethodName) prog_13_method_28_code (4 : Nat) (Option.some Jvm.ClassFile.FieldType.int)) ∈ uw := uw_of (List.mem_append_right _ (List.mem_append_right _ (List.mem_append_right _ (List.mem_append_right _ ((List.mem_of_getElem? (i := 16) rfl : _ ∈ tables_1_5)))))) (by rfl)
set_option maxRecDepth 4000 in
theorem u977 : (Jvm.Cond.methodLink "WeddingRegisterModel" (171 : Nat) ({ cls := "WeddingRegisterModel", name := "wanted", desc := "(II)I" } : Jvm.MethodName)) ∈ uw := uw_of (List.mem_append_right _ (List.mem_append_right _ (List.mem_append_right _ (List.mem_append_right _ ((List.mem_of_getElem? (i := 17) rfl : _ ∈ tables_1_5)))))) (by rfl)
set_option maxRecDepth 4000 in
theorem u979 : (Jvm.Cond.instanceMethod ({ cls := "WeddingRegisterModel", name := "wanted", desc := "(II)I" } : Jvm.MethodName)) ∈ uw := uw_of (List.mem_append_right _ (List.mem_append_right _ (List.mem_append_right _ (List.mem_append_right _ ((List.mem_of_getElem? (i := 19) rfl : _ ∈ tables_1_5)))))) (by rfl)
set_option maxRecDepth 4000 in
theorem u980 : (Jvm.Cond.code ({ cls := "WeddingRegisterModel", name := "wanted", desc := "(II)I" } : Jvm.MethodName) prog_13_method_27_code (3 : Nat) (Option.some Jvm.ClassFile.FieldType.int)) ∈ uw := uw_of (List.mem_append_right _ (List.mem_append_right _ (List.mem_append_right _ (List.mem_append_right _ ((List.mem_of_getElem? (i := 20) rfl : _ ∈ tables_1_5)))))) (by rfl)
set_option maxRecDepth 4000 in
theorem u981 : (Jvm.Cond.methodLink "WeddingRegisterModel" (168 : Nat) ({ cls := "java/lang/Math", name := "max", desc := "(II)I" } : Jvm.MethodName)) ∈ uw := uw_of (List.mem_append_right _ (List.mem_append_right _ (List.mem_append_right _ (List.mem_append_right _ ((List.mem_of_getElem? (i := 21) rfl : _ ∈ tables_1_5)))))) (by rfl)
set_option maxRecDepth 4000 in
theorem u982 : (Jvm.Cond.methodLink "WeddingRegisterLaw" (67 : Nat) ({ cls := "WeddingRegisterModel", name := "object", desc := "(I)I" } : Jvm.MethodName)) ∈ uw := uw_of (List.mem_append_right _ (List.mem_append_right _ (List.mem_append_right _ (List.mem_append_right _ ((List.mem_of_getElem? (i := 22) rfl : _ ∈ tables_1_5)))))) (by rfl)
set_option maxRecDepth 4000 in
theorem u983 : (Jvm.Cond.instanceMethod ({ cls := "WeddingRegisterModel", name := "object", desc := "(I)I" } : Jvm.MethodName)) ∈ uw := uw_of (List.mem_append_right _ (List.mem_append_right _ (List.mem_append_right _ (List.mem_append_right _ ((List.mem_of_getElem? (i := 23) rfl : _ ∈ tables_1_5)))))) (by rfl)
set_option maxRecDepth 4000 in
theorem u984 : (Jvm.Cond.selects "WeddingRegisterModel" ({ cls := "WeddingRegisterModel", name := "object", desc := "(I)I" } : Jvm.MethodName) ({ cls := "WeddingRegisterModel", name := "object", desc := "(I)I" } : Jvm.MethodName)) ∈ uw := uw_of (List.mem_append_right _ (List.mem_append_right _ (List.mem_append_right _ (List.mem_append_right _ ((List.mem_of_getElem? (i := 24) rfl : _ ∈ tables_1_5)))))) (by rfl)
set_option maxRecDepth 4000 in
theorem u985 : (Jvm.Cond.code ({ cls := "WeddingRegisterModel", name := "object", desc := "(I)I" } : Jvm.MethodName) prog_13_method_32_code (3 : Nat) (Option.some Jvm.ClassFile.FieldType.int)) ∈ uw := uw_of (List.mem_append_right _ (List.mem_append_right _ (List.mem_append_right _ (List.mem_append_right _ ((List.mem_of_getElem? (i := 25) rfl : _ ∈ tables_1_5)))))) (by rfl)
set_option maxRecDepth 4000 in
theorem u986 : (Jvm.Cond.methodLink "WeddingRegisterLaw" (72 : Nat) ({ cls := "WeddingRegisterModel", name := "judge", desc := "(IZ)Z" } : Jvm.MethodName)) ∈ uw := uw_of (List.mem_append_right _ (List.mem_append_right _ (List.mem_append_right _ (List.mem_append_right _ ((List.mem_of_getElem? (i := 26) rfl : _ ∈ tables_1_5)))))) (by rfl)
set_option maxRecDepth 4000 in
theorem u987 : (Jvm.Cond.instanceMethod ({ cls := "WeddingRegisterModel", name := "judge", desc := "(IZ)Z" } : Jvm.MethodName)) ∈ uw := uw_of (List.mem_append_right _ (List.mem_append_right _ (List.mem_append_right _ (List.mem_append_right _ ((List.mem_of_getElem? (i := 27) rfl : _ ∈ tables_1_5)))))) (by rfl)
set_option maxRecDepth 4000 in
theorem u988 : (Jvm.Cond.selects "WeddingRegisterModel" ({ cls := "WeddingRegisterModel", name := "judge", desc := "(IZ)Z" } : Jvm.MethodName) ({ cls := "WeddingRegisterModel", name := "judge", desc := "(IZ)Z" } : Jvm.MethodName)) ∈ uw := uw_of (List.mem_append_right _ (List.mem_append_right _ (List.mem_append_right _ (List.mem_append_right _ ((List.mem_of_getElem? (i := 28) rfl : _ ∈ tables_1_5)))))) (by rfl)
set_option maxRecDepth 4000 in
theorem u989 : (Jvm.Cond.code ({ cls := "WeddingRegisterModel", name := "judge", desc := "(IZ)Z" } : Jvm.MethodName) prog_13_method_33_code (3 : Nat) (Option.some Jvm.ClassFile.FieldType.boolean)) ∈ uw := uw_of (List.mem_append_right _ (List.mem_append_right _ (List.mem_append_right _ (List.mem_append_right _ ((List.mem_of_getElem? (i := 29) rfl : _ ∈ tables_1_5)))))) (by rfl)
set_option maxRecDepth 4000 in
theorem u990 : (Jvm.Cond.methodLink "WeddingRegisterLaw" (76 : Nat) ({ cls := "WeddingRegisterModel", name := "registrar", desc := "(I)I" } : Jvm.MethodName)) ∈ uw := uw_of (List.mem_append_right _ (List.mem_append_right _ (List.mem_append_right _ (List.mem_append_right _ ((List.mem_of_getElem? (i := 30) rfl : _ ∈ tables_1_5)))))) (by rfl)
set_option maxRecDepth 4000 in
theorem u991 : (Jvm.Cond.instanceMethod ({ cls := "WeddingRegisterModel", name := "registrar", desc := "(I)I" } : Jvm.MethodName)) ∈ uw := uw_of (List.mem_append_right _ (List.mem_append_right _ (List.mem_append_right _ (List.mem_append_right _ ((List.mem_of_getElem? (i := 31) rfl : _ ∈ tables_1_5)))))) (by rfl)
set_option maxRecDepth 4000 in
theorem u992 : (Jvm.Cond.selects "WeddingRegisterModel" ({ cls := "WeddingRegisterModel", name := "registrar", desc := "(I)I" } : Jvm.MethodName) ({ cls := "WeddingRegisterModel", name := "registrar", desc := "(I)I" } : Jvm.MethodName)) ∈ uw := uw_of (List.mem_append_right _ (List.mem_append_right _ (List.mem_append_right _ (List.mem_append_right _ ((List.mem_of_getElem? (i := 32) rfl : _ ∈ tables_1_5)))))) (by rfl)
set_option maxRecDepth 4000 in
theorem u993 : (Jvm.Cond.code ({ cls := "WeddingRegisterModel", name := "registrar", desc := "(I)I" } : Jvm.MethodName) prog_13_method_34_code (2 : Nat) (Option.some Jvm.ClassFile.FieldType.int)) ∈ uw := uw_of (List.mem_append_right _ (List.mem_append_right _ (List.mem_append_right _ (List.mem_append_right _ ((List.mem_of_getElem? (i := 33) rfl : _ ∈ tables_1_5)))))) (by rfl)
set_option maxRecDepth 4000 in
theorem u994 : (Jvm.Cond.methodLink "WeddingRegisterLaw" (80 : Nat) ({ cls := "WeddingRegisterModel", name := "book", desc := "(III)I" } : Jvm.MethodName)) ∈ uw := uw_of (List.mem_append_right _ (List.mem_append_right _ (List.mem_append_right _ (List.mem_append_right _ ((List.mem_of_getElem? (i := 34) rfl : _ ∈ tables_1_5)))))) (by rfl)
set_option maxRecDepth 4000 in
theorem u995 : (Jvm.Cond.instanceMethod ({ cls := "WeddingRegisterModel", name := "book", desc := "(III)I" } : Jvm.MethodName)) ∈ uw := uw_of (List.mem_append_right _ (List.mem_append_right _ (List.mem_append_right _ (List.mem_append_right _ ((List.mem_of_getElem? (i := 35) rfl : _ ∈ tables_1_5)))))) (by rfl)
set_option maxRecDepth 4000 in
theorem u996 : (Jvm.Cond.selects "WeddingRegisterModel" ({ cls := "WeddingRegisterModel", name := "book", desc := "(III)I" } : Jvm.MethodName) ({ cls := "WeddingRegisterModel", name := "book", desc := "(III)I" } : Jvm.MethodName)) ∈ uw := uw_of (List.mem_append_right _ (List.mem_append_right _ (List.mem_append_right _ (List.mem_append_right _ ((List.mem_of_getElem? (i := 36) rfl : _ ∈ tables_1_5)))))) (by rfl)
set_option maxRecDepth 4000 in
theorem u997 : (Jvm.Cond.code ({ cls := "WeddingRegisterModel", name := "book", desc := "(III)I" } : Jvm.MethodName) prog_13_method_36_code (8 : Nat) (Option.some Jvm.ClassFile.FieldType.int)) ∈ uw := uw_of (List.mem_append_right _ (List.mem_append_right _ (List.mem_append_right _ (List.mem_append_right _ ((List.mem_of_getElem? (i := 37) rfl : _ ∈ tables_1_5)))))) (by rfl)
set_option maxRecDepth 4000 in
theorem u998 : (Jvm.Cond.methodLink "WeddingRegisterModel" (190 : Nat) ({ cls := "WeddingRegisterModel", name := "bars", desc := "(IIIII)I" } : Jvm.MethodName)) ∈ uw := uw_of (List.mem_append_right _ (List.mem_append_right _ (List.mem_append_right _ (List.mem_append_right _ ((List.mem_of_getElem? (i := 38) rfl : _ ∈ tables_1_5)))))) (by rfl)
set_option maxRecDepth 4000 in
theorem u1000 : (Jvm.Cond.instanceMethod ({ cls := "WeddingRegisterModel", name := "bars", desc := "(IIIII)I" } : Jvm.MethodName)) ∈ uw := uw_of (List.mem_append_right _ (List.mem_append_right _ (List.mem_append_right _ (List.mem_append_right _ ((List.mem_of_getElem? (i := 40) rfl : _ ∈ tables_1_5)))))) (by rfl)
set_option maxRecDepth 4000 in
theorem u1001 : (Jvm.Cond.code ({ cls := "WeddingRegisterModel", name := "bars", desc := "(IIIII)I" } : Jvm.MethodName) prog_13_method_35_code (11 : Nat) (Option.some Jvm.ClassFile.FieldType.int)) ∈ uw := uw_of (List.mem_append_right _ (List.mem_append_right _ (List.mem_append_right _ (List.mem_append_right _ ((List.mem_of_getElem? (i := 41) rfl : _ ∈ tables_1_5)))))) (by rfl)
set_option maxRecDepth 4000 in
theorem u1002 : (Jvm.Cond.methodLink "WeddingRegisterModel" (187 : Nat) ({ cls := "WeddingRegisterModel", name := "isRipe", desc := "(II)Z" } : Jvm.MethodName)) ∈ uw := uw_of (List.mem_append_right _ (List.mem_append_right _ (List.mem_append_right _ (List.mem_append_right _ ((List.mem_of_getElem? (i := 42) rfl : _ ∈ tables_1_5)))))) (by rfl)
set_option maxRecDepth 4000 in
theorem u1004 : (Jvm.Cond.instanceMethod ({ cls := "WeddingRegisterModel", name := "isRipe", desc := "(II)Z" } : Jvm.MethodName)) ∈ uw := uw_of (List.mem_append_right _ (List.mem_append_right _ (List.mem_append_right _ (List.mem_append_right _ ((List.mem_of_getElem? (i := 44) rfl : _ ∈ tables_1_5)))))) (by rfl)
set_option maxRecDepth 4000 in
theorem u1005 : (Jvm.Cond.code ({ cls := "WeddingRegisterModel", name := "isRipe", desc := "(II)Z" } : Jvm.MethodName) prog_13_method_31_code (3 : Nat) (Option.some Jvm.ClassFile.FieldType.boolean)) ∈ uw := uw_of (List.mem_append_right _ (List.mem_append_right _ (List.mem_append_right _ (List.mem_append_right _ ((List.mem_of_getElem? (i := 45) rfl : _ ∈ tables_1_5)))))) (by rfl)
set_option maxRecDepth 4000 in
theorem u1006 : (Jvm.Cond.methodLink "WeddingRegisterModel" (181 : Nat) ({ cls := "WeddingRegisterModel", name := "objected", desc := "(I)I" } : Jvm.MethodName)) ∈ uw := uw_of (List.mem_append_right _ (List.mem_append_right _ (List.mem_append_right _ (List.mem_append_right _ ((List.mem_of_getElem? (i := 46) rfl : _ ∈ tables_1_5)))))) (by rfl)
set_option maxRecDepth 4000 in
theorem u1008 : (Jvm.Cond.instanceMethod ({ cls := "WeddingRegisterModel", name := "objected", desc := "(I)I" } : Jvm.MethodName)) ∈ uw := uw_of (List.mem_append_right _ (List.mem_append_right _ (List.mem_append_right _ (List.mem_append_right _ ((List.mem_of_getElem? (i := 48) rfl : _ ∈ tables_1_5)))))) (by rfl)
set_option maxRecDepth 4000 in
theorem u1009 : (Jvm.Cond.code ({ cls := "WeddingRegisterModel", name := "objected", desc := "(I)I" } : Jvm.MethodName) prog_13_method_30_code (4 : Nat) (Option.some Jvm.ClassFile.FieldType.int)) ∈ uw := uw_of (List.mem_append_right _ (List.mem_append_right _ (List.mem_append_right _ (List.mem_append_right _ ((List.mem_of_getElem? (i := 49) rfl : _ ∈ tables_1_5)))))) (by rfl)
set_option maxRecDepth 4000 in
theorem u1010 : (Jvm.Cond.methodLink "WeddingRegisterLaw" (84 : Nat) ({ cls := "WeddingRegisterModel", name := "order", desc := "(I)I" } : Jvm.MethodName)) ∈ uw := uw_of (List.mem_append_right _ (List.mem_append_right _ (List.mem_append_right _ (List.mem_append_right _ ((List.mem_of_getElem? (i := 50) rfl : _ ∈ tables_1_5)))))) (by rfl)
set_option maxRecDepth 4000 in
theorem u1011 : (Jvm.Cond.instanceMethod ({ cls := "WeddingRegisterModel", name := "order", desc := "(I)I" } : Jvm.MethodName)) ∈ uw := uw_of (List.mem_append_right _ (List.mem_append_right _ (List.mem_append_right _ (List.mem_append_right _ ((List.mem_of_getElem? (i := 51) rfl : _ ∈ tables_1_5)))))) (by rfl)
set_option maxRecDepth 4000 in
theorem u1012 : (Jvm.Cond.selects "WeddingRegisterModel" ({ cls := "WeddingRegisterModel", name := "order", desc := "(I)I" } : Jvm.MethodName) ({ cls := "WeddingRegisterModel", name := "order", desc := "(I)I" } : Jvm.MethodName)) ∈ uw := uw_of (List.mem_append_right _ (List.mem_append_right _ (List.mem_append_right _ (List.mem_append_right _ ((List.mem_of_getElem? (i := 52) rfl : _ ∈ tables_1_5)))))) (by rfl)
set_option maxRecDepth 4000 in
theorem u1013 : (Jvm.Cond.code ({ cls := "WeddingRegisterModel", name := "order", desc := "(I)I" } : Jvm.MethodName) prog_13_method_38_code (4 : Nat) (Option.some Jvm.ClassFile.FieldType.int)) ∈ uw := uw_of (List.mem_append_right _ (List.mem_append_right _ (List.mem_append_right _ (List.mem_append_right _ ((List.mem_of_getElem? (i := 53) rfl : _ ∈ tables_1_5)))))) (by rfl)
set_option maxRecDepth 4000 in
theorem u1014 : (Jvm.Cond.methodLink "WeddingRegisterModel" (194 : Nat) ({ cls := "WeddingRegisterModel", name := "finds", desc := "(II)Z" } : Jvm.MethodName)) ∈ uw := uw_of (List.mem_append_right _ (List.mem_append_right _ (List.mem_append_right _ (List.mem_append_right _ ((List.mem_of_getElem? (i := 54) rfl : _ ∈ tables_1_5)))))) (by rfl)
set_option maxRecDepth 4000 in
theorem u1016 : (Jvm.Cond.instanceMethod ({ cls := "WeddingRegisterModel", name := "finds", desc := "(II)Z" } : Jvm.MethodName)) ∈ uw := uw_of (List.mem_append_right _ (List.mem_append_right _ (List.mem_append_right _ (List.mem_append_right _ ((List.mem_of_getElem? (i := 56) rfl : _ ∈ tables_1_5)))))) (by rfl)
set_option maxRecDepth 4000 in
theorem u1017 : (Jvm.Cond.code ({ cls := "WeddingRegisterModel", name := "finds", desc := "(II)Z" } : Jvm.MethodName) prog_13_method_37_code (6 : Nat) (Option.some Jvm.ClassFile.FieldType.boolean)) ∈ uw := uw_of (List.mem_append_right _ (List.mem_append_right _ (List.mem_append_right _ (List.mem_append_right _ ((List.mem_of_getElem? (i := 57) rfl : _ ∈ tables_1_5)))))) (by rfl)
set_option maxRecDepth 4000 in
theorem u1018 : (Jvm.Cond.methodLink "WeddingRegisterLaw" (88 : Nat) ({ cls := "WeddingRegisterModel", name := "wed", desc := "(I)I" } : Jvm.MethodName)) ∈ uw := uw_of (List.mem_append_right _ (List.mem_append_right _ (List.mem_append_right _ (List.mem_append_right _ ((List.mem_of_getElem? (i := 58) rfl : _ ∈ tables_1_5)))))) (by rfl)
set_option maxRecDepth 4000 in
theorem u1019 : (Jvm.Cond.instanceMethod ({ cls := "WeddingRegisterModel", name := "wed", desc := "(I)I" } : Jvm.MethodName)) ∈ uw := uw_of (List.mem_append_right _ (List.mem_append_right _ (List.mem_append_right _ (List.mem_append_right _ ((List.mem_of_getElem? (i := 59) rfl : _ ∈ tables_1_5)))))) (by rfl)
set_option maxRecDepth 4000 in
theorem u1020 : (Jvm.Cond.selects "WeddingRegisterModel" ({ cls := "WeddingRegisterModel", name := "wed", desc := "(I)I" } : Jvm.MethodName) ({ cls := "WeddingRegisterModel", name := "wed", desc := "(I)I" } : Jvm.MethodName)) ∈ uw := uw_of (List.mem_append_right _ (List.mem_append_right _ (List.mem_append_right _ (List.mem_append_right _ ((List.mem_of_getElem? (i := 60) rfl : _ ∈ tables_1_5)))))) (by rfl)
set_option maxRecDepth 4000 in
theorem u1021 : (Jvm.Cond.code ({ cls := "WeddingRegisterModel", name := "wed", desc := "(I)I" } : Jvm.MethodName) prog_13_method_39_code (5 : Nat) (Option.some Jvm.ClassFile.FieldType.int)) ∈ uw := uw_of (List.mem_append_right _ (List.mem_append_right _ (List.mem_append_right _ (List.mem_append_right _ ((List.mem_of_getElem? (i := 61) rfl : _ ∈ tables_1_5)))))) (by rfl)
set_option maxRecDepth 4000 in
theorem u1022 : (Jvm.Cond.methodLink "WeddingRegisterLaw" (92 : Nat) ({ cls := "WeddingRegisterModel", name := "part", desc := "(I)Z" } : Jvm.MethodName)) ∈ uw := uw_of (List.mem_append_right _ (List.mem_append_right _ (List.mem_append_right _ (List.mem_append_right _ ((List.mem_of_getElem? (i := 62) rfl : _ ∈ tables_1_5)))))) (by rfl)
set_option maxRecDepth 4000 in
theorem u1023 : (Jvm.Cond.instanceMethod ({ cls := "WeddingRegisterModel", name := "part", desc := "(I)Z" } : Jvm.MethodName)) ∈ uw := uw_of (List.mem_append_right _ (List.mem_append_right _ (List.mem_append_right _ (List.mem_append_right _ ((List.mem_of_getElem? (i := 63) rfl : _ ∈ tables_1_5)))))) (by rfl)
set_option maxRecDepth 4000 in
theorem u1024 : (Jvm.Cond.selects "WeddingRegisterModel" ({ cls := "WeddingRegisterModel", name := "part", desc := "(I)Z" } : Jvm.MethodName) ({ cls := "WeddingRegisterModel", name := "part", desc := "(I)Z" } : Jvm.MethodName)) ∈ uw := uw_of (List.mem_append_right _ (List.mem_append_right _ (List.mem_append_right _ (List.mem_append_right _ ((List.mem_of_getElem? (i := 64) rfl : _ ∈ tables_1_5)))))) (by rfl)
set_option maxRecDepth 4000 in
theorem u1025 : (Jvm.Cond.code ({ cls := "WeddingRegisterModel", name := "part", desc := "(I)Z" } : Jvm.MethodName) prog_13_method_40_code (2 : Nat) (Option.some Jvm.ClassFile.FieldType.boolean)) ∈ uw := uw_of (List.mem_append_right _ (List.mem_append_right _ (List.mem_append_right _ (List.mem_append_right _ ((List.mem_of_getElem? (i := 65) rfl : _ ∈ tables_1_5)))))) (by rfl)
set_option maxRecDepth 4000 in
theorem u1026 : (Jvm.Cond.methodLink "WeddingRegisterLaw" (96 : Nat) ({ cls := "WeddingRegisterModel", name := "correct", desc := "(III)Z" } : Jvm.MethodName)) ∈ uw := uw_of (List.mem_append_right _ (List.mem_append_right _ (List.mem_append_right _ (List.mem_append_right _ ((List.mem_of_getElem? (i := 66) rfl : _ ∈ tables_1_5)))))) (by rfl)
set_option maxRecDepth 4000 in
theorem u1027 : (Jvm.Cond.instanceMethod ({ cls := "WeddingRegisterModel", name := "correct", desc := "(III)Z" } : Jvm.MethodName)) ∈ uw := uw_of (List.mem_append_right _ (List.mem_append_right _ (List.mem_append_right _ (List.mem_append_right _ ((List.mem_of_getElem? (i := 67) rfl : _ ∈ tables_1_5)))))) (by rfl)
set_option maxRecDepth 4000 in
theorem u1028 : (Jvm.Cond.selects "WeddingRegisterModel" ({ cls := "WeddingRegisterModel", name := "correct", desc := "(III)Z" } : Jvm.MethodName) ({ cls := "WeddingRegisterModel", name := "correct", desc := "(III)Z" } : Jvm.MethodName)) ∈ uw := uw_of (List.mem_append_right _ (List.mem_append_right _ (List.mem_append_right _ (List.mem_append_right _ ((List.mem_of_getElem? (i := 68) rfl : _ ∈ tables_1_5)))))) (by rfl)
set_option maxRecDepth 4000 in
theorem u1029 : (Jvm.Cond.code ({ cls := "WeddingRegisterModel", name := "correct", desc := "(III)Z" } : Jvm.MethodName) prog_13_method_41_code (4 : Nat) (Option.some Jvm.ClassFile.FieldType.boolean)) ∈ uw := uw_of (List.mem_append_right _ (List.mem_append_right _ (List.mem_append_right _ (List.mem_append_right _ ((List.mem_of_getElem? (i := 69) rfl : _ ∈ tables_1_5)))))) (by rfl)
set_option maxRecDepth 4000 in
theorem u1030 : (Jvm.Cond.methodLink "WeddingRegisterLaw" (100 : Nat) ({ cls := "WeddingRegisterModel", name := "entry", desc := "(III)I" } : Jvm.MethodName)) ∈ uw := uw_of (List.mem_append_right _ (List.mem_append_right _ (List.mem_append_right _ (List.mem_append_right _ ((List.mem_of_getElem? (i := 70) rfl : _ ∈ tables_1_5)))))) (by rfl)
set_option maxRecDepth 4000 in
theorem u1031 : (Jvm.Cond.instanceMethod ({ cls := "WeddingRegisterModel", name := "entry", desc := "(III)I" } : Jvm.MethodName)) ∈ uw := uw_of (List.mem_append_right _ (List.mem_append_right _ (List.mem_append_right _ (List.mem_append_right _ ((List.mem_of_getElem? (i := 71) rfl : _ ∈ tables_1_5)))))) (by rfl)
set_option maxRecDepth 4000 in
theorem u1032 : (Jvm.Cond.selects "WeddingRegisterModel" ({ cls := "WeddingRegisterModel", name := "entry", desc := "(III)I" } : Jvm.MethodName) ({ cls := "WeddingRegisterModel", name := "entry", desc := "(III)I" } : Jvm.MethodName)) ∈ uw := uw_of (List.mem_append_right _ (List.mem_append_right _ (List.mem_append_right _ (List.mem_append_right _ ((List.mem_of_getElem? (i := 72) rfl : _ ∈ tables_1_5)))))) (by rfl)
set_option maxRecDepth 4000 in
theorem u1033 : (Jvm.Cond.code ({ cls := "WeddingRegisterModel", name := "entry", desc := "(III)I" } : Jvm.MethodName) prog_13_method_42_code (6 : Nat) (Option.some Jvm.ClassFile.FieldType.int)) ∈ uw := uw_of (List.mem_append_right _ (List.mem_append_right _ (List.mem_append_right _ (List.mem_append_right _ ((List.mem_of_getElem? (i := 73) rfl : _ ∈ tables_1_5)))))) (by rfl)
set_option maxRecDepth 4000 in
theorem u1034 : (Jvm.Cond.methodLink "WeddingRegisterLaw" (104 : Nat) ({ cls := "WeddingRegisterModel", name := "name", desc := "(III)I" } : Jvm.MethodName)) ∈ uw := uw_of (List.mem_append_right _ (List.mem_append_right _ (List.mem_append_right _ (List.mem_append_right _ ((List.mem_of_getElem? (i := 74) rfl : _ ∈ tables_1_5)))))) (by rfl)
set_option maxRecDepth 4000 in
theorem u1035 : (Jvm.Cond.instanceMethod ({ cls := "WeddingRegisterModel", name := "name", desc := "(III)I" } : Jvm.MethodName)) ∈ uw := uw_of (List.mem_append_right _ (List.mem_append_right _ (List.mem_append_right _ (List.mem_append_right _ ((List.mem_of_getElem? (i := 75) rfl : _ ∈ tables_1_5)))))) (by rfl)
set_option maxRecDepth 4000 in
theorem u1036 : (Jvm.Cond.selects "WeddingRegisterModel" ({ cls := "WeddingRegisterModel", name := "name", desc := "(III)I" } : Jvm.MethodName) ({ cls := "WeddingRegisterModel", name := "name", desc := "(III)I" } : Jvm.MethodName)) ∈ uw := uw_of (List.mem_append_right _ (List.mem_append_right _ (List.mem_append_right _ (List.mem_append_right _ ((List.mem_of_getElem? (i := 76) rfl : _ ∈ tables_1_5)))))) (by rfl)
set_option maxRecDepth 4000 in
theorem u1037 : (Jvm.Cond.code ({ cls := "WeddingRegisterModel", name := "name", desc := "(III)I" } : Jvm.MethodName) prog_13_method_44_code (4 : Nat) (Option.some Jvm.ClassFile.FieldType.int)) ∈ uw := uw_of (List.mem_append_right _ (List.mem_append_right _ (List.mem_append_right _ (List.mem_append_right _ ((List.mem_of_getElem? (i := 77) rfl : _ ∈ tables_1_5)))))) (by rfl)
set_option maxRecDepth 4000 in
theorem u1038 : (Jvm.Cond.methodLink "WeddingRegisterModel" (203 : Nat) ({ cls := "WeddingRegisterModel", name := "nameOf", desc := "(III)I" } : Jvm.MethodName)) ∈ uw := uw_of (List.mem_append_right _ (List.mem_append_right _ (List.mem_append_right _ (List.mem_append_right _ ((List.mem_of_getElem? (i := 78) rfl : _ ∈ tables_1_5)))))) (by rfl)
set_option maxRecDepth 4000 in
theorem u1040 : (Jvm.Cond.instanceMethod ({ cls := "WeddingRegisterModel", name := "nameOf", desc := "(III)I" } : Jvm.MethodName)) ∈ uw := uw_of (List.mem_append_right _ (List.mem_append_right _ (List.mem_append_right _ (List.mem_append_right _ ((List.mem_of_getElem? (i := 80) rfl : _ ∈ tables_1_5)))))) (by rfl)
set_option maxRecDepth 4000 in
theorem u1041 : (Jvm.Cond.code ({ cls := "WeddingRegisterModel", name := "nameOf", desc := "(III)I" } : Jvm.MethodName) prog_13_method_43_code (6 : Nat) (Option.some Jvm.ClassFile.FieldType.int)) ∈ uw := uw_of (List.mem_append_right _ (List.mem_append_right _ (List.mem_append_right _ (List.mem_append_right _ ((List.mem_of_getElem? (i := 81) rfl : _ ∈ tables_1_5)))))) (by rfl)
set_option maxRecDepth 4000 in
theorem u1042 : (Jvm.Cond.methodLink "WeddingRegisterLaw" (108 : Nat) ({ cls := "WeddingRegisterModel", name := "quarrel", desc := "(I)Z" } : Jvm.MethodName)) ∈ uw := uw_of (List.mem_append_right _ (List.mem_append_right _ (List.mem_append_right _ (List.mem_append_right _ ((List.mem_of_getElem? (i := 82) rfl : _ ∈ tables_1_5)))))) (by rfl)
set_option maxRecDepth 4000 in
theorem u1043 : (Jvm.Cond.instanceMethod ({ cls := "WeddingRegisterModel", name := "quarrel", desc := "(I)Z" } : Jvm.MethodName)) ∈ uw := uw_of (List.mem_append_right _ (List.mem_append_right _ (List.mem_append_right _ (List.mem_append_right _ ((List.mem_of_getElem? (i := 83) rfl : _ ∈ tables_1_5)))))) (by rfl)
set_option maxRecDepth 4000 in
theorem u1044 : (Jvm.Cond.selects "WeddingRegisterModel" ({ cls := "WeddingRegisterModel", name := "quarrel", desc := "(I)Z" } : Jvm.MethodName) ({ cls := "WeddingRegisterModel", name := "quarrel", desc := "(I)Z" } : Jvm.MethodName)) ∈ uw := uw_of (List.mem_append_right _ (List.mem_append_right _ (List.mem_append_right _ (List.mem_append_right _ ((List.mem_of_getElem? (i := 84) rfl : _ ∈ tables_1_5)))))) (by rfl)
set_option maxRecDepth 4000 in
theorem u1045 : (Jvm.Cond.code ({ cls := "WeddingRegisterModel", name := "quarrel", desc := "(I)Z" } : Jvm.MethodName) prog_13_method_45_code (2 : Nat) (Option.some Jvm.ClassFile.FieldType.boolean)) ∈ uw := uw_of (List.mem_append_right _ (List.mem_append_right _ (List.mem_append_right _ (List.mem_append_right _ ((List.mem_of_getElem? (i := 85) rfl : _ ∈ tables_1_5)))))) (by rfl)
set_option maxRecDepth 4000 in
theorem u1046 : (Jvm.Cond.methodLink "WeddingRegisterLaw" (112 : Nat) ({ cls := "WeddingRegisterModel", name := "told", desc := "(II)I" } : Jvm.MethodName)) ∈ uw := uw_of (List.mem_append_right _ (List.mem_append_right _ (List.mem_append_right _ (List.mem_append_right _ ((List.mem_of_getElem? (i := 86) rfl : _ ∈ tables_1_5)))))) (by rfl)
set_option maxRecDepth 4000 in
theorem u1047 : (Jvm.Cond.instanceMethod ({ cls := "WeddingRegisterModel", name := "told", desc := "(II)I" } : Jvm.MethodName)) ∈ uw := uw_of (List.mem_append_right _ (List.mem_append_right _ (List.mem_append_right _ (List.mem_append_right _ ((List.mem_of_getElem? (i := 87) rfl : _ ∈ tables_1_5)))))) (by rfl)
set_option maxRecDepth 4000 in
theorem u1048 : (Jvm.Cond.selects "WeddingRegisterModel" ({ cls := "WeddingRegisterModel", name := "told", desc := "(II)I" } : Jvm.MethodName) ({ cls := "WeddingRegisterModel", name := "told", desc := "(II)I" } : Jvm.MethodName)) ∈ uw := uw_of (List.mem_append_right _ (List.mem_append_right _ (List.mem_append_right _ (List.mem_append_right _ ((List.mem_of_getElem? (i := 88) rfl : _ ∈ tables_1_5)))))) (by rfl)
set_option maxRecDepth 4000 in
theorem u1049 : (Jvm.Cond.code ({ cls := "WeddingRegisterModel", name := "told", desc := "(II)I" } : Jvm.MethodName) prog_13_method_46_code (3 : Nat) (Option.some Jvm.ClassFile.FieldType.int)) ∈ uw := uw_of (List.mem_append_right _ (List.mem_append_right _ (List.mem_append_right _ (List.mem_append_right _ ((List.mem_of_getElem? (i := 89) rfl : _ ∈ tables_1_5)))))) (by rfl)
set_option maxRecDepth 4000 in
theorem u1050 : (Jvm.Cond.methodLink "WeddingRegisterLaw" (116 : Nat) ({ cls := "WeddingRegisterModel", name := "married", desc := "(I)I" } : Jvm.MethodName)) ∈ uw := uw_of (List.mem_append_right _ (List.mem_append_right _ (List.mem_append_right _ (List.mem_append_right _ ((List.mem_of_getElem? (i := 90) rfl : _ ∈ tables_1_5)))))) (by rfl)
set_option maxRecDepth 4000 in
theorem u1051 : (Jvm.Cond.instanceMethod ({ cls := "WeddingRegisterModel", name := "married", desc := "(I)I" } : Jvm.MethodName)) ∈ uw := uw_of (List.mem_append_right _ (List.mem_append_right _ (List.mem_append_right _ (List.mem_append_right _ ((List.mem_of_getElem? (i := 91) rfl : _ ∈ tables_1_5)))))) (by rfl)
set_option maxRecDepth 4000 in
theorem u1052 : (Jvm.Cond.selects "WeddingRegisterModel" ({ cls := "WeddingRegisterModel", name := "married", desc := "(I)I" } : Jvm.MethodName) ({ cls := "WeddingRegisterModel", name := "married", desc := "(I)I" } : Jvm.MethodName)) ∈ uw := uw_of (List.mem_append_right _ (List.mem_append_right _ (List.mem_append_right _ (List.mem_append_right _ ((List.mem_of_getElem? (i := 92) rfl : _ ∈ tables_1_5)))))) (by rfl)
set_option maxRecDepth 4000 in
theorem u1053 : (Jvm.Cond.code ({ cls := "WeddingRegisterModel", name := "married", desc := "(I)I" } : Jvm.MethodName) prog_13_method_47_code (2 : Nat) (Option.some Jvm.ClassFile.FieldType.int)) ∈ uw := uw_of (List.mem_append_right _ (List.mem_append_right _ (List.mem_append_right _ (List.mem_append_right _ ((List.mem_of_getElem? (i := 93) rfl : _ ∈ tables_1_5)))))) (by rfl)
set_option maxRecDepth 4000 in
theorem u1054 : (Jvm.Cond.methodLink "WeddingRegisterLaw" (120 : Nat) ({ cls := "WeddingRegisterModel", name := "count", desc := "(I)I" } : Jvm.MethodName)) ∈ uw := uw_of (List.mem_append_right _ (List.mem_append_right _ (List.mem_append_right _ (List.mem_append_right _ ((List.mem_of_getElem? (i := 94) rfl : _ ∈ tables_1_5)))))) (by rfl)
set_option maxRecDepth 4000 in
theorem u1055 : (Jvm.Cond.instanceMethod ({ cls := "WeddingRegisterModel", name := "count", desc := "(I)I" } : Jvm.MethodName)) ∈ uw := uw_of (List.mem_append_right _ (List.mem_append_right _ (List.mem_append_right _ (List.mem_append_right _ ((List.mem_of_getElem? (i := 95) rfl : _ ∈ tables_1_5)))))) (by rfl)
set_option maxRecDepth 4000 in
theorem u1056 : (Jvm.Cond.selects "WeddingRegisterModel" ({ cls := "WeddingRegisterModel", name := "count", desc := "(I)I" } : Jvm.MethodName) ({ cls := "WeddingRegisterModel", name := "count", desc := "(I)I" } : Jvm.MethodName)) ∈ uw := uw_of (List.mem_append_right _ (List.mem_append_right _ (List.mem_append_right _ (List.mem_append_right _ ((List.mem_of_getElem? (i := 96) rfl : _ ∈ tables_1_5)))))) (by rfl)
set_option maxRecDepth 4000 in
theorem u1057 : (Jvm.Cond.code ({ cls := "WeddingRegisterModel", name := "count", desc := "(I)I" } : Jvm.MethodName) prog_13_method_48_code (4 : Nat) (Option.some Jvm.ClassFile.FieldType.int)) ∈ uw := uw_of (List.mem_append_right _ (List.mem_append_right _ (List.mem_append_right _ (List.mem_append_right _ ((List.mem_of_getElem? (i := 97) rfl : _ ∈ tables_1_5)))))) (by rfl)
set_option maxRecDepth 4000 in
theorem u1058 : (Jvm.Cond.castable "WeddingRegister" "java/lang/Object") ∈ lw_tbl := List.mem_append_right _ (List.mem_append_right _ (List.mem_append_right _ (List.mem_append_right _ (List.mem_append_right _ ((List.mem_of_getElem? (i := 98) rfl : _ ∈ tables_1_5))))))
set_option maxRecDepth 4000 in
theorem u1059 : (Jvm.Cond.castable "WeddingRegister$Calendar" "java/lang/Object") ∈ lw_tbl := List.mem_append_right _ (List.mem_append_right _ (List.mem_append_right _ (List.mem_append_right _ (List.mem_append_right _ ((List.mem_of_getElem? (i := 99) rfl : _ ∈ tables_1_5))))))
set_option maxRecDepth 4000 in
theorem u1060 : (Jvm.Cond.castable "WeddingRegister$LawBook" "java/lang/Object") ∈ lw_tbl := List.mem_append_right _ (List.mem_append_right _ (List.mem_append_right _ (List.mem_append_right _ (List.mem_append_right _ ((List.mem_of_getElem? (i := 100) rfl : _ ∈ tables_1_5))))))
set_option maxRecDepth 4000 in
theorem u1061 : (Jvm.Cond.castable "java/util/ArrayList" "java/lang/Object") ∈ lw_tbl := List.mem_append_right _ (List.mem_append_right _ (List.mem_append_right _ (List.mem_append_right _ (List.mem_append_right _ ((List.mem_of_getElem? (i := 101) rfl : _ ∈ tables_1_5))))))
set_option maxRecDepth 4000 in
theorem u1062 : (Jvm.Cond.castable "WeddingRegister$Law" "java/lang/Object") ∈ lw_tbl := List.mem_append_right _ (List.mem_append_right _ (List.mem_append_right _ (List.mem_append_right _ (List.mem_append_right _ ((List.mem_of_getElem? (i := 102) rfl : _ ∈ tables_1_5))))))
set_option maxRecDepth 4000 in
theorem u1063 : (Jvm.Cond.castable "WeddingRegister$DayPlan" "java/lang/Object") ∈ lw_tbl := List.mem_append_right _ (List.mem_append_right _ (List.mem_append_right _ (List.mem_append_right _ (List.mem_append_right _ ((List.mem_of_getElem? (i := 103) rfl : _ ∈ tables_1_5))))))
set_option maxRecDepth 4000 in
theorem u1064 : (Jvm.Cond.castable "WeddingRegisterModel" "java/lang/Object") ∈ lw_tbl := List.mem_append_right _ (List.mem_append_right _ (List.mem_append_right _ (List.mem_append_right _ (List.mem_append_right _ ((List.mem_of_getElem? (i := 104) rfl : _ ∈ tables_1_5))))))
set_option maxRecDepth 4000 in
theorem u1065 : (Jvm.Cond.castable "WeddingRegister$Person" "java/lang/Object") ∈ lw_tbl := List.mem_append_right _ (List.mem_append_right _ (List.mem_append_right _ (List.mem_append_right _ (List.mem_append_right _ ((List.mem_of_getElem? (i := 105) rfl : _ ∈ tables_1_5))))))
set_option maxRecDepth 4000 in
theorem u1066 : (Jvm.Cond.castable "WeddingRegister$Paper" "java/lang/Object") ∈ lw_tbl := List.mem_append_right _ (List.mem_append_right _ (List.mem_append_right _ (List.mem_append_right _ (List.mem_append_right _ ((List.mem_of_getElem? (i := 106) rfl : _ ∈ tables_1_5))))))
set_option maxRecDepth 4000 in
theorem u1067 : (Jvm.Cond.castable "WeddingRegister$Notice" "java/lang/Object") ∈ lw_tbl := List.mem_append_right _ (List.mem_append_right _ (List.mem_append_right _ (List.mem_append_right _ (List.mem_append_right _ ((List.mem_of_getElem? (i := 107) rfl : _ ∈ tables_1_5))))))
set_option maxRecDepth 4000 in
theorem u1068 : (Jvm.Cond.castable "WeddingRegister$Objection" "java/lang/Object") ∈ lw_tbl := List.mem_append_right _ (List.mem_append_right _ (List.mem_append_right _ (List.mem_append_right _ (List.mem_append_right _ ((List.mem_of_getElem? (i := 108) rfl : _ ∈ tables_1_5))))))
set_option maxRecDepth 4000 in
theorem u1069 : (Jvm.Cond.castable "WeddingRegister$Entry" "java/lang/Object") ∈ lw_tbl := List.mem_append_right _ (List.mem_append_right _ (List.mem_append_right _ (List.mem_append_right _ (List.mem_append_right _ ((List.mem_of_getElem? (i := 109) rfl : _ ∈ tables_1_5))))))
set_option maxRecDepth 4000 in
theorem u1070 : (Jvm.Cond.castable "WeddingRegister$Correction" "java/lang/Object") ∈ lw_tbl := List.mem_append_right _ (List.mem_append_right _ (List.mem_append_right _ (List.mem_append_right _ (List.mem_append_right _ ((List.mem_of_getElem? (i := 110) rfl : _ ∈ tables_1_5))))))
set_option maxRecDepth 4000 in
theorem u1071 : (Jvm.Cond.sameMethod "[Ljava/lang/Object;" "java/lang/Object" "getClass" "()Ljava/lang/Class;") ∈ uw := uw_of (List.mem_append_right _ (List.mem_append_right _ (List.mem_append_right _ (List.mem_append_right _ ((List.mem_of_getElem? (i := 111) rfl : _ ∈ tables_1_5)))))) (by rfl)
set_option maxRecDepth 4000 in
theorem u1072 : (Jvm.Cond.selects "[Ljava/lang/Object;" ({ cls := "java/lang/Object", name := "getClass", desc := "()Ljava/lang/Class;" } : Jvm.MethodName) ({ cls := "java/lang/Object", name := "getClass", desc := "()Ljava/lang/Class;" } : Jvm.MethodName)) ∈ uw := uw_of (List.mem_append_right _ (List.mem_append_right _ (List.mem_append_right _ (List.mem_append_right _ ((List.mem_of_getElem? (i := 112) rfl : _ ∈ tables_1_5)))))) (by rfl)
set_option maxRecDepth 4000 in
theorem u1073 : (Jvm.Cond.declares ({ cls := "java/lang/Object", name := "getClass", desc := "()Ljava/lang/Class;" } : Jvm.MethodName)) ∈ lw_tbl := List.mem_append_right _ (List.mem_append_right _ (List.mem_append_right _ (List.mem_append_right _ (List.mem_append_right _ ((List.mem_of_getElem? (i := 113) rfl : _ ∈ tables_1_5))))))
set_option maxRecDepth 4000 in
theorem u1074 : (Jvm.Cond.castable "[I" "java/lang/Object") ∈ lw_tbl := List.mem_append_right _ (List.mem_append_right _ (List.mem_append_right _ (List.mem_append_right _ (List.mem_append_right _ ((List.mem_of_getElem? (i := 114) rfl : _ ∈ tables_1_5))))))
set_option maxRecDepth 4000 in
theorem u1075 : (Jvm.Cond.castable "[J" "java/lang/Object") ∈ lw_tbl := List.mem_append_right _ (List.mem_append_right _ (List.mem_append_right _ (List.mem_append_right _ (List.mem_append_right _ ((List.mem_of_getElem? (i := 115) rfl : _ ∈ tables_1_5))))))
set_option maxRecDepth 4000 in
theorem u1076 : (Jvm.Cond.castable "[Ljava/lang/Object;" "java/lang/Object") ∈ lw_tbl := List.mem_append_right _ (List.mem_append_right _ (List.mem_append_right _ (List.mem_append_right _ (List.mem_append_right _ ((List.mem_of_getElem? (i := 116) rfl : _ ∈ tables_1_5))))))
set_option maxRecDepth 4000 in
theorem u1077 : (Jvm.Cond.castable "[[I" "java/lang/Object") ∈ lw_tbl := List.mem_append_right _ (List.mem_append_right _ (List.mem_append_right _ (List.mem_append_right _ (List.mem_append_right _ ((List.mem_of_getElem? (i := 117) rfl : _ ∈ tables_1_5))))))
set_option maxRecDepth 4000 in
theorem u1078 : (Jvm.Cond.castable "[Z" "java/lang/Object") ∈ lw_tbl := List.mem_append_right _ (List.mem_append_right _ (List.mem_append_right _ (List.mem_append_right _ (List.mem_append_right _ ((List.mem_of_getElem? (i := 118) rfl : _ ∈ tables_1_5))))))
set_option maxRecDepth 4000 in
theorem us0 : Cond.selects "java/util/ArrayList" ⟨"java/util/ArrayList", "add", "(Ljava/lang/Object;[Ljava/lang/Object;I)V"⟩ ⟨"java/util/ArrayList", "add", "(Ljava/lang/Object;[Ljava/lang/Object;I)V"⟩ ∈ uw := uw_sel (q := (⟨"java/util/ArrayList", "add", "(Ljava/lang/Object;[Ljava/lang/Object;I)V"⟩, 3)) (List.mem_of_getElem? (i := 0) rfl) (by rfl)
set_option maxRecDepth 4000 in
theorem us1 : Cond.selects "java/util/ArrayList" ⟨"java/util/ArrayList", "grow", "()[Ljava/lang/Object;"⟩ ⟨"java/util/ArrayList", "grow", "()[Ljava/lang/Object;"⟩ ∈ uw := uw_sel (q := (⟨"java/util/ArrayList", "grow", "()[Ljava/lang/Object;"⟩, 3)) (List.mem_of_getElem? (i := 1) rfl) (by rfl)
set_option maxRecDepth 4000 in
theorem us2 : Cond.selects "java/util/ArrayList" ⟨"java/util/ArrayList", "grow", "(I)[Ljava/lang/Object;"⟩ ⟨"java/util/ArrayList", "grow", "(I)[Ljava/lang/Object;"⟩ ∈ uw := uw_sel (q := (⟨"java/util/ArrayList", "grow", "(I)[Ljava/lang/Object;"⟩, 3)) (List.mem_of_getElem? (i := 2) rfl) (by rfl)
set_option maxRecDepth 4000 in
theorem us3 : Cond.selects "WeddingRegister" ⟨"WeddingRegister", "canBeParents", "(II)Z"⟩ ⟨"WeddingRegister", "canBeParents", "(II)Z"⟩ ∈ uw := uw_sel (q := (⟨"WeddingRegister", "canBeParents", "(II)Z"⟩, 12)) (List.mem_of_getElem? (i := 3) rfl) (by rfl)
set_option maxRecDepth 4000 in
theorem us4 : Cond.selects "WeddingRegister" ⟨"WeddingRegister", "personAt", "(I)LWeddingRegister$Person;"⟩ ⟨"WeddingRegister", "personAt", "(I)LWeddingRegister$Person;"⟩ ∈ uw := uw_sel (q := (⟨"WeddingRegister", "personAt", "(I)LWeddingRegister$Person;"⟩, 12)) (List.mem_of_getElem? (i := 4) rfl) (by rfl)
set_option maxRecDepth 4000 in
theorem us5 : Cond.selects "WeddingRegister" ⟨"WeddingRegister", "barToCouple", "(LWeddingRegister$Person;LWeddingRegister$Person;I)I"⟩ ⟨"WeddingRegister", "barToCouple", "(LWeddingRegister$Person;LWeddingRegister$Person;I)I"⟩ ∈ uw := uw_sel (q := (⟨"WeddingRegister", "barToCouple", "(LWeddingRegister$Person;LWeddingRegister$Person;I)I"⟩, 12)) (List.mem_of_getElem? (i := 5) rfl) (by rfl)
set_option maxRecDepth 4000 in
theorem us6 : Cond.selects "WeddingRegister" ⟨"WeddingRegister", "hasOpenNotice", "(LWeddingRegister$Person;LWeddingRegister$Person;)Z"⟩ ⟨"WeddingRegister", "hasOpenNotice", "(LWeddingRegister$Person;LWeddingRegister$Person;)Z"⟩ ∈ uw := uw_sel (q := (⟨"WeddingRegister", "hasOpenNotice", "(LWeddingRegister$Person;LWeddingRegister$Person;)Z"⟩, 12)) (List.mem_of_getElem? (i := 6) rfl) (by rfl)
set_option maxRecDepth 4000 in
theorem us7 : Cond.selects "WeddingRegister" ⟨"WeddingRegister", "noticeAt", "(I)LWeddingRegister$Notice;"⟩ ⟨"WeddingRegister", "noticeAt", "(I)LWeddingRegister$Notice;"⟩ ∈ uw := uw_sel (q := (⟨"WeddingRegister", "noticeAt", "(I)LWeddingRegister$Notice;"⟩, 12)) (List.mem_of_getElem? (i := 7) rfl) (by rfl)
set_option maxRecDepth 4000 in
theorem us8 : Cond.selects "WeddingRegister$Calendar" ⟨"WeddingRegister$Calendar", "feastsAheadOf", "(I)I"⟩ ⟨"WeddingRegister$Calendar", "feastsAheadOf", "(I)I"⟩ ∈ uw := uw_sel (q := (⟨"WeddingRegister$Calendar", "feastsAheadOf", "(I)I"⟩, 1)) (List.mem_of_getElem? (i := 8) rfl) (by rfl)
set_option maxRecDepth 4000 in
theorem us9 : Cond.selects "WeddingRegister" ⟨"WeddingRegister", "firstRipeDay", "(LWeddingRegister$Notice;)I"⟩ ⟨"WeddingRegister", "firstRipeDay", "(LWeddingRegister$Notice;)I"⟩ ∈ uw := uw_sel (q := (⟨"WeddingRegister", "firstRipeDay", "(LWeddingRegister$Notice;)I"⟩, 12)) (List.mem_of_getElem? (i := 9) rfl) (by rfl)
set_option maxRecDepth 4000 in
theorem us10 : Cond.selects "WeddingRegister" ⟨"WeddingRegister", "hangingAsked", "(LWeddingRegister$Notice;I)I"⟩ ⟨"WeddingRegister", "hangingAsked", "(LWeddingRegister$Notice;I)I"⟩ ∈ uw := uw_sel (q := (⟨"WeddingRegister", "hangingAsked", "(LWeddingRegister$Notice;I)I"⟩, 12)) (List.mem_of_getElem? (i := 10) rfl) (by rfl)
set_option maxRecDepth 4000 in
theorem us11 : Cond.selects "WeddingRegister" ⟨"WeddingRegister", "isDayToCome", "(I)Z"⟩ ⟨"WeddingRegister", "isDayToCome", "(I)Z"⟩ ∈ uw := uw_sel (q := (⟨"WeddingRegister", "isDayToCome", "(I)Z"⟩, 12)) (List.mem_of_getElem? (i := 11) rfl) (by rfl)
set_option maxRecDepth 4000 in
theorem us12 : Cond.selects "WeddingRegister" ⟨"WeddingRegister", "isSlot", "(I)Z"⟩ ⟨"WeddingRegister", "isSlot", "(I)Z"⟩ ∈ uw := uw_sel (q := (⟨"WeddingRegister", "isSlot", "(I)Z"⟩, 12)) (List.mem_of_getElem? (i := 12) rfl) (by rfl)
set_option maxRecDepth 4000 in
theorem us13 : Cond.selects "WeddingRegister" ⟨"WeddingRegister", "barToDay", "(LWeddingRegister$Notice;I)I"⟩ ⟨"WeddingRegister", "barToDay", "(LWeddingRegister$Notice;I)I"⟩ ∈ uw := uw_sel (q := (⟨"WeddingRegister", "barToDay", "(LWeddingRegister$Notice;I)I"⟩, 12)) (List.mem_of_getElem? (i := 13) rfl) (by rfl)
set_option maxRecDepth 4000 in
theorem us14 : Cond.selects "WeddingRegister" ⟨"WeddingRegister", "isRipeOn", "(LWeddingRegister$Notice;I)Z"⟩ ⟨"WeddingRegister", "isRipeOn", "(LWeddingRegister$Notice;I)Z"⟩ ∈ uw := uw_sel (q := (⟨"WeddingRegister", "isRipeOn", "(LWeddingRegister$Notice;I)Z"⟩, 12)) (List.mem_of_getElem? (i := 14) rfl) (by rfl)
set_option maxRecDepth 4000 in
theorem us15 : Cond.selects "WeddingRegister" ⟨"WeddingRegister", "fillPlan", "(ILWeddingRegister$Notice;)V"⟩ ⟨"WeddingRegister", "fillPlan", "(ILWeddingRegister$Notice;)V"⟩ ∈ uw := uw_sel (q := (⟨"WeddingRegister", "fillPlan", "(ILWeddingRegister$Notice;)V"⟩, 12)) (List.mem_of_getElem? (i := 15) rfl) (by rfl)
set_option maxRecDepth 4000 in
theorem us16 : Cond.selects "WeddingRegister$DayPlan" ⟨"WeddingRegister$DayPlan", "placeOf", "(II)I"⟩ ⟨"WeddingRegister$DayPlan", "placeOf", "(II)I"⟩ ∈ uw := uw_sel (q := (⟨"WeddingRegister$DayPlan", "placeOf", "(II)I"⟩, 2)) (List.mem_of_getElem? (i := 16) rfl) (by rfl)
set_option maxRecDepth 4000 in
theorem us17 : Cond.selects "WeddingRegister" ⟨"WeddingRegister", "barToSlot", "(LWeddingRegister$Notice;I)I"⟩ ⟨"WeddingRegister", "barToSlot", "(LWeddingRegister$Notice;I)I"⟩ ∈ uw := uw_sel (q := (⟨"WeddingRegister", "barToSlot", "(LWeddingRegister$Notice;I)I"⟩, 12)) (List.mem_of_getElem? (i := 17) rfl) (by rfl)
set_option maxRecDepth 4000 in
theorem us18 : Cond.selects "WeddingRegister$DayPlan" ⟨"WeddingRegister$DayPlan", "isTaken", "(II)Z"⟩ ⟨"WeddingRegister$DayPlan", "isTaken", "(II)Z"⟩ ∈ uw := uw_sel (q := (⟨"WeddingRegister$DayPlan", "isTaken", "(II)Z"⟩, 2)) (List.mem_of_getElem? (i := 18) rfl) (by rfl)
set_option maxRecDepth 4000 in
theorem us19 : Cond.selects "WeddingRegister$DayPlan" ⟨"WeddingRegister$DayPlan", "hallAt", "(II)I"⟩ ⟨"WeddingRegister$DayPlan", "hallAt", "(II)I"⟩ ∈ uw := uw_sel (q := (⟨"WeddingRegister$DayPlan", "hallAt", "(II)I"⟩, 2)) (List.mem_of_getElem? (i := 19) rfl) (by rfl)
set_option maxRecDepth 4000 in
theorem us20 : Cond.selects "WeddingRegister" ⟨"WeddingRegister", "speaksWithBoth", "(ILWeddingRegister$Notice;)Z"⟩ ⟨"WeddingRegister", "speaksWithBoth", "(ILWeddingRegister$Notice;)Z"⟩ ∈ uw := uw_sel (q := (⟨"WeddingRegister", "speaksWithBoth", "(ILWeddingRegister$Notice;)Z"⟩, 12)) (List.mem_of_getElem? (i := 20) rfl) (by rfl)
set_option maxRecDepth 4000 in
theorem us21 : Cond.selects "WeddingRegister" ⟨"WeddingRegister", "bookByOrder", "(LWeddingRegister$Notice;I)Z"⟩ ⟨"WeddingRegister", "bookByOrder", "(LWeddingRegister$Notice;I)Z"⟩ ∈ uw := uw_sel (q := (⟨"WeddingRegister", "bookByOrder", "(LWeddingRegister$Notice;I)Z"⟩, 12)) (List.mem_of_getElem? (i := 21) rfl) (by rfl)
set_option maxRecDepth 4000 in
theorem us22 : Cond.selects "WeddingRegister" ⟨"WeddingRegister", "firstFreeSlot", "(LWeddingRegister$Notice;)I"⟩ ⟨"WeddingRegister", "firstFreeSlot", "(LWeddingRegister$Notice;)I"⟩ ∈ uw := uw_sel (q := (⟨"WeddingRegister", "firstFreeSlot", "(LWeddingRegister$Notice;)I"⟩, 12)) (List.mem_of_getElem? (i := 22) rfl) (by rfl)
set_option maxRecDepth 4000 in
theorem us23 : Cond.selects "WeddingRegister" ⟨"WeddingRegister", "entryAt", "(I)LWeddingRegister$Entry;"⟩ ⟨"WeddingRegister", "entryAt", "(I)LWeddingRegister$Entry;"⟩ ∈ uw := uw_sel (q := (⟨"WeddingRegister", "entryAt", "(I)LWeddingRegister$Entry;"⟩, 12)) (List.mem_of_getElem? (i := 23) rfl) (by rfl)
set_option maxRecDepth 4000 in
theorem us24 : Cond.selects "WeddingRegister" ⟨"WeddingRegister", "nameAfter", "(LWeddingRegister$Entry;II)I"⟩ ⟨"WeddingRegister", "nameAfter", "(LWeddingRegister$Entry;II)I"⟩ ∈ uw := uw_sel (q := (⟨"WeddingRegister", "nameAfter", "(LWeddingRegister$Entry;II)I"⟩, 12)) (List.mem_of_getElem? (i := 24) rfl) (by rfl)
set_option maxRecDepth 4000 in
theorem us25 : Cond.selects "WeddingRegister" ⟨"WeddingRegister", "openBookings", "()I"⟩ ⟨"WeddingRegister", "openBookings", "()I"⟩ ∈ uw := uw_sel (q := (⟨"WeddingRegister", "openBookings", "()I"⟩, 12)) (List.mem_of_getElem? (i := 25) rfl) (by rfl)
set_option maxRecDepth 4000 in
theorem us26 : Cond.selects "WeddingRegisterModel" ⟨"WeddingRegisterModel", "isPerson", "(I)Z"⟩ ⟨"WeddingRegisterModel", "isPerson", "(I)Z"⟩ ∈ uw := uw_sel (q := (⟨"WeddingRegisterModel", "isPerson", "(I)Z"⟩, 36)) (List.mem_of_getElem? (i := 26) rfl) (by rfl)
set_option maxRecDepth 4000 in
theorem us27 : Cond.selects "WeddingRegisterModel" ⟨"WeddingRegisterModel", "isFree", "(I)Z"⟩ ⟨"WeddingRegisterModel", "isFree", "(I)Z"⟩ ∈ uw := uw_sel (q := (⟨"WeddingRegisterModel", "isFree", "(I)Z"⟩, 36)) (List.mem_of_getElem? (i := 27) rfl) (by rfl)
set_option maxRecDepth 4000 in
theorem us28 : Cond.selects "WeddingRegisterModel" ⟨"WeddingRegisterModel", "kinOf", "(II)I"⟩ ⟨"WeddingRegisterModel", "kinOf", "(II)I"⟩ ∈ uw := uw_sel (q := (⟨"WeddingRegisterModel", "kinOf", "(II)I"⟩, 36)) (List.mem_of_getElem? (i := 28) rfl) (by rfl)
set_option maxRecDepth 4000 in
theorem us29 : Cond.selects "WeddingRegisterModel" ⟨"WeddingRegisterModel", "isParent", "(II)Z"⟩ ⟨"WeddingRegisterModel", "isParent", "(II)Z"⟩ ∈ uw := uw_sel (q := (⟨"WeddingRegisterModel", "isParent", "(II)Z"⟩, 36)) (List.mem_of_getElem? (i := 29) rfl) (by rfl)
set_option maxRecDepth 4000 in
theorem us30 : Cond.selects "WeddingRegisterModel" ⟨"WeddingRegisterModel", "share", "(II)Z"⟩ ⟨"WeddingRegisterModel", "share", "(II)Z"⟩ ∈ uw := uw_sel (q := (⟨"WeddingRegisterModel", "share", "(II)Z"⟩, 36)) (List.mem_of_getElem? (i := 30) rfl) (by rfl)
set_option maxRecDepth 4000 in
theorem us31 : Cond.selects "WeddingRegisterModel" ⟨"WeddingRegisterModel", "parent", "(II)I"⟩ ⟨"WeddingRegisterModel", "parent", "(II)I"⟩ ∈ uw := uw_sel (q := (⟨"WeddingRegisterModel", "parent", "(II)I"⟩, 36)) (List.mem_of_getElem? (i := 31) rfl) (by rfl)
set_option maxRecDepth 4000 in
theorem us32 : Cond.selects "WeddingRegisterModel" ⟨"WeddingRegisterModel", "stands", "(III)I"⟩ ⟨"WeddingRegisterModel", "stands", "(III)I"⟩ ∈ uw := uw_sel (q := (⟨"WeddingRegisterModel", "stands", "(III)I"⟩, 36)) (List.mem_of_getElem? (i := 32) rfl) (by rfl)
set_option maxRecDepth 4000 in
theorem us33 : Cond.selects "WeddingRegisterModel" ⟨"WeddingRegisterModel", "isYoung", "(II)Z"⟩ ⟨"WeddingRegisterModel", "isYoung", "(II)Z"⟩ ∈ uw := uw_sel (q := (⟨"WeddingRegisterModel", "isYoung", "(II)Z"⟩, 36)) (List.mem_of_getElem? (i := 33) rfl) (by rfl)
set_option maxRecDepth 4000 in
theorem us34 : Cond.selects "WeddingRegisterModel" ⟨"WeddingRegisterModel", "asks", "(III)I"⟩ ⟨"WeddingRegisterModel", "asks", "(III)I"⟩ ∈ uw := uw_sel (q := (⟨"WeddingRegisterModel", "asks", "(III)I"⟩, 36)) (List.mem_of_getElem? (i := 34) rfl) (by rfl)
set_option maxRecDepth 4000 in
theorem us35 : Cond.selects "WeddingRegisterModel" ⟨"WeddingRegisterModel", "inForce", "(II)[I"⟩ ⟨"WeddingRegisterModel", "inForce", "(II)[I"⟩ ∈ uw := uw_sel (q := (⟨"WeddingRegisterModel", "inForce", "(II)[I"⟩, 36)) (List.mem_of_getElem? (i := 35) rfl) (by rfl)
set_option maxRecDepth 4000 in
theorem us36 : Cond.selects "WeddingRegisterModel" ⟨"WeddingRegisterModel", "lacks", "(II)Z"⟩ ⟨"WeddingRegisterModel", "lacks", "(II)Z"⟩ ∈ uw := uw_sel (q := (⟨"WeddingRegisterModel", "lacks", "(II)Z"⟩, 36)) (List.mem_of_getElem? (i := 36) rfl) (by rfl)
set_option maxRecDepth 4000 in
theorem us37 : Cond.selects "WeddingRegisterModel" ⟨"WeddingRegisterModel", "hasPaper", "(III)Z"⟩ ⟨"WeddingRegisterModel", "hasPaper", "(III)Z"⟩ ∈ uw := uw_sel (q := (⟨"WeddingRegisterModel", "hasPaper", "(III)Z"⟩, 36)) (List.mem_of_getElem? (i := 37) rfl) (by rfl)
set_option maxRecDepth 4000 in
theorem us38 : Cond.selects "WeddingRegisterModel" ⟨"WeddingRegisterModel", "isNotice", "(I)Z"⟩ ⟨"WeddingRegisterModel", "isNotice", "(I)Z"⟩ ∈ uw := uw_sel (q := (⟨"WeddingRegisterModel", "isNotice", "(I)Z"⟩, 36)) (List.mem_of_getElem? (i := 38) rfl) (by rfl)
set_option maxRecDepth 4000 in
theorem us39 : Cond.selects "WeddingRegisterModel" ⟨"WeddingRegisterModel", "hungOf", "(II)I"⟩ ⟨"WeddingRegisterModel", "hungOf", "(II)I"⟩ ∈ uw := uw_sel (q := (⟨"WeddingRegisterModel", "hungOf", "(II)I"⟩, 36)) (List.mem_of_getElem? (i := 39) rfl) (by rfl)
set_option maxRecDepth 4000 in
theorem us40 : Cond.selects "WeddingRegisterModel" ⟨"WeddingRegisterModel", "ripeOf", "(I)I"⟩ ⟨"WeddingRegisterModel", "ripeOf", "(I)I"⟩ ∈ uw := uw_sel (q := (⟨"WeddingRegisterModel", "ripeOf", "(I)I"⟩, 36)) (List.mem_of_getElem? (i := 40) rfl) (by rfl)
set_option maxRecDepth 4000 in
theorem us41 : Cond.selects "WeddingRegisterModel" ⟨"WeddingRegisterModel", "wanted", "(II)I"⟩ ⟨"WeddingRegisterModel", "wanted", "(II)I"⟩ ∈ uw := uw_sel (q := (⟨"WeddingRegisterModel", "wanted", "(II)I"⟩, 36)) (List.mem_of_getElem? (i := 41) rfl) (by rfl)
set_option maxRecDepth 4000 in
theorem us42 : Cond.selects "WeddingRegisterModel" ⟨"WeddingRegisterModel", "bars", "(IIIII)I"⟩ ⟨"WeddingRegisterModel", "bars", "(IIIII)I"⟩ ∈ uw := uw_sel (q := (⟨"WeddingRegisterModel", "bars", "(IIIII)I"⟩, 36)) (List.mem_of_getElem? (i := 42) rfl) (by rfl)
set_option maxRecDepth 4000 in
theorem us43 : Cond.selects "WeddingRegisterModel" ⟨"WeddingRegisterModel", "isRipe", "(II)Z"⟩ ⟨"WeddingRegisterModel", "isRipe", "(II)Z"⟩ ∈ uw := uw_sel (q := (⟨"WeddingRegisterModel", "isRipe", "(II)Z"⟩, 36)) (List.mem_of_getElem? (i := 43) rfl) (by rfl)
set_option maxRecDepth 4000 in
theorem us44 : Cond.selects "WeddingRegisterModel" ⟨"WeddingRegisterModel", "objected", "(I)I"⟩ ⟨"WeddingRegisterModel", "objected", "(I)I"⟩ ∈ uw := uw_sel (q := (⟨"WeddingRegisterModel", "objected", "(I)I"⟩, 36)) (List.mem_of_getElem? (i := 44) rfl) (by rfl)
set_option maxRecDepth 4000 in
theorem us45 : Cond.selects "WeddingRegisterModel" ⟨"WeddingRegisterModel", "finds", "(II)Z"⟩ ⟨"WeddingRegisterModel", "finds", "(II)Z"⟩ ∈ uw := uw_sel (q := (⟨"WeddingRegisterModel", "finds", "(II)Z"⟩, 36)) (List.mem_of_getElem? (i := 45) rfl) (by rfl)
set_option maxRecDepth 4000 in
theorem us46 : Cond.selects "WeddingRegisterModel" ⟨"WeddingRegisterModel", "nameOf", "(III)I"⟩ ⟨"WeddingRegisterModel", "nameOf", "(III)I"⟩ ∈ uw := uw_sel (q := (⟨"WeddingRegisterModel", "nameOf", "(III)I"⟩, 36)) (List.mem_of_getElem? (i := 46) rfl) (by rfl)
end
section
theorem dX0_init_0 : decode cX0_init 0 = .ok (.aload_n 0, 1) := by decide +kernel
theorem dX0_init_1 : decode cX0_init 1 = .ok (.invokespecial 3, 3) := by decide +kernel
theorem dX0_init_4 : decode cX0_init 4 = .ok (.aload_n 0, 1) := by decide +kernel
theorem dX0_init_5 : decode cX0_init 5 = .ok (.sipush 313, 3) := by decide +kernel
theorem dX0_init_8 : decode cX0_init 8 = .ok (.newarray .long, 2) := by decide +kernel
theorem dX0_init_10 : decode cX0_init 10 = .ok (.putfield 9, 3) := by decide +kernel
theorem dX0_init_13 : decode cX0_init 13 = .ok (.return_, 1) := by decide +kernel
theorem dX0_isFeast_0 : decode cX0_isFeast 0 = .ok (.iload_n 1, 1) := by decide +kernel
theorem dX0_isFeast_1 : decode cX0_isFeast 1 = .ok (.bipush 6, 2) := by decide +kernel
theorem dX0_isFeast_3 : decode cX0_isFeast 3 = .ok (.ishr, 1) := by decide +kernel
theorem dX0_isFeast_4 : decode cX0_isFeast 4 = .ok (.istore_n 2, 1) := by decide +kernel
theorem dX0_isFeast_5 : decode cX0_isFeast 5 = .ok (.iload_n 2, 1) := by decide +kernel
theorem dX0_isFeast_6 : decode cX0_isFeast 6 = .ok (.ifCond .lt 12, 3) := by decide +kernel
theorem dX0_isFeast_9 : decode cX0_isFeast 9 = .ok (.iload_n 2, 1) := by decide +kernel
theorem dX0_isFeast_10 : decode cX0_isFeast 10 = .ok (.aload_n 0, 1) := by decide +kernel
theorem dX0_isFeast_11 : decode cX0_isFeast 11 = .ok (.getfield 9, 3) := by decide +kernel
theorem dX0_isFeast_14 : decode cX0_isFeast 14 = .ok (.arraylength, 1) := by decide +kernel
theorem dX0_isFeast_15 : decode cX0_isFeast 15 = .ok (.if_icmp .lt 5, 3) := by decide +kernel
theorem dX0_isFeast_18 : decode cX0_isFeast 18 = .ok (.iconst 0, 1) := by decide +kernel
theorem dX0_isFeast_19 : decode cX0_isFeast 19 = .ok (.ireturn, 1) := by decide +kernel
theorem dX0_isFeast_20 : decode cX0_isFeast 20 = .ok (.iload_n 1, 1) := by decide +kernel
theorem dX0_isFeast_21 : decode cX0_isFeast 21 = .ok (.bipush 7, 2) := by decide +kernel
theorem dX0_isFeast_23 : decode cX0_isFeast 23 = .ok (.irem, 1) := by decide +kernel
theorem dX0_isFeast_24 : decode cX0_isFeast 24 = .ok (.bipush 6, 2) := by decide +kernel
theorem dX0_isFeast_26 : decode cX0_isFeast 26 = .ok (.if_icmp .eq 21, 3) := by decide +kernel
theorem dX0_isFeast_29 : decode cX0_isFeast 29 = .ok (.aload_n 0, 1) := by decide +kernel
theorem dX0_isFeast_30 : decode cX0_isFeast 30 = .ok (.getfield 9, 3) := by decide +kernel
theorem dX0_isFeast_33 : decode cX0_isFeast 33 = .ok (.iload_n 2, 1) := by decide +kernel
theorem dX0_isFeast_34 : decode cX0_isFeast 34 = .ok (.laload, 1) := by decide +kernel
theorem dX0_isFeast_35 : decode cX0_isFeast 35 = .ok (.iload_n 1, 1) := by decide +kernel
theorem dX0_isFeast_36 : decode cX0_isFeast 36 = .ok (.bipush 63, 2) := by decide +kernel
theorem dX0_isFeast_38 : decode cX0_isFeast 38 = .ok (.iand, 1) := by decide +kernel
theorem dX0_isFeast_39 : decode cX0_isFeast 39 = .ok (.lshr, 1) := by decide +kernel
theorem dX0_isFeast_40 : decode cX0_isFeast 40 = .ok (.lconst 1, 1) := by decide +kernel
theorem dX0_isFeast_41 : decode cX0_isFeast 41 = .ok (.land, 1) := by decide +kernel
theorem dX0_isFeast_42 : decode cX0_isFeast 42 = .ok (.lconst 0, 1) := by decide +kernel
theorem dX0_isFeast_43 : decode cX0_isFeast 43 = .ok (.lcmp, 1) := by decide +kernel
theorem dX0_isFeast_44 : decode cX0_isFeast 44 = .ok (.ifCond .eq 7, 3) := by decide +kernel
theorem dX0_isFeast_47 : decode cX0_isFeast 47 = .ok (.iconst 1, 1) := by decide +kernel
theorem dX0_isFeast_48 : decode cX0_isFeast 48 = .ok (.goto 4, 3) := by decide +kernel
theorem dX0_isFeast_51 : decode cX0_isFeast 51 = .ok (.iconst 0, 1) := by decide +kernel
theorem dX0_isFeast_52 : decode cX0_isFeast 52 = .ok (.ireturn, 1) := by decide +kernel
theorem dX0_addFeast_0 : decode cX0_addFeast 0 = .ok (.iload_n 1, 1) := by decide +kernel
theorem dX0_addFeast_1 : decode cX0_addFeast 1 = .ok (.bipush 6, 2) := by decide +kernel
theorem dX0_addFeast_3 : decode cX0_addFeast 3 = .ok (.ishr, 1) := by decide +kernel
theorem dX0_addFeast_4 : decode cX0_addFeast 4 = .ok (.istore_n 2, 1) := by decide +kernel
theorem dX0_addFeast_5 : decode cX0_addFeast 5 = .ok (.iload_n 2, 1) := by decide +kernel
theorem dX0_addFeast_6 : decode cX0_addFeast 6 = .ok (.ifCond .lt 27, 3) := by decide +kernel
theorem dX0_addFeast_9 : decode cX0_addFeast 9 = .ok (.iload_n 2, 1) := by decide +kernel
theorem dX0_addFeast_10 : decode cX0_addFeast 10 = .ok (.aload_n 0, 1) := by decide +kernel
theorem dX0_addFeast_11 : decode cX0_addFeast 11 = .ok (.getfield 9, 3) := by decide +kernel
theorem dX0_addFeast_14 : decode cX0_addFeast 14 = .ok (.arraylength, 1) := by decide +kernel
theorem dX0_addFeast_15 : decode cX0_addFeast 15 = .ok (.if_icmp .ge 18, 3) := by decide +kernel
theorem dX0_addFeast_18 : decode cX0_addFeast 18 = .ok (.aload_n 0, 1) := by decide +kernel
theorem dX0_addFeast_19 : decode cX0_addFeast 19 = .ok (.getfield 9, 3) := by decide +kernel
theorem dX0_addFeast_22 : decode cX0_addFeast 22 = .ok (.iload_n 2, 1) := by decide +kernel
theorem dX0_addFeast_23 : decode cX0_addFeast 23 = .ok (.dup2, 1) := by decide +kernel
theorem dX0_addFeast_24 : decode cX0_addFeast 24 = .ok (.laload, 1) := by decide +kernel
theorem dX0_addFeast_25 : decode cX0_addFeast 25 = .ok (.lconst 1, 1) := by decide +kernel
theorem dX0_addFeast_26 : decode cX0_addFeast 26 = .ok (.iload_n 1, 1) := by decide +kernel
theorem dX0_addFeast_27 : decode cX0_addFeast 27 = .ok (.bipush 63, 2) := by decide +kernel
theorem dX0_addFeast_29 : decode cX0_addFeast 29 = .ok (.iand, 1) := by decide +kernel
theorem dX0_addFeast_30 : decode cX0_addFeast 30 = .ok (.lshl, 1) := by decide +kernel
theorem dX0_addFeast_31 : decode cX0_addFeast 31 = .ok (.lor, 1) := by decide +kernel
theorem dX0_addFeast_32 : decode cX0_addFeast 32 = .ok (.lastore, 1) := by decide +kernel
theorem dX0_addFeast_33 : decode cX0_addFeast 33 = .ok (.return_, 1) := by decide +kernel
theorem dX0_workdaysBetween_0 : decode cX0_workdaysBetween 0 = .ok (.iload_n 2, 1) := by decide +kernel
theorem dX0_workdaysBetween_1 : decode cX0_workdaysBetween 1 = .ok (.iload_n 1, 1) := by decide +kernel
theorem dX0_workdaysBetween_2 : decode cX0_workdaysBetween 2 = .ok (.iconst 1, 1) := by decide +kernel
theorem dX0_workdaysBetween_3 : decode cX0_workdaysBetween 3 = .ok (.iadd, 1) := by decide +kernel
theorem dX0_workdaysBetween_4 : decode cX0_workdaysBetween 4 = .ok (.if_icmp .gt 5, 3) := by decide +kernel
theorem dX0_workdaysBetween_7 : decode cX0_workdaysBetween 7 = .ok (.iconst 0, 1) := by decide +kernel
theorem dX0_workdaysBetween_8 : decode cX0_workdaysBetween 8 = .ok (.ireturn, 1) := by decide +kernel
theorem dX0_workdaysBetween_9 : decode cX0_workdaysBetween 9 = .ok (.iload_n 2, 1) := by decide +kernel
theorem dX0_workdaysBetween_10 : decode cX0_workdaysBetween 10 = .ok (.iload_n 1, 1) := by decide +kernel
theorem dX0_workdaysBetween_11 : decode cX0_workdaysBetween 11 = .ok (.isub, 1) := by decide +kernel
theorem dX0_workdaysBetween_12 : decode cX0_workdaysBetween 12 = .ok (.iconst 1, 1) := by decide +kernel
theorem dX0_workdaysBetween_13 : decode cX0_workdaysBetween 13 = .ok (.isub, 1) := by decide +kernel
theorem dX0_workdaysBetween_14 : decode cX0_workdaysBetween 14 = .ok (.aload_n 0, 1) := by decide +kernel
theorem dX0_workdaysBetween_15 : decode cX0_workdaysBetween 15 = .ok (.iload_n 2, 1) := by decide +kernel
theorem dX0_workdaysBetween_16 : decode cX0_workdaysBetween 16 = .ok (.invokevirtual 15, 3) := by decide +kernel
theorem dX0_workdaysBetween_19 : decode cX0_workdaysBetween 19 = .ok (.aload_n 0, 1) := by decide +kernel
theorem dX0_workdaysBetween_20 : decode cX0_workdaysBetween 20 = .ok (.iload_n 1, 1) := by decide +kernel
theorem dX0_workdaysBetween_21 : decode cX0_workdaysBetween 21 = .ok (.iconst 1, 1) := by decide +kernel
theorem dX0_workdaysBetween_22 : decode cX0_workdaysBetween 22 = .ok (.iadd, 1) := by decide +kernel
theorem dX0_workdaysBetween_23 : decode cX0_workdaysBetween 23 = .ok (.invokevirtual 15, 3) := by decide +kernel
theorem dX0_workdaysBetween_26 : decode cX0_workdaysBetween 26 = .ok (.isub, 1) := by decide +kernel
theorem dX0_workdaysBetween_27 : decode cX0_workdaysBetween 27 = .ok (.isub, 1) := by decide +kernel
theorem dX0_workdaysBetween_28 : decode cX0_workdaysBetween 28 = .ok (.ireturn, 1) := by decide +kernel
theorem dX0_feastsAheadOf_0 : decode cX0_feastsAheadOf 0 = .ok (.iload_n 1, 1) := by decide +kernel
theorem dX0_feastsAheadOf_1 : decode cX0_feastsAheadOf 1 = .ok (.bipush 6, 2) := by decide +kernel
theorem dX0_feastsAheadOf_3 : decode cX0_feastsAheadOf 3 = .ok (.ishr, 1) := by decide +kernel
theorem dX0_feastsAheadOf_4 : decode cX0_feastsAheadOf 4 = .ok (.istore_n 2, 1) := by decide +kernel
theorem dX0_feastsAheadOf_5 : decode cX0_feastsAheadOf 5 = .ok (.iload_n 1, 1) := by decide +kernel
theorem dX0_feastsAheadOf_6 : decode cX0_feastsAheadOf 6 = .ok (.bipush 7, 2) := by decide +kernel
theorem dX0_feastsAheadOf_8 : decode cX0_feastsAheadOf 8 = .ok (.idiv, 1) := by decide +kernel
theorem dX0_feastsAheadOf_9 : decode cX0_feastsAheadOf 9 = .ok (.istore_n 3, 1) := by decide +kernel
theorem dX0_feastsAheadOf_10 : decode cX0_feastsAheadOf 10 = .ok (.iconst 0, 1) := by decide +kernel
theorem dX0_feastsAheadOf_11 : decode cX0_feastsAheadOf 11 = .ok (.istore 4, 2) := by decide +kernel
theorem dX0_feastsAheadOf_13 : decode cX0_feastsAheadOf 13 = .ok (.iload 4, 2) := by decide +kernel
theorem dX0_feastsAheadOf_15 : decode cX0_feastsAheadOf 15 = .ok (.iload_n 2, 1) := by decide +kernel
theorem dX0_feastsAheadOf_16 : decode cX0_feastsAheadOf 16 = .ok (.if_icmp .ge 32, 3) := by decide +kernel
theorem dX0_feastsAheadOf_19 : decode cX0_feastsAheadOf 19 = .ok (.iload 4, 2) := by decide +kernel
theorem dX0_feastsAheadOf_21 : decode cX0_feastsAheadOf 21 = .ok (.aload_n 0, 1) := by decide +kernel
theorem dX0_feastsAheadOf_22 : decode cX0_feastsAheadOf 22 = .ok (.getfield 9, 3) := by decide +kernel
theorem dX0_feastsAheadOf_25 : decode cX0_feastsAheadOf 25 = .ok (.arraylength, 1) := by decide +kernel
theorem dX0_feastsAheadOf_26 : decode cX0_feastsAheadOf 26 = .ok (.if_icmp .ge 22, 3) := by decide +kernel
theorem dX0_feastsAheadOf_29 : decode cX0_feastsAheadOf 29 = .ok (.iload_n 3, 1) := by decide +kernel
theorem dX0_feastsAheadOf_30 : decode cX0_feastsAheadOf 30 = .ok (.aload_n 0, 1) := by decide +kernel
theorem dX0_feastsAheadOf_31 : decode cX0_feastsAheadOf 31 = .ok (.getfield 9, 3) := by decide +kernel
theorem dX0_feastsAheadOf_34 : decode cX0_feastsAheadOf 34 = .ok (.iload 4, 2) := by decide +kernel
theorem dX0_feastsAheadOf_36 : decode cX0_feastsAheadOf 36 = .ok (.laload, 1) := by decide +kernel
theorem dX0_feastsAheadOf_37 : decode cX0_feastsAheadOf 37 = .ok (.invokestatic 19, 3) := by decide +kernel
theorem dX0_feastsAheadOf_40 : decode cX0_feastsAheadOf 40 = .ok (.iadd, 1) := by decide +kernel
theorem dX0_feastsAheadOf_41 : decode cX0_feastsAheadOf 41 = .ok (.istore_n 3, 1) := by decide +kernel
theorem dX0_feastsAheadOf_42 : decode cX0_feastsAheadOf 42 = .ok (.iinc 4 1, 3) := by decide +kernel
theorem dX0_feastsAheadOf_45 : decode cX0_feastsAheadOf 45 = .ok (.goto (-32), 3) := by decide +kernel
theorem dX0_feastsAheadOf_48 : decode cX0_feastsAheadOf 48 = .ok (.iload_n 2, 1) := by decide +kernel
theorem dX0_feastsAheadOf_49 : decode cX0_feastsAheadOf 49 = .ok (.ifCond .lt 33, 3) := by decide +kernel
theorem dX0_feastsAheadOf_52 : decode cX0_feastsAheadOf 52 = .ok (.iload_n 2, 1) := by decide +kernel
theorem dX0_feastsAheadOf_53 : decode cX0_feastsAheadOf 53 = .ok (.aload_n 0, 1) := by decide +kernel
theorem dX0_feastsAheadOf_54 : decode cX0_feastsAheadOf 54 = .ok (.getfield 9, 3) := by decide +kernel
theorem dX0_feastsAheadOf_57 : decode cX0_feastsAheadOf 57 = .ok (.arraylength, 1) := by decide +kernel
theorem dX0_feastsAheadOf_58 : decode cX0_feastsAheadOf 58 = .ok (.if_icmp .ge 24, 3) := by decide +kernel
theorem dX0_feastsAheadOf_61 : decode cX0_feastsAheadOf 61 = .ok (.iload_n 3, 1) := by decide +kernel
theorem dX0_feastsAheadOf_62 : decode cX0_feastsAheadOf 62 = .ok (.aload_n 0, 1) := by decide +kernel
theorem dX0_feastsAheadOf_63 : decode cX0_feastsAheadOf 63 = .ok (.getfield 9, 3) := by decide +kernel
theorem dX0_feastsAheadOf_66 : decode cX0_feastsAheadOf 66 = .ok (.iload_n 2, 1) := by decide +kernel
theorem dX0_feastsAheadOf_67 : decode cX0_feastsAheadOf 67 = .ok (.laload, 1) := by decide +kernel
theorem dX0_feastsAheadOf_68 : decode cX0_feastsAheadOf 68 = .ok (.lconst 1, 1) := by decide +kernel
theorem dX0_feastsAheadOf_69 : decode cX0_feastsAheadOf 69 = .ok (.iload_n 1, 1) := by decide +kernel
theorem dX0_feastsAheadOf_70 : decode cX0_feastsAheadOf 70 = .ok (.bipush 63, 2) := by decide +kernel
theorem dX0_feastsAheadOf_72 : decode cX0_feastsAheadOf 72 = .ok (.iand, 1) := by decide +kernel
theorem dX0_feastsAheadOf_73 : decode cX0_feastsAheadOf 73 = .ok (.lshl, 1) := by decide +kernel
theorem dX0_feastsAheadOf_74 : decode cX0_feastsAheadOf 74 = .ok (.lconst 1, 1) := by decide +kernel
theorem dX0_feastsAheadOf_75 : decode cX0_feastsAheadOf 75 = .ok (.lsub, 1) := by decide +kernel
theorem dX0_feastsAheadOf_76 : decode cX0_feastsAheadOf 76 = .ok (.land, 1) := by decide +kernel
theorem dX0_feastsAheadOf_77 : decode cX0_feastsAheadOf 77 = .ok (.invokestatic 19, 3) := by decide +kernel
theorem dX0_feastsAheadOf_80 : decode cX0_feastsAheadOf 80 = .ok (.iadd, 1) := by decide +kernel
theorem dX0_feastsAheadOf_81 : decode cX0_feastsAheadOf 81 = .ok (.istore_n 3, 1) := by decide +kernel
theorem dX0_feastsAheadOf_82 : decode cX0_feastsAheadOf 82 = .ok (.iload_n 3, 1) := by decide +kernel
theorem dX0_feastsAheadOf_83 : decode cX0_feastsAheadOf 83 = .ok (.ireturn, 1) := by decide +kernel
theorem dX1_init_0 : decode cX1_init 0 = .ok (.aload_n 0, 1) := by decide +kernel
theorem dX1_init_1 : decode cX1_init 1 = .ok (.invokespecial 1, 3) := by decide +kernel
theorem dX1_init_4 : decode cX1_init 4 = .ok (.aload_n 0, 1) := by decide +kernel
theorem dX1_init_5 : decode cX1_init 5 = .ok (.iload_n 1, 1) := by decide +kernel
theorem dX1_init_6 : decode cX1_init 6 = .ok (.putfield 7, 3) := by decide +kernel
theorem dX1_init_9 : decode cX1_init 9 = .ok (.aload_n 0, 1) := by decide +kernel
theorem dX1_init_10 : decode cX1_init 10 = .ok (.iload_n 2, 1) := by decide +kernel
theorem dX1_init_11 : decode cX1_init 11 = .ok (.putfield 13, 3) := by decide +kernel
theorem dX1_init_14 : decode cX1_init 14 = .ok (.aload_n 0, 1) := by decide +kernel
theorem dX1_init_15 : decode cX1_init 15 = .ok (.iload_n 3, 1) := by decide +kernel
theorem dX1_init_16 : decode cX1_init 16 = .ok (.putfield 16, 3) := by decide +kernel
theorem dX1_init_19 : decode cX1_init 19 = .ok (.aload_n 0, 1) := by decide +kernel
theorem dX1_init_20 : decode cX1_init 20 = .ok (.iload 4, 2) := by decide +kernel
theorem dX1_init_22 : decode cX1_init 22 = .ok (.putfield 19, 3) := by decide +kernel
theorem dX1_init_25 : decode cX1_init 25 = .ok (.return_, 1) := by decide +kernel
theorem dX2_init_0 : decode cX2_init 0 = .ok (.aload_n 0, 1) := by decide +kernel
theorem dX2_init_1 : decode cX2_init 1 = .ok (.invokespecial 3, 3) := by decide +kernel
theorem dX2_init_4 : decode cX2_init 4 = .ok (.aload_n 0, 1) := by decide +kernel
theorem dX2_init_5 : decode cX2_init 5 = .ok (.bipush 10, 2) := by decide +kernel
theorem dX2_init_7 : decode cX2_init 7 = .ok (.newarray .int, 2) := by decide +kernel
theorem dX2_init_9 : decode cX2_init 9 = .ok (.putfield 9, 3) := by decide +kernel
theorem dX2_init_12 : decode cX2_init 12 = .ok (.aload_n 0, 1) := by decide +kernel
theorem dX2_init_13 : decode cX2_init 13 = .ok (.bipush 60, 2) := by decide +kernel
theorem dX2_init_15 : decode cX2_init 15 = .ok (.newarray .int, 2) := by decide +kernel
theorem dX2_init_17 : decode cX2_init 17 = .ok (.putfield 15, 3) := by decide +kernel
theorem dX2_init_20 : decode cX2_init 20 = .ok (.return_, 1) := by decide +kernel
theorem dX2_clear_0 : decode cX2_clear 0 = .ok (.aload_n 0, 1) := by decide +kernel
theorem dX2_clear_1 : decode cX2_clear 1 = .ok (.getfield 9, 3) := by decide +kernel
theorem dX2_clear_4 : decode cX2_clear 4 = .ok (.iconst 0, 1) := by decide +kernel
theorem dX2_clear_5 : decode cX2_clear 5 = .ok (.invokestatic 18, 3) := by decide +kernel
theorem dX2_clear_8 : decode cX2_clear 8 = .ok (.aload_n 0, 1) := by decide +kernel
theorem dX2_clear_9 : decode cX2_clear 9 = .ok (.getfield 15, 3) := by decide +kernel
theorem dX2_clear_12 : decode cX2_clear 12 = .ok (.iconst (-1), 1) := by decide +kernel
theorem dX2_clear_13 : decode cX2_clear 13 = .ok (.invokestatic 18, 3) := by decide +kernel
theorem dX2_clear_16 : decode cX2_clear 16 = .ok (.return_, 1) := by decide +kernel
theorem dX2_take_0 : decode cX2_take 0 = .ok (.iload_n 1, 1) := by decide +kernel
theorem dX2_take_1 : decode cX2_take 1 = .ok (.invokestatic 24, 3) := by decide +kernel
theorem dX2_take_4 : decode cX2_take 4 = .ok (.istore_n 2, 1) := by decide +kernel
theorem dX2_take_5 : decode cX2_take 5 = .ok (.aload_n 0, 1) := by decide +kernel
theorem dX2_take_6 : decode cX2_take 6 = .ok (.iload_n 2, 1) := by decide +kernel
theorem dX2_take_7 : decode cX2_take 7 = .ok (.iload_n 1, 1) := by decide +kernel
theorem dX2_take_8 : decode cX2_take 8 = .ok (.invokestatic 28, 3) := by decide +kernel
theorem dX2_take_11 : decode cX2_take 11 = .ok (.invokevirtual 31, 3) := by decide +kernel
theorem dX2_take_14 : decode cX2_take 14 = .ok (.istore_n 3, 1) := by decide +kernel
theorem dX2_take_15 : decode cX2_take 15 = .ok (.iload_n 3, 1) := by decide +kernel
theorem dX2_take_16 : decode cX2_take 16 = .ok (.iconst (-1), 1) := by decide +kernel
theorem dX2_take_17 : decode cX2_take 17 = .ok (.if_icmp .ne 4, 3) := by decide +kernel
theorem dX2_take_20 : decode cX2_take 20 = .ok (.return_, 1) := by decide +kernel
theorem dX2_take_21 : decode cX2_take 21 = .ok (.aload_n 0, 1) := by decide +kernel
theorem dX2_take_22 : decode cX2_take 22 = .ok (.getfield 9, 3) := by decide +kernel
theorem dX2_take_25 : decode cX2_take 25 = .ok (.iload_n 2, 1) := by decide +kernel
theorem dX2_take_26 : decode cX2_take 26 = .ok (.bipush 8, 2) := by decide +kernel
theorem dX2_take_28 : decode cX2_take 28 = .ok (.isub, 1) := by decide +kernel
theorem dX2_take_29 : decode cX2_take 29 = .ok (.dup2, 1) := by decide +kernel
theorem dX2_take_30 : decode cX2_take 30 = .ok (.iaload, 1) := by decide +kernel
theorem dX2_take_31 : decode cX2_take 31 = .ok (.iconst 1, 1) := by decide +kernel
theorem dX2_take_32 : decode cX2_take 32 = .ok (.iload_n 1, 1) := by decide +kernel
theorem dX2_take_33 : decode cX2_take 33 = .ok (.invokestatic 35, 3) := by decide +kernel
theorem dX2_take_36 : decode cX2_take 36 = .ok (.ishl, 1) := by decide +kernel
theorem dX2_take_37 : decode cX2_take 37 = .ok (.ior, 1) := by decide +kernel
theorem dX2_take_38 : decode cX2_take 38 = .ok (.iastore, 1) := by decide +kernel
theorem dX2_take_39 : decode cX2_take 39 = .ok (.aload_n 0, 1) := by decide +kernel
theorem dX2_take_40 : decode cX2_take 40 = .ok (.getfield 15, 3) := by decide +kernel
theorem dX2_take_43 : decode cX2_take 43 = .ok (.iload_n 3, 1) := by decide +kernel
theorem dX2_take_44 : decode cX2_take 44 = .ok (.iload_n 1, 1) := by decide +kernel
theorem dX2_take_45 : decode cX2_take 45 = .ok (.invokestatic 35, 3) := by decide +kernel
theorem dX2_take_48 : decode cX2_take 48 = .ok (.iastore, 1) := by decide +kernel
theorem dX2_take_49 : decode cX2_take 49 = .ok (.return_, 1) := by decide +kernel
theorem dX2_barTo_0 : decode cX2_barTo 0 = .ok (.iload_n 1, 1) := by decide +kernel
theorem dX2_barTo_1 : decode cX2_barTo 1 = .ok (.invokestatic 24, 3) := by decide +kernel
theorem dX2_barTo_4 : decode cX2_barTo 4 = .ok (.istore_n 2, 1) := by decide +kernel
theorem dX2_barTo_5 : decode cX2_barTo 5 = .ok (.iload_n 1, 1) := by decide +kernel
theorem dX2_barTo_6 : decode cX2_barTo 6 = .ok (.invokestatic 35, 3) := by decide +kernel
theorem dX2_barTo_9 : decode cX2_barTo 9 = .ok (.istore_n 3, 1) := by decide +kernel
theorem dX2_barTo_10 : decode cX2_barTo 10 = .ok (.iload_n 1, 1) := by decide +kernel
theorem dX2_barTo_11 : decode cX2_barTo 11 = .ok (.invokestatic 28, 3) := by decide +kernel
theorem dX2_barTo_14 : decode cX2_barTo 14 = .ok (.istore 4, 2) := by decide +kernel
theorem dX2_barTo_16 : decode cX2_barTo 16 = .ok (.aload_n 0, 1) := by decide +kernel
theorem dX2_barTo_17 : decode cX2_barTo 17 = .ok (.iload_n 2, 1) := by decide +kernel
theorem dX2_barTo_18 : decode cX2_barTo 18 = .ok (.iload_n 3, 1) := by decide +kernel
theorem dX2_barTo_19 : decode cX2_barTo 19 = .ok (.invokevirtual 38, 3) := by decide +kernel
theorem dX2_barTo_22 : decode cX2_barTo 22 = .ok (.ifCond .eq 5, 3) := by decide +kernel
theorem dX2_barTo_25 : decode cX2_barTo 25 = .ok (.iconst 4, 1) := by decide +kernel
theorem dX2_barTo_26 : decode cX2_barTo 26 = .ok (.ireturn, 1) := by decide +kernel
theorem dX2_barTo_27 : decode cX2_barTo 27 = .ok (.aload_n 0, 1) := by decide +kernel
theorem dX2_barTo_28 : decode cX2_barTo 28 = .ok (.iload_n 2, 1) := by decide +kernel
theorem dX2_barTo_29 : decode cX2_barTo 29 = .ok (.iload 4, 2) := by decide +kernel
theorem dX2_barTo_31 : decode cX2_barTo 31 = .ok (.invokevirtual 42, 3) := by decide +kernel
theorem dX2_barTo_34 : decode cX2_barTo 34 = .ok (.iconst (-1), 1) := by decide +kernel
theorem dX2_barTo_35 : decode cX2_barTo 35 = .ok (.if_icmp .eq 5, 3) := by decide +kernel
theorem dX2_barTo_38 : decode cX2_barTo 38 = .ok (.iconst 5, 1) := by decide +kernel
theorem dX2_barTo_39 : decode cX2_barTo 39 = .ok (.ireturn, 1) := by decide +kernel
theorem dX2_barTo_40 : decode cX2_barTo 40 = .ok (.aload_n 0, 1) := by decide +kernel
theorem dX2_barTo_41 : decode cX2_barTo 41 = .ok (.iload_n 2, 1) := by decide +kernel
theorem dX2_barTo_42 : decode cX2_barTo 42 = .ok (.iconst 1, 1) := by decide +kernel
theorem dX2_barTo_43 : decode cX2_barTo 43 = .ok (.isub, 1) := by decide +kernel
theorem dX2_barTo_44 : decode cX2_barTo 44 = .ok (.iload 4, 2) := by decide +kernel
theorem dX2_barTo_46 : decode cX2_barTo 46 = .ok (.invokevirtual 42, 3) := by decide +kernel
theorem dX2_barTo_49 : decode cX2_barTo 49 = .ok (.istore 5, 2) := by decide +kernel
theorem dX2_barTo_51 : decode cX2_barTo 51 = .ok (.aload_n 0, 1) := by decide +kernel
theorem dX2_barTo_52 : decode cX2_barTo 52 = .ok (.iload_n 2, 1) := by decide +kernel
theorem dX2_barTo_53 : decode cX2_barTo 53 = .ok (.iconst 1, 1) := by decide +kernel
theorem dX2_barTo_54 : decode cX2_barTo 54 = .ok (.iadd, 1) := by decide +kernel
theorem dX2_barTo_55 : decode cX2_barTo 55 = .ok (.iload 4, 2) := by decide +kernel
theorem dX2_barTo_57 : decode cX2_barTo 57 = .ok (.invokevirtual 42, 3) := by decide +kernel
theorem dX2_barTo_60 : decode cX2_barTo 60 = .ok (.istore 6, 2) := by decide +kernel
theorem dX2_barTo_62 : decode cX2_barTo 62 = .ok (.iload 5, 2) := by decide +kernel
theorem dX2_barTo_64 : decode cX2_barTo 64 = .ok (.iconst (-1), 1) := by decide +kernel
theorem dX2_barTo_65 : decode cX2_barTo 65 = .ok (.if_icmp .eq 9, 3) := by decide +kernel
theorem dX2_barTo_68 : decode cX2_barTo 68 = .ok (.iload 5, 2) := by decide +kernel
theorem dX2_barTo_70 : decode cX2_barTo 70 = .ok (.iload_n 3, 1) := by decide +kernel
theorem dX2_barTo_71 : decode cX2_barTo 71 = .ok (.if_icmp .ne 15, 3) := by decide +kernel
theorem dX2_barTo_74 : decode cX2_barTo 74 = .ok (.iload 6, 2) := by decide +kernel
theorem dX2_barTo_76 : decode cX2_barTo 76 = .ok (.iconst (-1), 1) := by decide +kernel
theorem dX2_barTo_77 : decode cX2_barTo 77 = .ok (.if_icmp .eq 12, 3) := by decide +kernel
theorem dX2_barTo_80 : decode cX2_barTo 80 = .ok (.iload 6, 2) := by decide +kernel
theorem dX2_barTo_82 : decode cX2_barTo 82 = .ok (.iload_n 3, 1) := by decide +kernel
theorem dX2_barTo_83 : decode cX2_barTo 83 = .ok (.if_icmp .eq 6, 3) := by decide +kernel
theorem dX2_barTo_86 : decode cX2_barTo 86 = .ok (.bipush 6, 2) := by decide +kernel
theorem dX2_barTo_88 : decode cX2_barTo 88 = .ok (.ireturn, 1) := by decide +kernel
theorem dX2_barTo_89 : decode cX2_barTo 89 = .ok (.iconst 0, 1) := by decide +kernel
theorem dX2_barTo_90 : decode cX2_barTo 90 = .ok (.ireturn, 1) := by decide +kernel
theorem dX2_isTaken_0 : decode cX2_isTaken 0 = .ok (.iload_n 1, 1) := by decide +kernel
theorem dX2_isTaken_1 : decode cX2_isTaken 1 = .ok (.bipush 8, 2) := by decide +kernel
theorem dX2_isTaken_3 : decode cX2_isTaken 3 = .ok (.isub, 1) := by decide +kernel
theorem dX2_isTaken_4 : decode cX2_isTaken 4 = .ok (.istore_n 3, 1) := by decide +kernel
theorem dX2_isTaken_5 : decode cX2_isTaken 5 = .ok (.iload_n 3, 1) := by decide +kernel
theorem dX2_isTaken_6 : decode cX2_isTaken 6 = .ok (.ifCond .lt 26, 3) := by decide +kernel
theorem dX2_isTaken_9 : decode cX2_isTaken 9 = .ok (.iload_n 3, 1) := by decide +kernel
theorem dX2_isTaken_10 : decode cX2_isTaken 10 = .ok (.bipush 10, 2) := by decide +kernel
theorem dX2_isTaken_12 : decode cX2_isTaken 12 = .ok (.if_icmp .ge 20, 3) := by decide +kernel
theorem dX2_isTaken_15 : decode cX2_isTaken 15 = .ok (.aload_n 0, 1) := by decide +kernel
theorem dX2_isTaken_16 : decode cX2_isTaken 16 = .ok (.getfield 9, 3) := by decide +kernel
theorem dX2_isTaken_19 : decode cX2_isTaken 19 = .ok (.iload_n 3, 1) := by decide +kernel
theorem dX2_isTaken_20 : decode cX2_isTaken 20 = .ok (.iaload, 1) := by decide +kernel
theorem dX2_isTaken_21 : decode cX2_isTaken 21 = .ok (.iload_n 2, 1) := by decide +kernel
theorem dX2_isTaken_22 : decode cX2_isTaken 22 = .ok (.ishr, 1) := by decide +kernel
theorem dX2_isTaken_23 : decode cX2_isTaken 23 = .ok (.iconst 1, 1) := by decide +kernel
theorem dX2_isTaken_24 : decode cX2_isTaken 24 = .ok (.iand, 1) := by decide +kernel
theorem dX2_isTaken_25 : decode cX2_isTaken 25 = .ok (.ifCond .eq 7, 3) := by decide +kernel
theorem dX2_isTaken_28 : decode cX2_isTaken 28 = .ok (.iconst 1, 1) := by decide +kernel
theorem dX2_isTaken_29 : decode cX2_isTaken 29 = .ok (.goto 4, 3) := by decide +kernel
theorem dX2_isTaken_32 : decode cX2_isTaken 32 = .ok (.iconst 0, 1) := by decide +kernel
theorem dX2_isTaken_33 : decode cX2_isTaken 33 = .ok (.ireturn, 1) := by decide +kernel
theorem dX2_hallAt_0 : decode cX2_hallAt 0 = .ok (.aload_n 0, 1) := by decide +kernel
theorem dX2_hallAt_1 : decode cX2_hallAt 1 = .ok (.iload_n 1, 1) := by decide +kernel
theorem dX2_hallAt_2 : decode cX2_hallAt 2 = .ok (.iload_n 2, 1) := by decide +kernel
theorem dX2_hallAt_3 : decode cX2_hallAt 3 = .ok (.invokevirtual 31, 3) := by decide +kernel
theorem dX2_hallAt_6 : decode cX2_hallAt 6 = .ok (.istore_n 3, 1) := by decide +kernel
theorem dX2_hallAt_7 : decode cX2_hallAt 7 = .ok (.iload_n 3, 1) := by decide +kernel
theorem dX2_hallAt_8 : decode cX2_hallAt 8 = .ok (.iconst (-1), 1) := by decide +kernel
theorem dX2_hallAt_9 : decode cX2_hallAt 9 = .ok (.if_icmp .ne 7, 3) := by decide +kernel
theorem dX2_hallAt_12 : decode cX2_hallAt 12 = .ok (.iconst (-1), 1) := by decide +kernel
theorem dX2_hallAt_13 : decode cX2_hallAt 13 = .ok (.goto 9, 3) := by decide +kernel
theorem dX2_hallAt_16 : decode cX2_hallAt 16 = .ok (.aload_n 0, 1) := by decide +kernel
theorem dX2_hallAt_17 : decode cX2_hallAt 17 = .ok (.getfield 15, 3) := by decide +kernel
theorem dX2_hallAt_20 : decode cX2_hallAt 20 = .ok (.iload_n 3, 1) := by decide +kernel
theorem dX2_hallAt_21 : decode cX2_hallAt 21 = .ok (.iaload, 1) := by decide +kernel
theorem dX2_hallAt_22 : decode cX2_hallAt 22 = .ok (.ireturn, 1) := by decide +kernel
theorem dX2_placeOf_0 : decode cX2_placeOf 0 = .ok (.iload_n 1, 1) := by decide +kernel
theorem dX2_placeOf_1 : decode cX2_placeOf 1 = .ok (.bipush 8, 2) := by decide +kernel
theorem dX2_placeOf_3 : decode cX2_placeOf 3 = .ok (.isub, 1) := by decide +kernel
theorem dX2_placeOf_4 : decode cX2_placeOf 4 = .ok (.istore_n 3, 1) := by decide +kernel
theorem dX2_placeOf_5 : decode cX2_placeOf 5 = .ok (.iload_n 3, 1) := by decide +kernel
theorem dX2_placeOf_6 : decode cX2_placeOf 6 = .ok (.ifCond .lt 19, 3) := by decide +kernel
theorem dX2_placeOf_9 : decode cX2_placeOf 9 = .ok (.iload_n 3, 1) := by decide +kernel
theorem dX2_placeOf_10 : decode cX2_placeOf 10 = .ok (.bipush 10, 2) := by decide +kernel
theorem dX2_placeOf_12 : decode cX2_placeOf 12 = .ok (.if_icmp .ge 13, 3) := by decide +kernel
theorem dX2_placeOf_15 : decode cX2_placeOf 15 = .ok (.iload_n 2, 1) := by decide +kernel
theorem dX2_placeOf_16 : decode cX2_placeOf 16 = .ok (.ifCond .lt 9, 3) := by decide +kernel
theorem dX2_placeOf_19 : decode cX2_placeOf 19 = .ok (.iload_n 2, 1) := by decide +kernel
theorem dX2_placeOf_20 : decode cX2_placeOf 20 = .ok (.bipush 6, 2) := by decide +kernel
theorem dX2_placeOf_22 : decode cX2_placeOf 22 = .ok (.if_icmp .lt 5, 3) := by decide +kernel
theorem dX2_placeOf_25 : decode cX2_placeOf 25 = .ok (.iconst (-1), 1) := by decide +kernel
theorem dX2_placeOf_26 : decode cX2_placeOf 26 = .ok (.ireturn, 1) := by decide +kernel
theorem dX2_placeOf_27 : decode cX2_placeOf 27 = .ok (.iload_n 3, 1) := by decide +kernel
theorem dX2_placeOf_28 : decode cX2_placeOf 28 = .ok (.bipush 6, 2) := by decide +kernel
theorem dX2_placeOf_30 : decode cX2_placeOf 30 = .ok (.imul, 1) := by decide +kernel
theorem dX2_placeOf_31 : decode cX2_placeOf 31 = .ok (.iload_n 2, 1) := by decide +kernel
theorem dX2_placeOf_32 : decode cX2_placeOf 32 = .ok (.iadd, 1) := by decide +kernel
theorem dX2_placeOf_33 : decode cX2_placeOf 33 = .ok (.ireturn, 1) := by decide +kernel
theorem dX3_init_0 : decode cX3_init 0 = .ok (.aload_n 0, 1) := by decide +kernel
theorem dX3_init_1 : decode cX3_init 1 = .ok (.invokespecial 3, 3) := by decide +kernel
theorem dX3_init_4 : decode cX3_init 4 = .ok (.aload_n 0, 1) := by decide +kernel
theorem dX3_init_5 : decode cX3_init 5 = .ok (.aload_n 1, 1) := by decide +kernel
theorem dX3_init_6 : decode cX3_init 6 = .ok (.putfield 9, 3) := by decide +kernel
theorem dX3_init_9 : decode cX3_init 9 = .ok (.aload_n 0, 1) := by decide +kernel
theorem dX3_init_10 : decode cX3_init 10 = .ok (.iload_n 2, 1) := by decide +kernel
theorem dX3_init_11 : decode cX3_init 11 = .ok (.putfield 15, 3) := by decide +kernel
theorem dX3_init_14 : decode cX3_init 14 = .ok (.aload_n 0, 1) := by decide +kernel
theorem dX3_init_15 : decode cX3_init 15 = .ok (.aload_n 1, 1) := by decide +kernel
theorem dX3_init_16 : decode cX3_init 16 = .ok (.getfield 19, 3) := by decide +kernel
theorem dX3_init_19 : decode cX3_init 19 = .ok (.getfield 25, 3) := by decide +kernel
theorem dX3_init_22 : decode cX3_init 22 = .ok (.putfield 30, 3) := by decide +kernel
theorem dX3_init_25 : decode cX3_init 25 = .ok (.aload_n 0, 1) := by decide +kernel
theorem dX3_init_26 : decode cX3_init 26 = .ok (.aload_n 1, 1) := by decide +kernel
theorem dX3_init_27 : decode cX3_init 27 = .ok (.getfield 33, 3) := by decide +kernel
theorem dX3_init_30 : decode cX3_init 30 = .ok (.getfield 25, 3) := by decide +kernel
theorem dX3_init_33 : decode cX3_init 33 = .ok (.putfield 36, 3) := by decide +kernel
theorem dX3_init_36 : decode cX3_init 36 = .ok (.aload_n 0, 1) := by decide +kernel
theorem dX3_init_37 : decode cX3_init 37 = .ok (.aload_n 1, 1) := by decide +kernel
theorem dX3_init_38 : decode cX3_init 38 = .ok (.getfield 39, 3) := by decide +kernel
theorem dX3_init_41 : decode cX3_init 41 = .ok (.invokestatic 42, 3) := by decide +kernel
theorem dX3_init_44 : decode cX3_init 44 = .ok (.putfield 46, 3) := by decide +kernel
theorem dX3_init_47 : decode cX3_init 47 = .ok (.aload_n 0, 1) := by decide +kernel
theorem dX3_init_48 : decode cX3_init 48 = .ok (.aload_n 1, 1) := by decide +kernel
theorem dX3_init_49 : decode cX3_init 49 = .ok (.getfield 39, 3) := by decide +kernel
theorem dX3_init_52 : decode cX3_init 52 = .ok (.invokestatic 49, 3) := by decide +kernel
theorem dX3_init_55 : decode cX3_init 55 = .ok (.putfield 52, 3) := by decide +kernel
theorem dX3_init_58 : decode cX3_init 58 = .ok (.return_, 1) := by decide +kernel
theorem dX3_written_0 : decode cX3_written 0 = .ok (.iload_n 1, 1) := by decide +kernel
theorem dX3_written_1 : decode cX3_written 1 = .ok (.tableswitch 102 0 7 #[47, 52, 57, 62, 67, 72, 83, 94], 47) := by decide +kernel
theorem dX3_written_48 : decode cX3_written 48 = .ok (.aload_n 0, 1) := by decide +kernel
theorem dX3_written_49 : decode cX3_written 49 = .ok (.getfield 15, 3) := by decide +kernel
theorem dX3_written_52 : decode cX3_written 52 = .ok (.ireturn, 1) := by decide +kernel
theorem dX3_written_53 : decode cX3_written 53 = .ok (.aload_n 0, 1) := by decide +kernel
theorem dX3_written_54 : decode cX3_written 54 = .ok (.getfield 30, 3) := by decide +kernel
theorem dX3_written_57 : decode cX3_written 57 = .ok (.ireturn, 1) := by decide +kernel
theorem dX3_written_58 : decode cX3_written 58 = .ok (.aload_n 0, 1) := by decide +kernel
theorem dX3_written_59 : decode cX3_written 59 = .ok (.getfield 36, 3) := by decide +kernel
theorem dX3_written_62 : decode cX3_written 62 = .ok (.ireturn, 1) := by decide +kernel
theorem dX3_written_63 : decode cX3_written 63 = .ok (.aload_n 0, 1) := by decide +kernel
theorem dX3_written_64 : decode cX3_written 64 = .ok (.getfield 46, 3) := by decide +kernel
theorem dX3_written_67 : decode cX3_written 67 = .ok (.ireturn, 1) := by decide +kernel
theorem dX3_written_68 : decode cX3_written 68 = .ok (.aload_n 0, 1) := by decide +kernel
theorem dX3_written_69 : decode cX3_written 69 = .ok (.getfield 52, 3) := by decide +kernel
theorem dX3_written_72 : decode cX3_written 72 = .ok (.ireturn, 1) := by decide +kernel
theorem dX3_written_73 : decode cX3_written 73 = .ok (.aload_n 0, 1) := by decide +kernel
theorem dX3_written_74 : decode cX3_written 74 = .ok (.getfield 9, 3) := by decide +kernel
theorem dX3_written_77 : decode cX3_written 77 = .ok (.getfield 19, 3) := by decide +kernel
theorem dX3_written_80 : decode cX3_written 80 = .ok (.getfield 55, 3) := by decide +kernel
theorem dX3_written_83 : decode cX3_written 83 = .ok (.ireturn, 1) := by decide +kernel
theorem dX3_written_84 : decode cX3_written 84 = .ok (.aload_n 0, 1) := by decide +kernel
theorem dX3_written_85 : decode cX3_written 85 = .ok (.getfield 9, 3) := by decide +kernel
theorem dX3_written_88 : decode cX3_written 88 = .ok (.getfield 33, 3) := by decide +kernel
theorem dX3_written_91 : decode cX3_written 91 = .ok (.getfield 55, 3) := by decide +kernel
theorem dX3_written_94 : decode cX3_written 94 = .ok (.ireturn, 1) := by decide +kernel
theorem dX3_written_95 : decode cX3_written 95 = .ok (.aload_n 0, 1) := by decide +kernel
theorem dX3_written_96 : decode cX3_written 96 = .ok (.getfield 9, 3) := by decide +kernel
theorem dX3_written_99 : decode cX3_written 99 = .ok (.getfield 58, 3) := by decide +kernel
theorem dX3_written_102 : decode cX3_written 102 = .ok (.ireturn, 1) := by decide +kernel
theorem dX3_written_103 : decode cX3_written 103 = .ok (.iconst (-1), 1) := by decide +kernel
theorem dX3_written_104 : decode cX3_written 104 = .ok (.ireturn, 1) := by decide +kernel
theorem dX4_init_0 : decode cX4_init 0 = .ok (.aload_n 0, 1) := by decide +kernel
theorem dX4_init_1 : decode cX4_init 1 = .ok (.invokespecial 1, 3) := by decide +kernel
theorem dX4_init_4 : decode cX4_init 4 = .ok (.aload_n 0, 1) := by decide +kernel
theorem dX4_init_5 : decode cX4_init 5 = .ok (.iload_n 1, 1) := by decide +kernel
theorem dX4_init_6 : decode cX4_init 6 = .ok (.putfield 7, 3) := by decide +kernel
theorem dX4_init_9 : decode cX4_init 9 = .ok (.aload_n 0, 1) := by decide +kernel
theorem dX4_init_10 : decode cX4_init 10 = .ok (.iload_n 2, 1) := by decide +kernel
theorem dX4_init_11 : decode cX4_init 11 = .ok (.putfield 13, 3) := by decide +kernel
theorem dX4_init_14 : decode cX4_init 14 = .ok (.aload_n 0, 1) := by decide +kernel
theorem dX4_init_15 : decode cX4_init 15 = .ok (.iload_n 3, 1) := by decide +kernel
theorem dX4_init_16 : decode cX4_init 16 = .ok (.ldc 16, 2) := by decide +kernel
theorem dX4_init_18 : decode cX4_init 18 = .ok (.idiv, 1) := by decide +kernel
theorem dX4_init_19 : decode cX4_init 19 = .ok (.putfield 17, 3) := by decide +kernel
theorem dX4_init_22 : decode cX4_init 22 = .ok (.aload_n 0, 1) := by decide +kernel
theorem dX4_init_23 : decode cX4_init 23 = .ok (.iload_n 3, 1) := by decide +kernel
theorem dX4_init_24 : decode cX4_init 24 = .ok (.ldc 20, 2) := by decide +kernel
theorem dX4_init_26 : decode cX4_init 26 = .ok (.idiv, 1) := by decide +kernel
theorem dX4_init_27 : decode cX4_init 27 = .ok (.bipush 10, 2) := by decide +kernel
theorem dX4_init_29 : decode cX4_init 29 = .ok (.irem, 1) := by decide +kernel
theorem dX4_init_30 : decode cX4_init 30 = .ok (.putfield 21, 3) := by decide +kernel
theorem dX4_init_33 : decode cX4_init 33 = .ok (.aload_n 0, 1) := by decide +kernel
theorem dX4_init_34 : decode cX4_init 34 = .ok (.iload_n 3, 1) := by decide +kernel
theorem dX4_init_35 : decode cX4_init 35 = .ok (.sipush 10000, 3) := by decide +kernel
theorem dX4_init_38 : decode cX4_init 38 = .ok (.idiv, 1) := by decide +kernel
theorem dX4_init_39 : decode cX4_init 39 = .ok (.bipush 10, 2) := by decide +kernel
theorem dX4_init_41 : decode cX4_init 41 = .ok (.irem, 1) := by decide +kernel
theorem dX4_init_42 : decode cX4_init 42 = .ok (.putfield 24, 3) := by decide +kernel
theorem dX4_init_45 : decode cX4_init 45 = .ok (.aload_n 0, 1) := by decide +kernel
theorem dX4_init_46 : decode cX4_init 46 = .ok (.iload_n 3, 1) := by decide +kernel
theorem dX4_init_47 : decode cX4_init 47 = .ok (.sipush 1000, 3) := by decide +kernel
theorem dX4_init_50 : decode cX4_init 50 = .ok (.idiv, 1) := by decide +kernel
theorem dX4_init_51 : decode cX4_init 51 = .ok (.bipush 10, 2) := by decide +kernel
theorem dX4_init_53 : decode cX4_init 53 = .ok (.irem, 1) := by decide +kernel
theorem dX4_init_54 : decode cX4_init 54 = .ok (.putfield 27, 3) := by decide +kernel
theorem dX4_init_57 : decode cX4_init 57 = .ok (.aload_n 0, 1) := by decide +kernel
theorem dX4_init_58 : decode cX4_init 58 = .ok (.iload_n 3, 1) := by decide +kernel
theorem dX4_init_59 : decode cX4_init 59 = .ok (.sipush 1000, 3) := by decide +kernel
theorem dX4_init_62 : decode cX4_init 62 = .ok (.irem, 1) := by decide +kernel
theorem dX4_init_63 : decode cX4_init 63 = .ok (.putfield 30, 3) := by decide +kernel
theorem dX4_init_66 : decode cX4_init 66 = .ok (.aload_n 0, 1) := by decide +kernel
theorem dX4_init_67 : decode cX4_init 67 = .ok (.iload 4, 2) := by decide +kernel
theorem dX4_init_69 : decode cX4_init 69 = .ok (.putfield 33, 3) := by decide +kernel
theorem dX4_init_72 : decode cX4_init 72 = .ok (.return_, 1) := by decide +kernel
theorem dX4_canBe_0 : decode cX4_canBe 0 = .ok (.iload_n 0, 1) := by decide +kernel
theorem dX4_canBe_1 : decode cX4_canBe 1 = .ok (.ifCond .lt 82, 3) := by decide +kernel
theorem dX4_canBe_4 : decode cX4_canBe 4 = .ok (.iload_n 0, 1) := by decide +kernel
theorem dX4_canBe_5 : decode cX4_canBe 5 = .ok (.ldc 16, 2) := by decide +kernel
theorem dX4_canBe_7 : decode cX4_canBe 7 = .ok (.idiv, 1) := by decide +kernel
theorem dX4_canBe_8 : decode cX4_canBe 8 = .ok (.bipush 30, 2) := by decide +kernel
theorem dX4_canBe_10 : decode cX4_canBe 10 = .ok (.if_icmp .gt 73, 3) := by decide +kernel
theorem dX4_canBe_13 : decode cX4_canBe 13 = .ok (.iload_n 0, 1) := by decide +kernel
theorem dX4_canBe_14 : decode cX4_canBe 14 = .ok (.ldc 20, 2) := by decide +kernel
theorem dX4_canBe_16 : decode cX4_canBe 16 = .ok (.idiv, 1) := by decide +kernel
theorem dX4_canBe_17 : decode cX4_canBe 17 = .ok (.bipush 10, 2) := by decide +kernel
theorem dX4_canBe_19 : decode cX4_canBe 19 = .ok (.irem, 1) := by decide +kernel
theorem dX4_canBe_20 : decode cX4_canBe 20 = .ok (.iconst 3, 1) := by decide +kernel
theorem dX4_canBe_21 : decode cX4_canBe 21 = .ok (.if_icmp .gt 62, 3) := by decide +kernel
theorem dX4_canBe_24 : decode cX4_canBe 24 = .ok (.iload_n 0, 1) := by decide +kernel
theorem dX4_canBe_25 : decode cX4_canBe 25 = .ok (.sipush 10000, 3) := by decide +kernel
theorem dX4_canBe_28 : decode cX4_canBe 28 = .ok (.idiv, 1) := by decide +kernel
theorem dX4_canBe_29 : decode cX4_canBe 29 = .ok (.bipush 10, 2) := by decide +kernel
theorem dX4_canBe_31 : decode cX4_canBe 31 = .ok (.irem, 1) := by decide +kernel
theorem dX4_canBe_32 : decode cX4_canBe 32 = .ok (.bipush 7, 2) := by decide +kernel
theorem dX4_canBe_34 : decode cX4_canBe 34 = .ok (.if_icmp .gt 49, 3) := by decide +kernel
theorem dX4_canBe_37 : decode cX4_canBe 37 = .ok (.iload_n 0, 1) := by decide +kernel
theorem dX4_canBe_38 : decode cX4_canBe 38 = .ok (.sipush 1000, 3) := by decide +kernel
theorem dX4_canBe_41 : decode cX4_canBe 41 = .ok (.idiv, 1) := by decide +kernel
theorem dX4_canBe_42 : decode cX4_canBe 42 = .ok (.bipush 10, 2) := by decide +kernel
theorem dX4_canBe_44 : decode cX4_canBe 44 = .ok (.irem, 1) := by decide +kernel
theorem dX4_canBe_45 : decode cX4_canBe 45 = .ok (.iconst 2, 1) := by decide +kernel
theorem dX4_canBe_46 : decode cX4_canBe 46 = .ok (.if_icmp .gt 37, 3) := by decide +kernel
theorem dX4_canBe_49 : decode cX4_canBe 49 = .ok (.iload_n 0, 1) := by decide +kernel
theorem dX4_canBe_50 : decode cX4_canBe 50 = .ok (.sipush 1000, 3) := by decide +kernel
theorem dX4_canBe_53 : decode cX4_canBe 53 = .ok (.irem, 1) := by decide +kernel
theorem dX4_canBe_54 : decode cX4_canBe 54 = .ok (.iconst 1, 1) := by decide +kernel
theorem dX4_canBe_55 : decode cX4_canBe 55 = .ok (.if_icmp .lt 28, 3) := by decide +kernel
theorem dX4_canBe_58 : decode cX4_canBe 58 = .ok (.iload_n 0, 1) := by decide +kernel
theorem dX4_canBe_59 : decode cX4_canBe 59 = .ok (.sipush 1000, 3) := by decide +kernel
theorem dX4_canBe_62 : decode cX4_canBe 62 = .ok (.irem, 1) := by decide +kernel
theorem dX4_canBe_63 : decode cX4_canBe 63 = .ok (.sipush 400, 3) := by decide +kernel
theorem dX4_canBe_66 : decode cX4_canBe 66 = .ok (.if_icmp .gt 17, 3) := by decide +kernel
theorem dX4_canBe_69 : decode cX4_canBe 69 = .ok (.iload_n 1, 1) := by decide +kernel
theorem dX4_canBe_70 : decode cX4_canBe 70 = .ok (.ifCond .lt 13, 3) := by decide +kernel
theorem dX4_canBe_73 : decode cX4_canBe 73 = .ok (.iload_n 1, 1) := by decide +kernel
theorem dX4_canBe_74 : decode cX4_canBe 74 = .ok (.bipush 30, 2) := by decide +kernel
theorem dX4_canBe_76 : decode cX4_canBe 76 = .ok (.if_icmp .gt 7, 3) := by decide +kernel
theorem dX4_canBe_79 : decode cX4_canBe 79 = .ok (.iconst 1, 1) := by decide +kernel
theorem dX4_canBe_80 : decode cX4_canBe 80 = .ok (.goto 4, 3) := by decide +kernel
theorem dX4_canBe_83 : decode cX4_canBe 83 = .ok (.iconst 0, 1) := by decide +kernel
theorem dX4_canBe_84 : decode cX4_canBe 84 = .ok (.ireturn, 1) := by decide +kernel
theorem dX4_wantsPaper_0 : decode cX4_wantsPaper 0 = .ok (.aload_n 0, 1) := by decide +kernel
theorem dX4_wantsPaper_1 : decode cX4_wantsPaper 1 = .ok (.getfield 24, 3) := by decide +kernel
theorem dX4_wantsPaper_4 : decode cX4_wantsPaper 4 = .ok (.iload_n 1, 1) := by decide +kernel
theorem dX4_wantsPaper_5 : decode cX4_wantsPaper 5 = .ok (.ishr, 1) := by decide +kernel
theorem dX4_wantsPaper_6 : decode cX4_wantsPaper 6 = .ok (.iconst 1, 1) := by decide +kernel
theorem dX4_wantsPaper_7 : decode cX4_wantsPaper 7 = .ok (.iand, 1) := by decide +kernel
theorem dX4_wantsPaper_8 : decode cX4_wantsPaper 8 = .ok (.ifCond .eq 7, 3) := by decide +kernel
theorem dX4_wantsPaper_11 : decode cX4_wantsPaper 11 = .ok (.iconst 1, 1) := by decide +kernel
theorem dX4_wantsPaper_12 : decode cX4_wantsPaper 12 = .ok (.goto 4, 3) := by decide +kernel
theorem dX4_wantsPaper_15 : decode cX4_wantsPaper 15 = .ok (.iconst 0, 1) := by decide +kernel
theorem dX4_wantsPaper_16 : decode cX4_wantsPaper 16 = .ok (.ireturn, 1) := by decide +kernel
theorem dX5_init_0 : decode cX5_init 0 = .ok (.aload_n 0, 1) := by decide +kernel
theorem dX5_init_1 : decode cX5_init 1 = .ok (.invokespecial 3, 3) := by decide +kernel
theorem dX5_init_4 : decode cX5_init 4 = .ok (.aload_n 0, 1) := by decide +kernel
theorem dX5_init_5 : decode cX5_init 5 = .ok (.new 9, 3) := by decide +kernel
theorem dX5_init_8 : decode cX5_init 8 = .ok (.dup, 1) := by decide +kernel
theorem dX5_init_9 : decode cX5_init 9 = .ok (.invokespecial 11, 3) := by decide +kernel
theorem dX5_init_12 : decode cX5_init 12 = .ok (.putfield 12, 3) := by decide +kernel
theorem dX5_init_15 : decode cX5_init 15 = .ok (.aload_n 0, 1) := by decide +kernel
theorem dX5_init_16 : decode cX5_init 16 = .ok (.new 18, 3) := by decide +kernel
theorem dX5_init_19 : decode cX5_init 19 = .ok (.dup, 1) := by decide +kernel
theorem dX5_init_20 : decode cX5_init 20 = .ok (.iconst (-1), 1) := by decide +kernel
theorem dX5_init_21 : decode cX5_init 21 = .ok (.iconst (-1), 1) := by decide +kernel
theorem dX5_init_22 : decode cX5_init 22 = .ok (.iconst 1, 1) := by decide +kernel
theorem dX5_init_23 : decode cX5_init 23 = .ok (.iconst 0, 1) := by decide +kernel
theorem dX5_init_24 : decode cX5_init 24 = .ok (.invokespecial 20, 3) := by decide +kernel
theorem dX5_init_27 : decode cX5_init 27 = .ok (.putfield 23, 3) := by decide +kernel
theorem dX5_init_30 : decode cX5_init 30 = .ok (.return_, 1) := by decide +kernel
theorem dX5_isFull_0 : decode cX5_isFull 0 = .ok (.aload_n 0, 1) := by decide +kernel
theorem dX5_isFull_1 : decode cX5_isFull 1 = .ok (.getfield 12, 3) := by decide +kernel
theorem dX5_isFull_4 : decode cX5_isFull 4 = .ok (.invokevirtual 27, 3) := by decide +kernel
theorem dX5_isFull_7 : decode cX5_isFull 7 = .ok (.bipush 60, 2) := by decide +kernel
theorem dX5_isFull_9 : decode cX5_isFull 9 = .ok (.if_icmp .lt 7, 3) := by decide +kernel
theorem dX5_isFull_12 : decode cX5_isFull 12 = .ok (.iconst 1, 1) := by decide +kernel
theorem dX5_isFull_13 : decode cX5_isFull 13 = .ok (.goto 4, 3) := by decide +kernel
theorem dX5_isFull_16 : decode cX5_isFull 16 = .ok (.iconst 0, 1) := by decide +kernel
theorem dX5_isFull_17 : decode cX5_isFull 17 = .ok (.ireturn, 1) := by decide +kernel
theorem dX5_tell_0 : decode cX5_tell 0 = .ok (.aload_n 0, 1) := by decide +kernel
theorem dX5_tell_1 : decode cX5_tell 1 = .ok (.getfield 12, 3) := by decide +kernel
theorem dX5_tell_4 : decode cX5_tell 4 = .ok (.aload_n 1, 1) := by decide +kernel
theorem dX5_tell_5 : decode cX5_tell 5 = .ok (.invokevirtual 31, 3) := by decide +kernel
theorem dX5_tell_8 : decode cX5_tell 8 = .ok (.pop, 1) := by decide +kernel
theorem dX5_tell_9 : decode cX5_tell 9 = .ok (.return_, 1) := by decide +kernel
theorem dX5_inForce_0 : decode cX5_inForce 0 = .ok (.aload_n 0, 1) := by decide +kernel
theorem dX5_inForce_1 : decode cX5_inForce 1 = .ok (.getfield 23, 3) := by decide +kernel
theorem dX5_inForce_4 : decode cX5_inForce 4 = .ok (.astore_n 3, 1) := by decide +kernel
theorem dX5_inForce_5 : decode cX5_inForce 5 = .ok (.iconst 0, 1) := by decide +kernel
theorem dX5_inForce_6 : decode cX5_inForce 6 = .ok (.istore 4, 2) := by decide +kernel
theorem dX5_inForce_8 : decode cX5_inForce 8 = .ok (.iload 4, 2) := by decide +kernel
theorem dX5_inForce_10 : decode cX5_inForce 10 = .ok (.aload_n 0, 1) := by decide +kernel
theorem dX5_inForce_11 : decode cX5_inForce 11 = .ok (.getfield 12, 3) := by decide +kernel
theorem dX5_inForce_14 : decode cX5_inForce 14 = .ok (.invokevirtual 27, 3) := by decide +kernel
theorem dX5_inForce_17 : decode cX5_inForce 17 = .ok (.if_icmp .ge 56, 3) := by decide +kernel
theorem dX5_inForce_20 : decode cX5_inForce 20 = .ok (.aload_n 0, 1) := by decide +kernel
theorem dX5_inForce_21 : decode cX5_inForce 21 = .ok (.getfield 12, 3) := by decide +kernel
theorem dX5_inForce_24 : decode cX5_inForce 24 = .ok (.iload 4, 2) := by decide +kernel
theorem dX5_inForce_26 : decode cX5_inForce 26 = .ok (.invokevirtual 35, 3) := by decide +kernel
theorem dX5_inForce_29 : decode cX5_inForce 29 = .ok (.checkcast 18, 3) := by decide +kernel
theorem dX5_inForce_32 : decode cX5_inForce 32 = .ok (.astore 5, 2) := by decide +kernel
theorem dX5_inForce_34 : decode cX5_inForce 34 = .ok (.aload 5, 2) := by decide +kernel
theorem dX5_inForce_36 : decode cX5_inForce 36 = .ok (.getfield 39, 3) := by decide +kernel
theorem dX5_inForce_39 : decode cX5_inForce 39 = .ok (.iload_n 1, 1) := by decide +kernel
theorem dX5_inForce_40 : decode cX5_inForce 40 = .ok (.if_icmp .ne 27, 3) := by decide +kernel
theorem dX5_inForce_43 : decode cX5_inForce 43 = .ok (.aload 5, 2) := by decide +kernel
theorem dX5_inForce_45 : decode cX5_inForce 45 = .ok (.getfield 43, 3) := by decide +kernel
theorem dX5_inForce_48 : decode cX5_inForce 48 = .ok (.iload_n 2, 1) := by decide +kernel
theorem dX5_inForce_49 : decode cX5_inForce 49 = .ok (.if_icmp .gt 18, 3) := by decide +kernel
theorem dX5_inForce_52 : decode cX5_inForce 52 = .ok (.aload 5, 2) := by decide +kernel
theorem dX5_inForce_54 : decode cX5_inForce 54 = .ok (.getfield 43, 3) := by decide +kernel
theorem dX5_inForce_57 : decode cX5_inForce 57 = .ok (.aload_n 3, 1) := by decide +kernel
theorem dX5_inForce_58 : decode cX5_inForce 58 = .ok (.getfield 43, 3) := by decide +kernel
theorem dX5_inForce_61 : decode cX5_inForce 61 = .ok (.if_icmp .lt 6, 3) := by decide +kernel
theorem dX5_inForce_64 : decode cX5_inForce 64 = .ok (.aload 5, 2) := by decide +kernel
theorem dX5_inForce_66 : decode cX5_inForce 66 = .ok (.astore_n 3, 1) := by decide +kernel
theorem dX5_inForce_67 : decode cX5_inForce 67 = .ok (.iinc 4 1, 3) := by decide +kernel
theorem dX5_inForce_70 : decode cX5_inForce 70 = .ok (.goto (-62), 3) := by decide +kernel
theorem dX5_inForce_73 : decode cX5_inForce 73 = .ok (.aload_n 3, 1) := by decide +kernel
theorem dX5_inForce_74 : decode cX5_inForce 74 = .ok (.areturn, 1) := by decide +kernel
theorem dX6_init_0 : decode cX6_init 0 = .ok (.aload_n 0, 1) := by decide +kernel
theorem dX6_init_1 : decode cX6_init 1 = .ok (.invokespecial 3, 3) := by decide +kernel
theorem dX6_init_4 : decode cX6_init 4 = .ok (.aload_n 0, 1) := by decide +kernel
theorem dX6_init_5 : decode cX6_init 5 = .ok (.iload_n 1, 1) := by decide +kernel
theorem dX6_init_6 : decode cX6_init 6 = .ok (.putfield 9, 3) := by decide +kernel
theorem dX6_init_9 : decode cX6_init 9 = .ok (.aload_n 0, 1) := by decide +kernel
theorem dX6_init_10 : decode cX6_init 10 = .ok (.aload_n 2, 1) := by decide +kernel
theorem dX6_init_11 : decode cX6_init 11 = .ok (.putfield 15, 3) := by decide +kernel
theorem dX6_init_14 : decode cX6_init 14 = .ok (.aload_n 0, 1) := by decide +kernel
theorem dX6_init_15 : decode cX6_init 15 = .ok (.aload_n 3, 1) := by decide +kernel
theorem dX6_init_16 : decode cX6_init 16 = .ok (.putfield 19, 3) := by decide +kernel
theorem dX6_init_19 : decode cX6_init 19 = .ok (.aload_n 0, 1) := by decide +kernel
theorem dX6_init_20 : decode cX6_init 20 = .ok (.iload 4, 2) := by decide +kernel
theorem dX6_init_22 : decode cX6_init 22 = .ok (.putfield 22, 3) := by decide +kernel
theorem dX6_init_25 : decode cX6_init 25 = .ok (.aload_n 0, 1) := by decide +kernel
theorem dX6_init_26 : decode cX6_init 26 = .ok (.iconst 0, 1) := by decide +kernel
theorem dX6_init_27 : decode cX6_init 27 = .ok (.putfield 25, 3) := by decide +kernel
theorem dX6_init_30 : decode cX6_init 30 = .ok (.aload_n 0, 1) := by decide +kernel
theorem dX6_init_31 : decode cX6_init 31 = .ok (.iconst 0, 1) := by decide +kernel
theorem dX6_init_32 : decode cX6_init 32 = .ok (.putfield 28, 3) := by decide +kernel
theorem dX6_init_35 : decode cX6_init 35 = .ok (.aload_n 0, 1) := by decide +kernel
theorem dX6_init_36 : decode cX6_init 36 = .ok (.iconst (-1), 1) := by decide +kernel
theorem dX6_init_37 : decode cX6_init 37 = .ok (.putfield 31, 3) := by decide +kernel
theorem dX6_init_40 : decode cX6_init 40 = .ok (.aload_n 0, 1) := by decide +kernel
theorem dX6_init_41 : decode cX6_init 41 = .ok (.iconst (-1), 1) := by decide +kernel
theorem dX6_init_42 : decode cX6_init 42 = .ok (.putfield 34, 3) := by decide +kernel
theorem dX6_init_45 : decode cX6_init 45 = .ok (.return_, 1) := by decide +kernel
theorem dX6_isOf_0 : decode cX6_isOf 0 = .ok (.aload_n 0, 1) := by decide +kernel
theorem dX6_isOf_1 : decode cX6_isOf 1 = .ok (.getfield 15, 3) := by decide +kernel
theorem dX6_isOf_4 : decode cX6_isOf 4 = .ok (.aload_n 1, 1) := by decide +kernel
theorem dX6_isOf_5 : decode cX6_isOf 5 = .ok (.if_acmp .ne 11, 3) := by decide +kernel
theorem dX6_isOf_8 : decode cX6_isOf 8 = .ok (.aload_n 0, 1) := by decide +kernel
theorem dX6_isOf_9 : decode cX6_isOf 9 = .ok (.getfield 19, 3) := by decide +kernel
theorem dX6_isOf_12 : decode cX6_isOf 12 = .ok (.aload_n 2, 1) := by decide +kernel
theorem dX6_isOf_13 : decode cX6_isOf 13 = .ok (.if_acmp .eq 19, 3) := by decide +kernel
theorem dX6_isOf_16 : decode cX6_isOf 16 = .ok (.aload_n 0, 1) := by decide +kernel
theorem dX6_isOf_17 : decode cX6_isOf 17 = .ok (.getfield 15, 3) := by decide +kernel
theorem dX6_isOf_20 : decode cX6_isOf 20 = .ok (.aload_n 2, 1) := by decide +kernel
theorem dX6_isOf_21 : decode cX6_isOf 21 = .ok (.if_acmp .ne 15, 3) := by decide +kernel
theorem dX6_isOf_24 : decode cX6_isOf 24 = .ok (.aload_n 0, 1) := by decide +kernel
theorem dX6_isOf_25 : decode cX6_isOf 25 = .ok (.getfield 19, 3) := by decide +kernel
theorem dX6_isOf_28 : decode cX6_isOf 28 = .ok (.aload_n 1, 1) := by decide +kernel
theorem dX6_isOf_29 : decode cX6_isOf 29 = .ok (.if_acmp .ne 7, 3) := by decide +kernel
theorem dX6_isOf_32 : decode cX6_isOf 32 = .ok (.iconst 1, 1) := by decide +kernel
theorem dX6_isOf_33 : decode cX6_isOf 33 = .ok (.goto 4, 3) := by decide +kernel
theorem dX6_isOf_36 : decode cX6_isOf 36 = .ok (.iconst 0, 1) := by decide +kernel
theorem dX6_isOf_37 : decode cX6_isOf 37 = .ok (.ireturn, 1) := by decide +kernel
theorem dX6_isBooked_0 : decode cX6_isBooked 0 = .ok (.aload_n 0, 1) := by decide +kernel
theorem dX6_isBooked_1 : decode cX6_isBooked 1 = .ok (.getfield 31, 3) := by decide +kernel
theorem dX6_isBooked_4 : decode cX6_isBooked 4 = .ok (.iconst (-1), 1) := by decide +kernel
theorem dX6_isBooked_5 : decode cX6_isBooked 5 = .ok (.if_icmp .eq 7, 3) := by decide +kernel
theorem dX6_isBooked_8 : decode cX6_isBooked 8 = .ok (.iconst 1, 1) := by decide +kernel
theorem dX6_isBooked_9 : decode cX6_isBooked 9 = .ok (.goto 4, 3) := by decide +kernel
theorem dX6_isBooked_12 : decode cX6_isBooked 12 = .ok (.iconst 0, 1) := by decide +kernel
theorem dX6_isBooked_13 : decode cX6_isBooked 13 = .ok (.ireturn, 1) := by decide +kernel
theorem dX6_setBooking_0 : decode cX6_setBooking 0 = .ok (.aload_n 0, 1) := by decide +kernel
theorem dX6_setBooking_1 : decode cX6_setBooking 1 = .ok (.iload_n 1, 1) := by decide +kernel
theorem dX6_setBooking_2 : decode cX6_setBooking 2 = .ok (.putfield 31, 3) := by decide +kernel
theorem dX6_setBooking_5 : decode cX6_setBooking 5 = .ok (.aload_n 0, 1) := by decide +kernel
theorem dX6_setBooking_6 : decode cX6_setBooking 6 = .ok (.iload_n 2, 1) := by decide +kernel
theorem dX6_setBooking_7 : decode cX6_setBooking 7 = .ok (.putfield 34, 3) := by decide +kernel
theorem dX6_setBooking_10 : decode cX6_setBooking 10 = .ok (.return_, 1) := by decide +kernel
theorem dX7_init_0 : decode cX7_init 0 = .ok (.aload_n 0, 1) := by decide +kernel
theorem dX7_init_1 : decode cX7_init 1 = .ok (.invokespecial 1, 3) := by decide +kernel
theorem dX7_init_4 : decode cX7_init 4 = .ok (.aload_n 0, 1) := by decide +kernel
theorem dX7_init_5 : decode cX7_init 5 = .ok (.aload_n 1, 1) := by decide +kernel
theorem dX7_init_6 : decode cX7_init 6 = .ok (.putfield 7, 3) := by decide +kernel
theorem dX7_init_9 : decode cX7_init 9 = .ok (.aload_n 0, 1) := by decide +kernel
theorem dX7_init_10 : decode cX7_init 10 = .ok (.iconst 1, 1) := by decide +kernel
theorem dX7_init_11 : decode cX7_init 11 = .ok (.putfield 13, 3) := by decide +kernel
theorem dX7_init_14 : decode cX7_init 14 = .ok (.return_, 1) := by decide +kernel
theorem dX8_init_0 : decode cX8_init 0 = .ok (.aload_n 0, 1) := by decide +kernel
theorem dX8_init_1 : decode cX8_init 1 = .ok (.invokespecial 1, 3) := by decide +kernel
theorem dX8_init_4 : decode cX8_init 4 = .ok (.aload_n 0, 1) := by decide +kernel
theorem dX8_init_5 : decode cX8_init 5 = .ok (.iload_n 1, 1) := by decide +kernel
theorem dX8_init_6 : decode cX8_init 6 = .ok (.putfield 7, 3) := by decide +kernel
theorem dX8_init_9 : decode cX8_init 9 = .ok (.aload_n 0, 1) := by decide +kernel
theorem dX8_init_10 : decode cX8_init 10 = .ok (.iload_n 2, 1) := by decide +kernel
theorem dX8_init_11 : decode cX8_init 11 = .ok (.putfield 13, 3) := by decide +kernel
theorem dX8_init_14 : decode cX8_init 14 = .ok (.return_, 1) := by decide +kernel
theorem dX9_init_0 : decode cX9_init 0 = .ok (.aload_n 0, 1) := by decide +kernel
theorem dX9_init_1 : decode cX9_init 1 = .ok (.invokespecial 3, 3) := by decide +kernel
theorem dX9_init_4 : decode cX9_init 4 = .ok (.aload_n 0, 1) := by decide +kernel
theorem dX9_init_5 : decode cX9_init 5 = .ok (.iload_n 1, 1) := by decide +kernel
theorem dX9_init_6 : decode cX9_init 6 = .ok (.putfield 9, 3) := by decide +kernel
theorem dX9_init_9 : decode cX9_init 9 = .ok (.aload_n 0, 1) := by decide +kernel
theorem dX9_init_10 : decode cX9_init 10 = .ok (.iload_n 2, 1) := by decide +kernel
theorem dX9_init_11 : decode cX9_init 11 = .ok (.ldc 15, 2) := by decide +kernel
theorem dX9_init_13 : decode cX9_init 13 = .ok (.idiv, 1) := by decide +kernel
theorem dX9_init_14 : decode cX9_init 14 = .ok (.putfield 16, 3) := by decide +kernel
theorem dX9_init_17 : decode cX9_init 17 = .ok (.aload_n 0, 1) := by decide +kernel
theorem dX9_init_18 : decode cX9_init 18 = .ok (.iload_n 2, 1) := by decide +kernel
theorem dX9_init_19 : decode cX9_init 19 = .ok (.sipush 10000, 3) := by decide +kernel
theorem dX9_init_22 : decode cX9_init 22 = .ok (.idiv, 1) := by decide +kernel
theorem dX9_init_23 : decode cX9_init 23 = .ok (.bipush 100, 2) := by decide +kernel
theorem dX9_init_25 : decode cX9_init 25 = .ok (.irem, 1) := by decide +kernel
theorem dX9_init_26 : decode cX9_init 26 = .ok (.putfield 19, 3) := by decide +kernel
theorem dX9_init_29 : decode cX9_init 29 = .ok (.aload_n 0, 1) := by decide +kernel
theorem dX9_init_30 : decode cX9_init 30 = .ok (.iload_n 2, 1) := by decide +kernel
theorem dX9_init_31 : decode cX9_init 31 = .ok (.sipush 10000, 3) := by decide +kernel
theorem dX9_init_34 : decode cX9_init 34 = .ok (.irem, 1) := by decide +kernel
theorem dX9_init_35 : decode cX9_init 35 = .ok (.putfield 22, 3) := by decide +kernel
theorem dX9_init_38 : decode cX9_init 38 = .ok (.aload_n 0, 1) := by decide +kernel
theorem dX9_init_39 : decode cX9_init 39 = .ok (.iload_n 3, 1) := by decide +kernel
theorem dX9_init_40 : decode cX9_init 40 = .ok (.putfield 25, 3) := by decide +kernel
theorem dX9_init_43 : decode cX9_init 43 = .ok (.aload_n 0, 1) := by decide +kernel
theorem dX9_init_44 : decode cX9_init 44 = .ok (.aload 4, 2) := by decide +kernel
theorem dX9_init_46 : decode cX9_init 46 = .ok (.putfield 28, 3) := by decide +kernel
theorem dX9_init_49 : decode cX9_init 49 = .ok (.aload_n 0, 1) := by decide +kernel
theorem dX9_init_50 : decode cX9_init 50 = .ok (.aload 5, 2) := by decide +kernel
theorem dX9_init_52 : decode cX9_init 52 = .ok (.putfield 32, 3) := by decide +kernel
theorem dX9_init_55 : decode cX9_init 55 = .ok (.aload_n 0, 1) := by decide +kernel
theorem dX9_init_56 : decode cX9_init 56 = .ok (.new 35, 3) := by decide +kernel
theorem dX9_init_59 : decode cX9_init 59 = .ok (.dup, 1) := by decide +kernel
theorem dX9_init_60 : decode cX9_init 60 = .ok (.invokespecial 37, 3) := by decide +kernel
theorem dX9_init_63 : decode cX9_init 63 = .ok (.putfield 38, 3) := by decide +kernel
theorem dX9_init_66 : decode cX9_init 66 = .ok (.aload_n 0, 1) := by decide +kernel
theorem dX9_init_67 : decode cX9_init 67 = .ok (.aconst_null, 1) := by decide +kernel
theorem dX9_init_68 : decode cX9_init 68 = .ok (.putfield 42, 3) := by decide +kernel
theorem dX9_init_71 : decode cX9_init 71 = .ok (.return_, 1) := by decide +kernel
theorem dX9_canBe_0 : decode cX9_canBe 0 = .ok (.iload_n 0, 1) := by decide +kernel
theorem dX9_canBe_1 : decode cX9_canBe 1 = .ok (.ifCond .lt 38, 3) := by decide +kernel
theorem dX9_canBe_4 : decode cX9_canBe 4 = .ok (.iload_n 0, 1) := by decide +kernel
theorem dX9_canBe_5 : decode cX9_canBe 5 = .ok (.ldc 15, 2) := by decide +kernel
theorem dX9_canBe_7 : decode cX9_canBe 7 = .ok (.idiv, 1) := by decide +kernel
theorem dX9_canBe_8 : decode cX9_canBe 8 = .ok (.bipush 6, 2) := by decide +kernel
theorem dX9_canBe_10 : decode cX9_canBe 10 = .ok (.if_icmp .ge 29, 3) := by decide +kernel
theorem dX9_canBe_13 : decode cX9_canBe 13 = .ok (.iload_n 0, 1) := by decide +kernel
theorem dX9_canBe_14 : decode cX9_canBe 14 = .ok (.sipush 10000, 3) := by decide +kernel
theorem dX9_canBe_17 : decode cX9_canBe 17 = .ok (.idiv, 1) := by decide +kernel
theorem dX9_canBe_18 : decode cX9_canBe 18 = .ok (.bipush 100, 2) := by decide +kernel
theorem dX9_canBe_20 : decode cX9_canBe 20 = .ok (.irem, 1) := by decide +kernel
theorem dX9_canBe_21 : decode cX9_canBe 21 = .ok (.bipush 31, 2) := by decide +kernel
theorem dX9_canBe_23 : decode cX9_canBe 23 = .ok (.if_icmp .gt 16, 3) := by decide +kernel
theorem dX9_canBe_26 : decode cX9_canBe 26 = .ok (.iload_n 0, 1) := by decide +kernel
theorem dX9_canBe_27 : decode cX9_canBe 27 = .ok (.sipush 10000, 3) := by decide +kernel
theorem dX9_canBe_30 : decode cX9_canBe 30 = .ok (.irem, 1) := by decide +kernel
theorem dX9_canBe_31 : decode cX9_canBe 31 = .ok (.iconst 1, 1) := by decide +kernel
theorem dX9_canBe_32 : decode cX9_canBe 32 = .ok (.if_icmp .lt 7, 3) := by decide +kernel
theorem dX9_canBe_35 : decode cX9_canBe 35 = .ok (.iconst 1, 1) := by decide +kernel
theorem dX9_canBe_36 : decode cX9_canBe 36 = .ok (.goto 4, 3) := by decide +kernel
theorem dX9_canBe_39 : decode cX9_canBe 39 = .ok (.iconst 0, 1) := by decide +kernel
theorem dX9_canBe_40 : decode cX9_canBe 40 = .ok (.ireturn, 1) := by decide +kernel
theorem dX9_isChildOf_0 : decode cX9_isChildOf 0 = .ok (.aload_n 0, 1) := by decide +kernel
theorem dX9_isChildOf_1 : decode cX9_isChildOf 1 = .ok (.getfield 28, 3) := by decide +kernel
theorem dX9_isChildOf_4 : decode cX9_isChildOf 4 = .ok (.aload_n 1, 1) := by decide +kernel
theorem dX9_isChildOf_5 : decode cX9_isChildOf 5 = .ok (.if_acmp .eq 11, 3) := by decide +kernel
theorem dX9_isChildOf_8 : decode cX9_isChildOf 8 = .ok (.aload_n 0, 1) := by decide +kernel
theorem dX9_isChildOf_9 : decode cX9_isChildOf 9 = .ok (.getfield 32, 3) := by decide +kernel
theorem dX9_isChildOf_12 : decode cX9_isChildOf 12 = .ok (.aload_n 1, 1) := by decide +kernel
theorem dX9_isChildOf_13 : decode cX9_isChildOf 13 = .ok (.if_acmp .ne 7, 3) := by decide +kernel
theorem dX9_isChildOf_16 : decode cX9_isChildOf 16 = .ok (.iconst 1, 1) := by decide +kernel
theorem dX9_isChildOf_17 : decode cX9_isChildOf 17 = .ok (.goto 4, 3) := by decide +kernel
theorem dX9_isChildOf_20 : decode cX9_isChildOf 20 = .ok (.iconst 0, 1) := by decide +kernel
theorem dX9_isChildOf_21 : decode cX9_isChildOf 21 = .ok (.ireturn, 1) := by decide +kernel
theorem dX9_sharesParentWith_0 : decode cX9_sharesParentWith 0 = .ok (.aload_n 0, 1) := by decide +kernel
theorem dX9_sharesParentWith_1 : decode cX9_sharesParentWith 1 = .ok (.getfield 28, 3) := by decide +kernel
theorem dX9_sharesParentWith_4 : decode cX9_sharesParentWith 4 = .ok (.ifnull 14, 3) := by decide +kernel
theorem dX9_sharesParentWith_7 : decode cX9_sharesParentWith 7 = .ok (.aload_n 0, 1) := by decide +kernel
theorem dX9_sharesParentWith_8 : decode cX9_sharesParentWith 8 = .ok (.getfield 28, 3) := by decide +kernel
theorem dX9_sharesParentWith_11 : decode cX9_sharesParentWith 11 = .ok (.aload_n 1, 1) := by decide +kernel
theorem dX9_sharesParentWith_12 : decode cX9_sharesParentWith 12 = .ok (.getfield 28, 3) := by decide +kernel
theorem dX9_sharesParentWith_15 : decode cX9_sharesParentWith 15 = .ok (.if_acmp .eq 21, 3) := by decide +kernel
theorem dX9_sharesParentWith_18 : decode cX9_sharesParentWith 18 = .ok (.aload_n 0, 1) := by decide +kernel
theorem dX9_sharesParentWith_19 : decode cX9_sharesParentWith 19 = .ok (.getfield 32, 3) := by decide +kernel
theorem dX9_sharesParentWith_22 : decode cX9_sharesParentWith 22 = .ok (.ifnull 18, 3) := by decide +kernel
theorem dX9_sharesParentWith_25 : decode cX9_sharesParentWith 25 = .ok (.aload_n 0, 1) := by decide +kernel
theorem dX9_sharesParentWith_26 : decode cX9_sharesParentWith 26 = .ok (.getfield 32, 3) := by decide +kernel
theorem dX9_sharesParentWith_29 : decode cX9_sharesParentWith 29 = .ok (.aload_n 1, 1) := by decide +kernel
theorem dX9_sharesParentWith_30 : decode cX9_sharesParentWith 30 = .ok (.getfield 32, 3) := by decide +kernel
theorem dX9_sharesParentWith_33 : decode cX9_sharesParentWith 33 = .ok (.if_acmp .ne 7, 3) := by decide +kernel
theorem dX9_sharesParentWith_36 : decode cX9_sharesParentWith 36 = .ok (.iconst 1, 1) := by decide +kernel
theorem dX9_sharesParentWith_37 : decode cX9_sharesParentWith 37 = .ok (.goto 4, 3) := by decide +kernel
theorem dX9_sharesParentWith_40 : decode cX9_sharesParentWith 40 = .ok (.iconst 0, 1) := by decide +kernel
theorem dX9_sharesParentWith_41 : decode cX9_sharesParentWith 41 = .ok (.ireturn, 1) := by decide +kernel
theorem dX9_hasPaper_0 : decode cX9_hasPaper 0 = .ok (.iconst 0, 1) := by decide +kernel
theorem dX9_hasPaper_1 : decode cX9_hasPaper 1 = .ok (.istore 4, 2) := by decide +kernel
theorem dX9_hasPaper_3 : decode cX9_hasPaper 3 = .ok (.iload 4, 2) := by decide +kernel
theorem dX9_hasPaper_5 : decode cX9_hasPaper 5 = .ok (.aload_n 0, 1) := by decide +kernel
theorem dX9_hasPaper_6 : decode cX9_hasPaper 6 = .ok (.getfield 38, 3) := by decide +kernel
theorem dX9_hasPaper_9 : decode cX9_hasPaper 9 = .ok (.invokevirtual 45, 3) := by decide +kernel
theorem dX9_hasPaper_12 : decode cX9_hasPaper 12 = .ok (.if_icmp .ge 54, 3) := by decide +kernel
theorem dX9_hasPaper_15 : decode cX9_hasPaper 15 = .ok (.aload_n 0, 1) := by decide +kernel
theorem dX9_hasPaper_16 : decode cX9_hasPaper 16 = .ok (.getfield 38, 3) := by decide +kernel
theorem dX9_hasPaper_19 : decode cX9_hasPaper 19 = .ok (.iload 4, 2) := by decide +kernel
theorem dX9_hasPaper_21 : decode cX9_hasPaper 21 = .ok (.invokevirtual 49, 3) := by decide +kernel
theorem dX9_hasPaper_24 : decode cX9_hasPaper 24 = .ok (.checkcast 53, 3) := by decide +kernel
theorem dX9_hasPaper_27 : decode cX9_hasPaper 27 = .ok (.astore 5, 2) := by decide +kernel
theorem dX9_hasPaper_29 : decode cX9_hasPaper 29 = .ok (.aload 5, 2) := by decide +kernel
theorem dX9_hasPaper_31 : decode cX9_hasPaper 31 = .ok (.getfield 55, 3) := by decide +kernel
theorem dX9_hasPaper_34 : decode cX9_hasPaper 34 = .ok (.iload_n 1, 1) := by decide +kernel
theorem dX9_hasPaper_35 : decode cX9_hasPaper 35 = .ok (.if_icmp .ne 25, 3) := by decide +kernel
theorem dX9_hasPaper_38 : decode cX9_hasPaper 38 = .ok (.aload 5, 2) := by decide +kernel
theorem dX9_hasPaper_40 : decode cX9_hasPaper 40 = .ok (.getfield 58, 3) := by decide +kernel
theorem dX9_hasPaper_43 : decode cX9_hasPaper 43 = .ok (.iload_n 2, 1) := by decide +kernel
theorem dX9_hasPaper_44 : decode cX9_hasPaper 44 = .ok (.if_icmp .gt 16, 3) := by decide +kernel
theorem dX9_hasPaper_47 : decode cX9_hasPaper 47 = .ok (.iload_n 3, 1) := by decide +kernel
theorem dX9_hasPaper_48 : decode cX9_hasPaper 48 = .ok (.iload_n 2, 1) := by decide +kernel
theorem dX9_hasPaper_49 : decode cX9_hasPaper 49 = .ok (.aload 5, 2) := by decide +kernel
theorem dX9_hasPaper_51 : decode cX9_hasPaper 51 = .ok (.getfield 58, 3) := by decide +kernel
theorem dX9_hasPaper_54 : decode cX9_hasPaper 54 = .ok (.isub, 1) := by decide +kernel
theorem dX9_hasPaper_55 : decode cX9_hasPaper 55 = .ok (.if_icmp .le 5, 3) := by decide +kernel
theorem dX9_hasPaper_58 : decode cX9_hasPaper 58 = .ok (.iconst 1, 1) := by decide +kernel
theorem dX9_hasPaper_59 : decode cX9_hasPaper 59 = .ok (.ireturn, 1) := by decide +kernel
theorem dX9_hasPaper_60 : decode cX9_hasPaper 60 = .ok (.iinc 4 1, 3) := by decide +kernel
theorem dX9_hasPaper_63 : decode cX9_hasPaper 63 = .ok (.goto (-60), 3) := by decide +kernel
theorem dX9_hasPaper_66 : decode cX9_hasPaper 66 = .ok (.iconst 0, 1) := by decide +kernel
theorem dX9_hasPaper_67 : decode cX9_hasPaper 67 = .ok (.ireturn, 1) := by decide +kernel
theorem dJ13_bitCount_95d88_0 : decode cJ13_bitCount_95d88 0 = .ok (.lload_n 0, 1) := by decide +kernel
theorem dJ13_bitCount_95d88_1 : decode cJ13_bitCount_95d88 1 = .ok (.lload_n 0, 1) := by decide +kernel
theorem dJ13_bitCount_95d88_2 : decode cJ13_bitCount_95d88 2 = .ok (.iconst 1, 1) := by decide +kernel
theorem dJ13_bitCount_95d88_3 : decode cJ13_bitCount_95d88 3 = .ok (.lushr, 1) := by decide +kernel
theorem dJ13_bitCount_95d88_4 : decode cJ13_bitCount_95d88 4 = .ok (.ldc2_w 314, 3) := by decide +kernel
theorem dJ13_bitCount_95d88_7 : decode cJ13_bitCount_95d88 7 = .ok (.land, 1) := by decide +kernel
theorem dJ13_bitCount_95d88_8 : decode cJ13_bitCount_95d88 8 = .ok (.lsub, 1) := by decide +kernel
theorem dJ13_bitCount_95d88_9 : decode cJ13_bitCount_95d88 9 = .ok (.lstore_n 0, 1) := by decide +kernel
theorem dJ13_bitCount_95d88_10 : decode cJ13_bitCount_95d88 10 = .ok (.lload_n 0, 1) := by decide +kernel
theorem dJ13_bitCount_95d88_11 : decode cJ13_bitCount_95d88 11 = .ok (.ldc2_w 316, 3) := by decide +kernel
theorem dJ13_bitCount_95d88_14 : decode cJ13_bitCount_95d88 14 = .ok (.land, 1) := by decide +kernel
theorem dJ13_bitCount_95d88_15 : decode cJ13_bitCount_95d88 15 = .ok (.lload_n 0, 1) := by decide +kernel
theorem dJ13_bitCount_95d88_16 : decode cJ13_bitCount_95d88 16 = .ok (.iconst 2, 1) := by decide +kernel
theorem dJ13_bitCount_95d88_17 : decode cJ13_bitCount_95d88 17 = .ok (.lushr, 1) := by decide +kernel
theorem dJ13_bitCount_95d88_18 : decode cJ13_bitCount_95d88 18 = .ok (.ldc2_w 316, 3) := by decide +kernel
theorem dJ13_bitCount_95d88_21 : decode cJ13_bitCount_95d88 21 = .ok (.land, 1) := by decide +kernel
theorem dJ13_bitCount_95d88_22 : decode cJ13_bitCount_95d88 22 = .ok (.ladd, 1) := by decide +kernel
theorem dJ13_bitCount_95d88_23 : decode cJ13_bitCount_95d88 23 = .ok (.lstore_n 0, 1) := by decide +kernel
theorem dJ13_bitCount_95d88_24 : decode cJ13_bitCount_95d88 24 = .ok (.lload_n 0, 1) := by decide +kernel
theorem dJ13_bitCount_95d88_25 : decode cJ13_bitCount_95d88 25 = .ok (.lload_n 0, 1) := by decide +kernel
theorem dJ13_bitCount_95d88_26 : decode cJ13_bitCount_95d88 26 = .ok (.iconst 4, 1) := by decide +kernel
theorem dJ13_bitCount_95d88_27 : decode cJ13_bitCount_95d88 27 = .ok (.lushr, 1) := by decide +kernel
theorem dJ13_bitCount_95d88_28 : decode cJ13_bitCount_95d88 28 = .ok (.ladd, 1) := by decide +kernel
theorem dJ13_bitCount_95d88_29 : decode cJ13_bitCount_95d88 29 = .ok (.ldc2_w 318, 3) := by decide +kernel
theorem dJ13_bitCount_95d88_32 : decode cJ13_bitCount_95d88 32 = .ok (.land, 1) := by decide +kernel
theorem dJ13_bitCount_95d88_33 : decode cJ13_bitCount_95d88 33 = .ok (.lstore_n 0, 1) := by decide +kernel
theorem dJ13_bitCount_95d88_34 : decode cJ13_bitCount_95d88 34 = .ok (.lload_n 0, 1) := by decide +kernel
theorem dJ13_bitCount_95d88_35 : decode cJ13_bitCount_95d88 35 = .ok (.lload_n 0, 1) := by decide +kernel
theorem dJ13_bitCount_95d88_36 : decode cJ13_bitCount_95d88 36 = .ok (.bipush 8, 2) := by decide +kernel
theorem dJ13_bitCount_95d88_38 : decode cJ13_bitCount_95d88 38 = .ok (.lushr, 1) := by decide +kernel
theorem dJ13_bitCount_95d88_39 : decode cJ13_bitCount_95d88 39 = .ok (.ladd, 1) := by decide +kernel
theorem dJ13_bitCount_95d88_40 : decode cJ13_bitCount_95d88 40 = .ok (.lstore_n 0, 1) := by decide +kernel
theorem dJ13_bitCount_95d88_41 : decode cJ13_bitCount_95d88 41 = .ok (.lload_n 0, 1) := by decide +kernel
theorem dJ13_bitCount_95d88_42 : decode cJ13_bitCount_95d88 42 = .ok (.lload_n 0, 1) := by decide +kernel
theorem dJ13_bitCount_95d88_43 : decode cJ13_bitCount_95d88 43 = .ok (.bipush 16, 2) := by decide +kernel
theorem dJ13_bitCount_95d88_45 : decode cJ13_bitCount_95d88 45 = .ok (.lushr, 1) := by decide +kernel
theorem dJ13_bitCount_95d88_46 : decode cJ13_bitCount_95d88 46 = .ok (.ladd, 1) := by decide +kernel
theorem dJ13_bitCount_95d88_47 : decode cJ13_bitCount_95d88 47 = .ok (.lstore_n 0, 1) := by decide +kernel
theorem dJ13_bitCount_95d88_48 : decode cJ13_bitCount_95d88 48 = .ok (.lload_n 0, 1) := by decide +kernel
theorem dJ13_bitCount_95d88_49 : decode cJ13_bitCount_95d88 49 = .ok (.lload_n 0, 1) := by decide +kernel
theorem dJ13_bitCount_95d88_50 : decode cJ13_bitCount_95d88 50 = .ok (.bipush 32, 2) := by decide +kernel
theorem dJ13_bitCount_95d88_52 : decode cJ13_bitCount_95d88 52 = .ok (.lushr, 1) := by decide +kernel
theorem dJ13_bitCount_95d88_53 : decode cJ13_bitCount_95d88 53 = .ok (.ladd, 1) := by decide +kernel
theorem dJ13_bitCount_95d88_54 : decode cJ13_bitCount_95d88 54 = .ok (.lstore_n 0, 1) := by decide +kernel
theorem dJ13_bitCount_95d88_55 : decode cJ13_bitCount_95d88 55 = .ok (.lload_n 0, 1) := by decide +kernel
theorem dJ13_bitCount_95d88_56 : decode cJ13_bitCount_95d88 56 = .ok (.l2i, 1) := by decide +kernel
theorem dJ13_bitCount_95d88_57 : decode cJ13_bitCount_95d88 57 = .ok (.bipush 127, 2) := by decide +kernel
theorem dJ13_bitCount_95d88_59 : decode cJ13_bitCount_95d88 59 = .ok (.iand, 1) := by decide +kernel
theorem dJ13_bitCount_95d88_60 : decode cJ13_bitCount_95d88 60 = .ok (.ireturn, 1) := by decide +kernel
theorem dJ9_max_7cf53_0 : decode cJ9_max_7cf53 0 = .ok (.iload_n 0, 1) := by decide +kernel
theorem dJ9_max_7cf53_1 : decode cJ9_max_7cf53 1 = .ok (.iload_n 1, 1) := by decide +kernel
theorem dJ9_max_7cf53_2 : decode cJ9_max_7cf53 2 = .ok (.if_icmp .lt 7, 3) := by decide +kernel
theorem dJ9_max_7cf53_5 : decode cJ9_max_7cf53 5 = .ok (.iload_n 0, 1) := by decide +kernel
theorem dJ9_max_7cf53_6 : decode cJ9_max_7cf53 6 = .ok (.goto 4, 3) := by decide +kernel
theorem dJ9_max_7cf53_9 : decode cJ9_max_7cf53 9 = .ok (.iload_n 1, 1) := by decide +kernel
theorem dJ9_max_7cf53_10 : decode cJ9_max_7cf53 10 = .ok (.ireturn, 1) := by decide +kernel
theorem dJ9_min_7cf53_0 : decode cJ9_min_7cf53 0 = .ok (.iload_n 0, 1) := by decide +kernel
theorem dJ9_min_7cf53_1 : decode cJ9_min_7cf53 1 = .ok (.iload_n 1, 1) := by decide +kernel
theorem dJ9_min_7cf53_2 : decode cJ9_min_7cf53 2 = .ok (.if_icmp .gt 7, 3) := by decide +kernel
theorem dJ9_min_7cf53_5 : decode cJ9_min_7cf53 5 = .ok (.iload_n 0, 1) := by decide +kernel
theorem dJ9_min_7cf53_6 : decode cJ9_min_7cf53 6 = .ok (.goto 4, 3) := by decide +kernel
theorem dJ9_min_7cf53_9 : decode cJ9_min_7cf53 9 = .ok (.iload_n 1, 1) := by decide +kernel
theorem dJ9_min_7cf53_10 : decode cJ9_min_7cf53 10 = .ok (.ireturn, 1) := by decide +kernel
theorem dJxa1e45_init_da8c8_0 : decode cJxa1e45_init_da8c8 0 = .ok (.aload_n 0, 1) := by decide +kernel
theorem dJxa1e45_init_da8c8_1 : decode cJxa1e45_init_da8c8 1 = .ok (.invokespecial 1, 3) := by decide +kernel
theorem dJxa1e45_init_da8c8_4 : decode cJxa1e45_init_da8c8 4 = .ok (.return_, 1) := by decide +kernel
theorem dJxc12de_init_da8c8_0 : decode cJxc12de_init_da8c8 0 = .ok (.aload_n 0, 1) := by decide +kernel
theorem dJxc12de_init_da8c8_1 : decode cJxc12de_init_da8c8 1 = .ok (.invokespecial 1, 3) := by decide +kernel
theorem dJxc12de_init_da8c8_4 : decode cJxc12de_init_da8c8 4 = .ok (.aload_n 0, 1) := by decide +kernel
theorem dJxc12de_init_da8c8_5 : decode cJxc12de_init_da8c8 5 = .ok (.iconst 0, 1) := by decide +kernel
theorem dJxc12de_init_da8c8_6 : decode cJxc12de_init_da8c8 6 = .ok (.putfield 7, 3) := by decide +kernel
theorem dJxc12de_init_da8c8_9 : decode cJxc12de_init_da8c8 9 = .ok (.return_, 1) := by decide +kernel
theorem dJx4a65c_init_da8c8_0 : decode cJx4a65c_init_da8c8 0 = .ok (.aload_n 0, 1) := by decide +kernel
theorem dJx4a65c_init_da8c8_1 : decode cJx4a65c_init_da8c8 1 = .ok (.invokespecial 1, 3) := by decide +kernel
theorem dJx4a65c_init_da8c8_4 : decode cJx4a65c_init_da8c8 4 = .ok (.aload_n 0, 1) := by decide +kernel
theorem dJx4a65c_init_da8c8_5 : decode cJx4a65c_init_da8c8 5 = .ok (.getstatic 39, 3) := by decide +kernel
theorem dJx4a65c_init_da8c8_8 : decode cJx4a65c_init_da8c8 8 = .ok (.putfield 9, 3) := by decide +kernel
theorem dJx4a65c_init_da8c8_11 : decode cJx4a65c_init_da8c8 11 = .ok (.return_, 1) := by decide +kernel
theorem dJx4a65c_grow_92f84_0 : decode cJx4a65c_grow_92f84 0 = .ok (.aload_n 0, 1) := by decide +kernel
theorem dJx4a65c_grow_92f84_1 : decode cJx4a65c_grow_92f84 1 = .ok (.getfield 9, 3) := by decide +kernel
theorem dJx4a65c_grow_92f84_4 : decode cJx4a65c_grow_92f84 4 = .ok (.arraylength, 1) := by decide +kernel
theorem dJx4a65c_grow_92f84_5 : decode cJx4a65c_grow_92f84 5 = .ok (.istore_n 2, 1) := by decide +kernel
theorem dJx4a65c_grow_92f84_6 : decode cJx4a65c_grow_92f84 6 = .ok (.iload_n 2, 1) := by decide +kernel
theorem dJx4a65c_grow_92f84_7 : decode cJx4a65c_grow_92f84 7 = .ok (.ifCond .gt 13, 3) := by decide +kernel
theorem dJx4a65c_grow_92f84_10 : decode cJx4a65c_grow_92f84 10 = .ok (.aload_n 0, 1) := by decide +kernel
theorem dJx4a65c_grow_92f84_11 : decode cJx4a65c_grow_92f84 11 = .ok (.getfield 9, 3) := by decide +kernel
theorem dJx4a65c_grow_92f84_14 : decode cJx4a65c_grow_92f84 14 = .ok (.getstatic 39, 3) := by decide +kernel
theorem dJx4a65c_grow_92f84_17 : decode cJx4a65c_grow_92f84 17 = .ok (.if_acmp .eq 28, 3) := by decide +kernel
theorem dJx4a65c_grow_92f84_20 : decode cJx4a65c_grow_92f84 20 = .ok (.iload_n 2, 1) := by decide +kernel
theorem dJx4a65c_grow_92f84_21 : decode cJx4a65c_grow_92f84 21 = .ok (.iload_n 1, 1) := by decide +kernel
theorem dJx4a65c_grow_92f84_22 : decode cJx4a65c_grow_92f84 22 = .ok (.iload_n 2, 1) := by decide +kernel
theorem dJx4a65c_grow_92f84_23 : decode cJx4a65c_grow_92f84 23 = .ok (.isub, 1) := by decide +kernel
theorem dJx4a65c_grow_92f84_24 : decode cJx4a65c_grow_92f84 24 = .ok (.iload_n 2, 1) := by decide +kernel
theorem dJx4a65c_grow_92f84_25 : decode cJx4a65c_grow_92f84 25 = .ok (.iconst 1, 1) := by decide +kernel
theorem dJx4a65c_grow_92f84_26 : decode cJx4a65c_grow_92f84 26 = .ok (.ishr, 1) := by decide +kernel
theorem dJx4a65c_grow_92f84_27 : decode cJx4a65c_grow_92f84 27 = .ok (.invokestatic 73, 3) := by decide +kernel
theorem dJx4a65c_grow_92f84_30 : decode cJx4a65c_grow_92f84 30 = .ok (.istore_n 3, 1) := by decide +kernel
theorem dJx4a65c_grow_92f84_31 : decode cJx4a65c_grow_92f84 31 = .ok (.aload_n 0, 1) := by decide +kernel
theorem dJx4a65c_grow_92f84_32 : decode cJx4a65c_grow_92f84 32 = .ok (.aload_n 0, 1) := by decide +kernel
theorem dJx4a65c_grow_92f84_33 : decode cJx4a65c_grow_92f84 33 = .ok (.getfield 9, 3) := by decide +kernel
theorem dJx4a65c_grow_92f84_36 : decode cJx4a65c_grow_92f84 36 = .ok (.iload_n 3, 1) := by decide +kernel
theorem dJx4a65c_grow_92f84_37 : decode cJx4a65c_grow_92f84 37 = .ok (.invokestatic 66, 3) := by decide +kernel
theorem dJx4a65c_grow_92f84_40 : decode cJx4a65c_grow_92f84 40 = .ok (.dup_x1, 1) := by decide +kernel
theorem dJx4a65c_grow_92f84_41 : decode cJx4a65c_grow_92f84 41 = .ok (.putfield 9, 3) := by decide +kernel
theorem dJx4a65c_grow_92f84_44 : decode cJx4a65c_grow_92f84 44 = .ok (.areturn, 1) := by decide +kernel
theorem dJx4a65c_grow_92f84_45 : decode cJx4a65c_grow_92f84 45 = .ok (.aload_n 0, 1) := by decide +kernel
theorem dJx4a65c_grow_92f84_46 : decode cJx4a65c_grow_92f84 46 = .ok (.bipush 10, 2) := by decide +kernel
theorem dJx4a65c_grow_92f84_48 : decode cJx4a65c_grow_92f84 48 = .ok (.iload_n 1, 1) := by decide +kernel
theorem dJx4a65c_grow_92f84_49 : decode cJx4a65c_grow_92f84 49 = .ok (.invokestatic 79, 3) := by decide +kernel
theorem dJx4a65c_grow_92f84_52 : decode cJx4a65c_grow_92f84 52 = .ok (.anewarray 7, 3) := by decide +kernel
theorem dJx4a65c_grow_92f84_55 : decode cJx4a65c_grow_92f84 55 = .ok (.dup_x1, 1) := by decide +kernel
theorem dJx4a65c_grow_92f84_56 : decode cJx4a65c_grow_92f84 56 = .ok (.putfield 9, 3) := by decide +kernel
theorem dJx4a65c_grow_92f84_59 : decode cJx4a65c_grow_92f84 59 = .ok (.areturn, 1) := by decide +kernel
theorem dJx4a65c_grow_d5877_0 : decode cJx4a65c_grow_d5877 0 = .ok (.aload_n 0, 1) := by decide +kernel
theorem dJx4a65c_grow_d5877_1 : decode cJx4a65c_grow_d5877 1 = .ok (.aload_n 0, 1) := by decide +kernel
theorem dJx4a65c_grow_d5877_2 : decode cJx4a65c_grow_d5877 2 = .ok (.getfield 48, 3) := by decide +kernel
theorem dJx4a65c_grow_d5877_5 : decode cJx4a65c_grow_d5877 5 = .ok (.iconst 1, 1) := by decide +kernel
theorem dJx4a65c_grow_d5877_6 : decode cJx4a65c_grow_d5877 6 = .ok (.iadd, 1) := by decide +kernel
theorem dJx4a65c_grow_d5877_7 : decode cJx4a65c_grow_d5877 7 = .ok (.invokevirtual 69, 3) := by decide +kernel
theorem dJx4a65c_grow_d5877_10 : decode cJx4a65c_grow_d5877 10 = .ok (.areturn, 1) := by decide +kernel
theorem dJx4a65c_size_8abf5_0 : decode cJx4a65c_size_8abf5 0 = .ok (.aload_n 0, 1) := by decide +kernel
theorem dJx4a65c_size_8abf5_1 : decode cJx4a65c_size_8abf5 1 = .ok (.getfield 48, 3) := by decide +kernel
theorem dJx4a65c_size_8abf5_4 : decode cJx4a65c_size_8abf5 4 = .ok (.ireturn, 1) := by decide +kernel
theorem dJx4a65c_elementData_915e3_0 : decode cJx4a65c_elementData_915e3 0 = .ok (.aload_n 0, 1) := by decide +kernel
theorem dJx4a65c_elementData_915e3_1 : decode cJx4a65c_elementData_915e3 1 = .ok (.getfield 9, 3) := by decide +kernel
theorem dJx4a65c_elementData_915e3_4 : decode cJx4a65c_elementData_915e3 4 = .ok (.iload_n 1, 1) := by decide +kernel
theorem dJx4a65c_elementData_915e3_5 : decode cJx4a65c_elementData_915e3 5 = .ok (.aaload, 1) := by decide +kernel
theorem dJx4a65c_elementData_915e3_6 : decode cJx4a65c_elementData_915e3 6 = .ok (.areturn, 1) := by decide +kernel
theorem dJx4a65c_get_915e3_0 : decode cJx4a65c_get_915e3 0 = .ok (.iload_n 1, 1) := by decide +kernel
theorem dJx4a65c_get_915e3_1 : decode cJx4a65c_get_915e3 1 = .ok (.aload_n 0, 1) := by decide +kernel
theorem dJx4a65c_get_915e3_2 : decode cJx4a65c_get_915e3 2 = .ok (.getfield 48, 3) := by decide +kernel
theorem dJx4a65c_get_915e3_5 : decode cJx4a65c_get_915e3 5 = .ok (.invokestatic 118, 3) := by decide +kernel
theorem dJx4a65c_get_915e3_8 : decode cJx4a65c_get_915e3 8 = .ok (.pop, 1) := by decide +kernel
theorem dJx4a65c_get_915e3_9 : decode cJx4a65c_get_915e3 9 = .ok (.aload_n 0, 1) := by decide +kernel
theorem dJx4a65c_get_915e3_10 : decode cJx4a65c_get_915e3 10 = .ok (.iload_n 1, 1) := by decide +kernel
theorem dJx4a65c_get_915e3_11 : decode cJx4a65c_get_915e3 11 = .ok (.invokevirtual 123, 3) := by decide +kernel
theorem dJx4a65c_get_915e3_14 : decode cJx4a65c_get_915e3 14 = .ok (.areturn, 1) := by decide +kernel
theorem dJx4a65c_add_72be8_0 : decode cJx4a65c_add_72be8 0 = .ok (.iload_n 3, 1) := by decide +kernel
theorem dJx4a65c_add_72be8_1 : decode cJx4a65c_add_72be8 1 = .ok (.aload_n 2, 1) := by decide +kernel
theorem dJx4a65c_add_72be8_2 : decode cJx4a65c_add_72be8 2 = .ok (.arraylength, 1) := by decide +kernel
theorem dJx4a65c_add_72be8_3 : decode cJx4a65c_add_72be8 3 = .ok (.if_icmp .ne 8, 3) := by decide +kernel
theorem dJx4a65c_add_72be8_6 : decode cJx4a65c_add_72be8 6 = .ok (.aload_n 0, 1) := by decide +kernel
theorem dJx4a65c_add_72be8_7 : decode cJx4a65c_add_72be8 7 = .ok (.invokevirtual 129, 3) := by decide +kernel
theorem dJx4a65c_add_72be8_10 : decode cJx4a65c_add_72be8 10 = .ok (.astore_n 2, 1) := by decide +kernel
theorem dJx4a65c_add_72be8_11 : decode cJx4a65c_add_72be8 11 = .ok (.aload_n 2, 1) := by decide +kernel
theorem dJx4a65c_add_72be8_12 : decode cJx4a65c_add_72be8 12 = .ok (.iload_n 3, 1) := by decide +kernel
theorem dJx4a65c_add_72be8_13 : decode cJx4a65c_add_72be8 13 = .ok (.aload_n 1, 1) := by decide +kernel
theorem dJx4a65c_add_72be8_14 : decode cJx4a65c_add_72be8 14 = .ok (.aastore, 1) := by decide +kernel
theorem dJx4a65c_add_72be8_15 : decode cJx4a65c_add_72be8 15 = .ok (.aload_n 0, 1) := by decide +kernel
theorem dJx4a65c_add_72be8_16 : decode cJx4a65c_add_72be8 16 = .ok (.iload_n 3, 1) := by decide +kernel
theorem dJx4a65c_add_72be8_17 : decode cJx4a65c_add_72be8 17 = .ok (.iconst 1, 1) := by decide +kernel
theorem dJx4a65c_add_72be8_18 : decode cJx4a65c_add_72be8 18 = .ok (.iadd, 1) := by decide +kernel
theorem dJx4a65c_add_72be8_19 : decode cJx4a65c_add_72be8 19 = .ok (.putfield 48, 3) := by decide +kernel
theorem dJx4a65c_add_72be8_22 : decode cJx4a65c_add_72be8 22 = .ok (.return_, 1) := by decide +kernel
theorem dJx4a65c_add_9ea2d_0 : decode cJx4a65c_add_9ea2d 0 = .ok (.aload_n 0, 1) := by decide +kernel
theorem dJx4a65c_add_9ea2d_1 : decode cJx4a65c_add_9ea2d 1 = .ok (.dup, 1) := by decide +kernel
theorem dJx4a65c_add_9ea2d_2 : decode cJx4a65c_add_9ea2d 2 = .ok (.getfield 63, 3) := by decide +kernel
theorem dJx4a65c_add_9ea2d_5 : decode cJx4a65c_add_9ea2d 5 = .ok (.iconst 1, 1) := by decide +kernel
theorem dJx4a65c_add_9ea2d_6 : decode cJx4a65c_add_9ea2d 6 = .ok (.iadd, 1) := by decide +kernel
theorem dJx4a65c_add_9ea2d_7 : decode cJx4a65c_add_9ea2d 7 = .ok (.putfield 63, 3) := by decide +kernel
theorem dJx4a65c_add_9ea2d_10 : decode cJx4a65c_add_9ea2d 10 = .ok (.aload_n 0, 1) := by decide +kernel
theorem dJx4a65c_add_9ea2d_11 : decode cJx4a65c_add_9ea2d 11 = .ok (.aload_n 1, 1) := by decide +kernel
theorem dJx4a65c_add_9ea2d_12 : decode cJx4a65c_add_9ea2d 12 = .ok (.aload_n 0, 1) := by decide +kernel
theorem dJx4a65c_add_9ea2d_13 : decode cJx4a65c_add_9ea2d 13 = .ok (.getfield 9, 3) := by decide +kernel
theorem dJx4a65c_add_9ea2d_16 : decode cJx4a65c_add_9ea2d 16 = .ok (.aload_n 0, 1) := by decide +kernel
theorem dJx4a65c_add_9ea2d_17 : decode cJx4a65c_add_9ea2d 17 = .ok (.getfield 48, 3) := by decide +kernel
theorem dJx4a65c_add_9ea2d_20 : decode cJx4a65c_add_9ea2d 20 = .ok (.invokevirtual 131, 3) := by decide +kernel
theorem dJx4a65c_add_9ea2d_23 : decode cJx4a65c_add_9ea2d 23 = .ok (.iconst 1, 1) := by decide +kernel
theorem dJx4a65c_add_9ea2d_24 : decode cJx4a65c_add_9ea2d 24 = .ok (.ireturn, 1) := by decide +kernel
theorem dJ7_fill_53178_0 : decode cJ7_fill_53178 0 = .ok (.iconst 0, 1) := by decide +kernel
theorem dJ7_fill_53178_1 : decode cJ7_fill_53178 1 = .ok (.istore_n 2, 1) := by decide +kernel
theorem dJ7_fill_53178_2 : decode cJ7_fill_53178 2 = .ok (.aload_n 0, 1) := by decide +kernel
theorem dJ7_fill_53178_3 : decode cJ7_fill_53178 3 = .ok (.arraylength, 1) := by decide +kernel
theorem dJ7_fill_53178_4 : decode cJ7_fill_53178 4 = .ok (.istore_n 3, 1) := by decide +kernel
theorem dJ7_fill_53178_5 : decode cJ7_fill_53178 5 = .ok (.iload_n 2, 1) := by decide +kernel
theorem dJ7_fill_53178_6 : decode cJ7_fill_53178 6 = .ok (.iload_n 3, 1) := by decide +kernel
theorem dJ7_fill_53178_7 : decode cJ7_fill_53178 7 = .ok (.if_icmp .ge 13, 3) := by decide +kernel
theorem dJ7_fill_53178_10 : decode cJ7_fill_53178 10 = .ok (.aload_n 0, 1) := by decide +kernel
theorem dJ7_fill_53178_11 : decode cJ7_fill_53178 11 = .ok (.iload_n 2, 1) := by decide +kernel
theorem dJ7_fill_53178_12 : decode cJ7_fill_53178 12 = .ok (.iload_n 1, 1) := by decide +kernel
theorem dJ7_fill_53178_13 : decode cJ7_fill_53178 13 = .ok (.iastore, 1) := by decide +kernel
theorem dJ7_fill_53178_14 : decode cJ7_fill_53178 14 = .ok (.iinc 2 1, 3) := by decide +kernel
theorem dJ7_fill_53178_17 : decode cJ7_fill_53178 17 = .ok (.goto (-12), 3) := by decide +kernel
theorem dJ7_fill_53178_20 : decode cJ7_fill_53178 20 = .ok (.return_, 1) := by decide +kernel
theorem dJ7_copyOf_1904c_0 : decode cJ7_copyOf_1904c 0 = .ok (.aload_n 0, 1) := by decide +kernel
theorem dJ7_copyOf_1904c_1 : decode cJ7_copyOf_1904c 1 = .ok (.iload_n 1, 1) := by decide +kernel
theorem dJ7_copyOf_1904c_2 : decode cJ7_copyOf_1904c 2 = .ok (.aload_n 0, 1) := by decide +kernel
theorem dJ7_copyOf_1904c_3 : decode cJ7_copyOf_1904c 3 = .ok (.invokevirtual 86, 3) := by decide +kernel
theorem dJ7_copyOf_1904c_6 : decode cJ7_copyOf_1904c 6 = .ok (.invokestatic 300, 3) := by decide +kernel
theorem dJ7_copyOf_1904c_9 : decode cJ7_copyOf_1904c 9 = .ok (.areturn, 1) := by decide +kernel
theorem dJ7_copyOf_6403c_0 : decode cJ7_copyOf_6403c 0 = .ok (.aload_n 2, 1) := by decide +kernel
theorem dJ7_copyOf_6403c_1 : decode cJ7_copyOf_6403c 1 = .ok (.ldc 110, 2) := by decide +kernel
theorem dJ7_copyOf_6403c_3 : decode cJ7_copyOf_6403c 3 = .ok (.if_acmp .ne 10, 3) := by decide +kernel
theorem dJ7_copyOf_6403c_6 : decode cJ7_copyOf_6403c 6 = .ok (.iload_n 1, 1) := by decide +kernel
theorem dJ7_copyOf_6403c_7 : decode cJ7_copyOf_6403c 7 = .ok (.anewarray 2, 3) := by decide +kernel
theorem dJ7_copyOf_6403c_10 : decode cJ7_copyOf_6403c 10 = .ok (.goto 14, 3) := by decide +kernel
theorem dJ7_copyOf_6403c_13 : decode cJ7_copyOf_6403c 13 = .ok (.aload_n 2, 1) := by decide +kernel
theorem dJ7_copyOf_6403c_14 : decode cJ7_copyOf_6403c 14 = .ok (.invokevirtual 90, 3) := by decide +kernel
theorem dJ7_copyOf_6403c_17 : decode cJ7_copyOf_6403c 17 = .ok (.iload_n 1, 1) := by decide +kernel
theorem dJ7_copyOf_6403c_18 : decode cJ7_copyOf_6403c 18 = .ok (.invokestatic 95, 3) := by decide +kernel
theorem dJ7_copyOf_6403c_21 : decode cJ7_copyOf_6403c 21 = .ok (.checkcast 110, 3) := by decide +kernel
theorem dJ7_copyOf_6403c_24 : decode cJ7_copyOf_6403c 24 = .ok (.astore_n 3, 1) := by decide +kernel
theorem dJ7_copyOf_6403c_25 : decode cJ7_copyOf_6403c 25 = .ok (.aload_n 0, 1) := by decide +kernel
theorem dJ7_copyOf_6403c_26 : decode cJ7_copyOf_6403c 26 = .ok (.iconst 0, 1) := by decide +kernel
theorem dJ7_copyOf_6403c_27 : decode cJ7_copyOf_6403c 27 = .ok (.aload_n 3, 1) := by decide +kernel
theorem dJ7_copyOf_6403c_28 : decode cJ7_copyOf_6403c 28 = .ok (.iconst 0, 1) := by decide +kernel
theorem dJ7_copyOf_6403c_29 : decode cJ7_copyOf_6403c 29 = .ok (.aload_n 0, 1) := by decide +kernel
theorem dJ7_copyOf_6403c_30 : decode cJ7_copyOf_6403c 30 = .ok (.arraylength, 1) := by decide +kernel
theorem dJ7_copyOf_6403c_31 : decode cJ7_copyOf_6403c 31 = .ok (.iload_n 1, 1) := by decide +kernel
theorem dJ7_copyOf_6403c_32 : decode cJ7_copyOf_6403c 32 = .ok (.invokestatic 304, 3) := by decide +kernel
theorem dJ7_copyOf_6403c_35 : decode cJ7_copyOf_6403c 35 = .ok (.invokestatic 150, 3) := by decide +kernel
theorem dJ7_copyOf_6403c_38 : decode cJ7_copyOf_6403c 38 = .ok (.aload_n 3, 1) := by decide +kernel
theorem dJ7_copyOf_6403c_39 : decode cJ7_copyOf_6403c 39 = .ok (.areturn, 1) := by decide +kernel
theorem dJ15_checkIndex_7cf53_0 : decode cJ15_checkIndex_7cf53 0 = .ok (.iload_n 0, 1) := by decide +kernel
theorem dJ15_checkIndex_7cf53_1 : decode cJ15_checkIndex_7cf53 1 = .ok (.iload_n 1, 1) := by decide +kernel
theorem dJ15_checkIndex_7cf53_2 : decode cJ15_checkIndex_7cf53 2 = .ok (.aconst_null, 1) := by decide +kernel
theorem dJ15_checkIndex_7cf53_3 : decode cJ15_checkIndex_7cf53 3 = .ok (.invokestatic 105, 3) := by decide +kernel
theorem dJ15_checkIndex_7cf53_6 : decode cJ15_checkIndex_7cf53 6 = .ok (.ireturn, 1) := by decide +kernel
theorem dJ8_newLength_cabcc_0 : decode cJ8_newLength_cabcc 0 = .ok (.iload_n 0, 1) := by decide +kernel
theorem dJ8_newLength_cabcc_1 : decode cJ8_newLength_cabcc 1 = .ok (.iload_n 1, 1) := by decide +kernel
theorem dJ8_newLength_cabcc_2 : decode cJ8_newLength_cabcc 2 = .ok (.iload_n 2, 1) := by decide +kernel
theorem dJ8_newLength_cabcc_3 : decode cJ8_newLength_cabcc 3 = .ok (.invokestatic 194, 3) := by decide +kernel
theorem dJ8_newLength_cabcc_6 : decode cJ8_newLength_cabcc 6 = .ok (.iadd, 1) := by decide +kernel
theorem dJ8_newLength_cabcc_7 : decode cJ8_newLength_cabcc 7 = .ok (.istore_n 3, 1) := by decide +kernel
theorem dJ8_newLength_cabcc_8 : decode cJ8_newLength_cabcc 8 = .ok (.iconst 0, 1) := by decide +kernel
theorem dJ8_newLength_cabcc_9 : decode cJ8_newLength_cabcc 9 = .ok (.iload_n 3, 1) := by decide +kernel
theorem dJ8_newLength_cabcc_10 : decode cJ8_newLength_cabcc 10 = .ok (.if_icmp .ge 11, 3) := by decide +kernel
theorem dJ8_newLength_cabcc_13 : decode cJ8_newLength_cabcc 13 = .ok (.iload_n 3, 1) := by decide +kernel
theorem dJ8_newLength_cabcc_14 : decode cJ8_newLength_cabcc 14 = .ok (.ldc 200, 2) := by decide +kernel
theorem dJ8_newLength_cabcc_16 : decode cJ8_newLength_cabcc 16 = .ok (.if_icmp .gt 5, 3) := by decide +kernel
theorem dJ8_newLength_cabcc_19 : decode cJ8_newLength_cabcc 19 = .ok (.iload_n 3, 1) := by decide +kernel
theorem dJ8_newLength_cabcc_20 : decode cJ8_newLength_cabcc 20 = .ok (.ireturn, 1) := by decide +kernel
theorem dJ8_newLength_cabcc_21 : decode cJ8_newLength_cabcc 21 = .ok (.iload_n 0, 1) := by decide +kernel
theorem dJ8_newLength_cabcc_22 : decode cJ8_newLength_cabcc 22 = .ok (.iload_n 1, 1) := by decide +kernel
theorem dJ8_newLength_cabcc_23 : decode cJ8_newLength_cabcc 23 = .ok (.invokestatic 201, 3) := by decide +kernel
theorem dJ8_newLength_cabcc_26 : decode cJ8_newLength_cabcc 26 = .ok (.ireturn, 1) := by decide +kernel
theorem dJ8_hugeLength_7cf53_0 : decode cJ8_hugeLength_7cf53 0 = .ok (.iload_n 0, 1) := by decide +kernel
theorem dJ8_hugeLength_7cf53_1 : decode cJ8_hugeLength_7cf53 1 = .ok (.iload_n 1, 1) := by decide +kernel
theorem dJ8_hugeLength_7cf53_2 : decode cJ8_hugeLength_7cf53 2 = .ok (.iadd, 1) := by decide +kernel
theorem dJ8_hugeLength_7cf53_3 : decode cJ8_hugeLength_7cf53 3 = .ok (.istore_n 2, 1) := by decide +kernel
theorem dJ8_hugeLength_7cf53_4 : decode cJ8_hugeLength_7cf53 4 = .ok (.iload_n 2, 1) := by decide +kernel
theorem dJ8_hugeLength_7cf53_5 : decode cJ8_hugeLength_7cf53 5 = .ok (.ifCond .ge 44, 3) := by decide +kernel
theorem dJ8_hugeLength_7cf53_8 : decode cJ8_hugeLength_7cf53 8 = .ok (.new 204, 3) := by decide +kernel
theorem dJ8_hugeLength_7cf53_11 : decode cJ8_hugeLength_7cf53 11 = .ok (.dup, 1) := by decide +kernel
theorem dJ8_hugeLength_7cf53_12 : decode cJ8_hugeLength_7cf53 12 = .ok (.new 89, 3) := by decide +kernel
theorem dJ8_hugeLength_7cf53_15 : decode cJ8_hugeLength_7cf53 15 = .ok (.dup, 1) := by decide +kernel
theorem dJ8_hugeLength_7cf53_16 : decode cJ8_hugeLength_7cf53 16 = .ok (.invokespecial 91, 3) := by decide +kernel
theorem dJ8_hugeLength_7cf53_19 : decode cJ8_hugeLength_7cf53 19 = .ok (.ldc 206, 2) := by decide +kernel
theorem dJ8_hugeLength_7cf53_21 : decode cJ8_hugeLength_7cf53 21 = .ok (.invokevirtual 94, 3) := by decide +kernel
theorem dJ8_hugeLength_7cf53_24 : decode cJ8_hugeLength_7cf53 24 = .ok (.iload_n 0, 1) := by decide +kernel
theorem dJ8_hugeLength_7cf53_25 : decode cJ8_hugeLength_7cf53 25 = .ok (.invokevirtual 98, 3) := by decide +kernel
theorem dJ8_hugeLength_7cf53_28 : decode cJ8_hugeLength_7cf53 28 = .ok (.ldc 208, 2) := by decide +kernel
theorem dJ8_hugeLength_7cf53_30 : decode cJ8_hugeLength_7cf53 30 = .ok (.invokevirtual 94, 3) := by decide +kernel
theorem dJ8_hugeLength_7cf53_33 : decode cJ8_hugeLength_7cf53 33 = .ok (.iload_n 1, 1) := by decide +kernel
theorem dJ8_hugeLength_7cf53_34 : decode cJ8_hugeLength_7cf53 34 = .ok (.invokevirtual 98, 3) := by decide +kernel
theorem dJ8_hugeLength_7cf53_37 : decode cJ8_hugeLength_7cf53 37 = .ok (.ldc 210, 2) := by decide +kernel
theorem dJ8_hugeLength_7cf53_39 : decode cJ8_hugeLength_7cf53 39 = .ok (.invokevirtual 94, 3) := by decide +kernel
theorem dJ8_hugeLength_7cf53_42 : decode cJ8_hugeLength_7cf53 42 = .ok (.invokevirtual 101, 3) := by decide +kernel
theorem dJ8_hugeLength_7cf53_45 : decode cJ8_hugeLength_7cf53 45 = .ok (.invokespecial 212, 3) := by decide +kernel
theorem dJ8_hugeLength_7cf53_48 : decode cJ8_hugeLength_7cf53 48 = .ok (.athrow, 1) := by decide +kernel
theorem dJ8_hugeLength_7cf53_49 : decode cJ8_hugeLength_7cf53 49 = .ok (.iload_n 2, 1) := by decide +kernel
theorem dJ8_hugeLength_7cf53_50 : decode cJ8_hugeLength_7cf53 50 = .ok (.ldc 200, 2) := by decide +kernel
theorem dJ8_hugeLength_7cf53_52 : decode cJ8_hugeLength_7cf53 52 = .ok (.if_icmp .gt 6, 3) := by decide +kernel
theorem dJ8_hugeLength_7cf53_55 : decode cJ8_hugeLength_7cf53 55 = .ok (.ldc 200, 2) := by decide +kernel
theorem dJ8_hugeLength_7cf53_57 : decode cJ8_hugeLength_7cf53 57 = .ok (.ireturn, 1) := by decide +kernel
theorem dJ8_hugeLength_7cf53_58 : decode cJ8_hugeLength_7cf53 58 = .ok (.iload_n 2, 1) := by decide +kernel
theorem dJ8_hugeLength_7cf53_59 : decode cJ8_hugeLength_7cf53 59 = .ok (.ireturn, 1) := by decide +kernel
theorem dJ3_checkIndex_8e157_0 : decode cJ3_checkIndex_8e157 0 = .ok (.iload_n 0, 1) := by decide +kernel
theorem dJ3_checkIndex_8e157_1 : decode cJ3_checkIndex_8e157 1 = .ok (.ifCond .lt 8, 3) := by decide +kernel
theorem dJ3_checkIndex_8e157_4 : decode cJ3_checkIndex_8e157 4 = .ok (.iload_n 0, 1) := by decide +kernel
theorem dJ3_checkIndex_8e157_5 : decode cJ3_checkIndex_8e157 5 = .ok (.iload_n 1, 1) := by decide +kernel
theorem dJ3_checkIndex_8e157_6 : decode cJ3_checkIndex_8e157 6 = .ok (.if_icmp .lt 10, 3) := by decide +kernel
theorem dJ3_checkIndex_8e157_9 : decode cJ3_checkIndex_8e157 9 = .ok (.aload_n 2, 1) := by decide +kernel
theorem dJ3_checkIndex_8e157_10 : decode cJ3_checkIndex_8e157 10 = .ok (.iload_n 0, 1) := by decide +kernel
theorem dJ3_checkIndex_8e157_11 : decode cJ3_checkIndex_8e157 11 = .ok (.iload_n 1, 1) := by decide +kernel
theorem dJ3_checkIndex_8e157_12 : decode cJ3_checkIndex_8e157 12 = .ok (.invokestatic 95, 3) := by decide +kernel
theorem dJ3_checkIndex_8e157_15 : decode cJ3_checkIndex_8e157 15 = .ok (.athrow, 1) := by decide +kernel
theorem dJ3_checkIndex_8e157_16 : decode cJ3_checkIndex_8e157 16 = .ok (.iload_n 0, 1) := by decide +kernel
theorem dJ3_checkIndex_8e157_17 : decode cJ3_checkIndex_8e157 17 = .ok (.ireturn, 1) := by decide +kernel
end
section
theorem dX10_init_0 : decode cX10_init 0 = .ok (.aload_n 0, 1) := by decide +kernel
theorem dX10_init_1 : decode cX10_init 1 = .ok (.invokespecial 1, 3) := by decide +kernel
theorem dX10_init_4 : decode cX10_init 4 = .ok (.aload_n 0, 1) := by decide +kernel
theorem dX10_init_5 : decode cX10_init 5 = .ok (.iconst 0, 1) := by decide +kernel
theorem dX10_init_6 : decode cX10_init 6 = .ok (.putfield 7, 3) := by decide +kernel
theorem dX10_init_9 : decode cX10_init 9 = .ok (.aload_n 0, 1) := by decide +kernel
theorem dX10_init_10 : decode cX10_init 10 = .ok (.iconst 0, 1) := by decide +kernel
theorem dX10_init_11 : decode cX10_init 11 = .ok (.putfield 13, 3) := by decide +kernel
theorem dX10_init_14 : decode cX10_init 14 = .ok (.aload_n 0, 1) := by decide +kernel
theorem dX10_init_15 : decode cX10_init 15 = .ok (.iconst 0, 1) := by decide +kernel
theorem dX10_init_16 : decode cX10_init 16 = .ok (.putfield 16, 3) := by decide +kernel
theorem dX10_init_19 : decode cX10_init 19 = .ok (.aload_n 0, 1) := by decide +kernel
theorem dX10_init_20 : decode cX10_init 20 = .ok (.bipush 6, 2) := by decide +kernel
theorem dX10_init_22 : decode cX10_init 22 = .ok (.newarray .int, 2) := by decide +kernel
theorem dX10_init_24 : decode cX10_init 24 = .ok (.putfield 19, 3) := by decide +kernel
theorem dX10_init_27 : decode cX10_init 27 = .ok (.aload_n 0, 1) := by decide +kernel
theorem dX10_init_28 : decode cX10_init 28 = .ok (.new 23, 3) := by decide +kernel
theorem dX10_init_31 : decode cX10_init 31 = .ok (.dup, 1) := by decide +kernel
theorem dX10_init_32 : decode cX10_init 32 = .ok (.invokespecial 25, 3) := by decide +kernel
theorem dX10_init_35 : decode cX10_init 35 = .ok (.putfield 26, 3) := by decide +kernel
theorem dX10_init_38 : decode cX10_init 38 = .ok (.aload_n 0, 1) := by decide +kernel
theorem dX10_init_39 : decode cX10_init 39 = .ok (.new 30, 3) := by decide +kernel
theorem dX10_init_42 : decode cX10_init 42 = .ok (.dup, 1) := by decide +kernel
theorem dX10_init_43 : decode cX10_init 43 = .ok (.invokespecial 32, 3) := by decide +kernel
theorem dX10_init_46 : decode cX10_init 46 = .ok (.putfield 33, 3) := by decide +kernel
theorem dX10_init_49 : decode cX10_init 49 = .ok (.aload_n 0, 1) := by decide +kernel
theorem dX10_init_50 : decode cX10_init 50 = .ok (.new 37, 3) := by decide +kernel
theorem dX10_init_53 : decode cX10_init 53 = .ok (.dup, 1) := by decide +kernel
theorem dX10_init_54 : decode cX10_init 54 = .ok (.invokespecial 39, 3) := by decide +kernel
theorem dX10_init_57 : decode cX10_init 57 = .ok (.putfield 40, 3) := by decide +kernel
theorem dX10_init_60 : decode cX10_init 60 = .ok (.aload_n 0, 1) := by decide +kernel
theorem dX10_init_61 : decode cX10_init 61 = .ok (.new 37, 3) := by decide +kernel
theorem dX10_init_64 : decode cX10_init 64 = .ok (.dup, 1) := by decide +kernel
theorem dX10_init_65 : decode cX10_init 65 = .ok (.invokespecial 39, 3) := by decide +kernel
theorem dX10_init_68 : decode cX10_init 68 = .ok (.putfield 44, 3) := by decide +kernel
theorem dX10_init_71 : decode cX10_init 71 = .ok (.aload_n 0, 1) := by decide +kernel
theorem dX10_init_72 : decode cX10_init 72 = .ok (.new 37, 3) := by decide +kernel
theorem dX10_init_75 : decode cX10_init 75 = .ok (.dup, 1) := by decide +kernel
theorem dX10_init_76 : decode cX10_init 76 = .ok (.invokespecial 39, 3) := by decide +kernel
theorem dX10_init_79 : decode cX10_init 79 = .ok (.putfield 47, 3) := by decide +kernel
theorem dX10_init_82 : decode cX10_init 82 = .ok (.aload_n 0, 1) := by decide +kernel
theorem dX10_init_83 : decode cX10_init 83 = .ok (.new 37, 3) := by decide +kernel
theorem dX10_init_86 : decode cX10_init 86 = .ok (.dup, 1) := by decide +kernel
theorem dX10_init_87 : decode cX10_init 87 = .ok (.invokespecial 39, 3) := by decide +kernel
theorem dX10_init_90 : decode cX10_init 90 = .ok (.putfield 50, 3) := by decide +kernel
theorem dX10_init_93 : decode cX10_init 93 = .ok (.aload_n 0, 1) := by decide +kernel
theorem dX10_init_94 : decode cX10_init 94 = .ok (.new 37, 3) := by decide +kernel
theorem dX10_init_97 : decode cX10_init 97 = .ok (.dup, 1) := by decide +kernel
theorem dX10_init_98 : decode cX10_init 98 = .ok (.invokespecial 39, 3) := by decide +kernel
theorem dX10_init_101 : decode cX10_init 101 = .ok (.putfield 53, 3) := by decide +kernel
theorem dX10_init_104 : decode cX10_init 104 = .ok (.aload_n 0, 1) := by decide +kernel
theorem dX10_init_105 : decode cX10_init 105 = .ok (.new 56, 3) := by decide +kernel
theorem dX10_init_108 : decode cX10_init 108 = .ok (.dup, 1) := by decide +kernel
theorem dX10_init_109 : decode cX10_init 109 = .ok (.invokespecial 58, 3) := by decide +kernel
theorem dX10_init_112 : decode cX10_init 112 = .ok (.putfield 59, 3) := by decide +kernel
theorem dX10_init_115 : decode cX10_init 115 = .ok (.return_, 1) := by decide +kernel
theorem dX10_law_0 : decode cX10_law 0 = .ok (.iload_n 1, 1) := by decide +kernel
theorem dX10_law_1 : decode cX10_law 1 = .ok (.ifCond .lt 35, 3) := by decide +kernel
theorem dX10_law_4 : decode cX10_law 4 = .ok (.iload_n 1, 1) := by decide +kernel
theorem dX10_law_5 : decode cX10_law 5 = .ok (.bipush 6, 2) := by decide +kernel
theorem dX10_law_7 : decode cX10_law 7 = .ok (.if_icmp .ge 29, 3) := by decide +kernel
theorem dX10_law_10 : decode cX10_law 10 = .ok (.iload_n 2, 1) := by decide +kernel
theorem dX10_law_11 : decode cX10_law 11 = .ok (.invokestatic 63, 3) := by decide +kernel
theorem dX10_law_14 : decode cX10_law 14 = .ok (.ifCond .eq 22, 3) := by decide +kernel
theorem dX10_law_17 : decode cX10_law 17 = .ok (.iload_n 3, 1) := by decide +kernel
theorem dX10_law_18 : decode cX10_law 18 = .ok (.iload 4, 2) := by decide +kernel
theorem dX10_law_20 : decode cX10_law 20 = .ok (.invokestatic 67, 3) := by decide +kernel
theorem dX10_law_23 : decode cX10_law 23 = .ok (.ifCond .eq 13, 3) := by decide +kernel
theorem dX10_law_26 : decode cX10_law 26 = .ok (.aload_n 0, 1) := by decide +kernel
theorem dX10_law_27 : decode cX10_law 27 = .ok (.getfield 33, 3) := by decide +kernel
theorem dX10_law_30 : decode cX10_law 30 = .ok (.invokevirtual 73, 3) := by decide +kernel
theorem dX10_law_33 : decode cX10_law 33 = .ok (.ifCond .eq 5, 3) := by decide +kernel
theorem dX10_law_36 : decode cX10_law 36 = .ok (.iconst 0, 1) := by decide +kernel
theorem dX10_law_37 : decode cX10_law 37 = .ok (.ireturn, 1) := by decide +kernel
theorem dX10_law_38 : decode cX10_law 38 = .ok (.aload_n 0, 1) := by decide +kernel
theorem dX10_law_39 : decode cX10_law 39 = .ok (.getfield 33, 3) := by decide +kernel
theorem dX10_law_42 : decode cX10_law 42 = .ok (.new 68, 3) := by decide +kernel
theorem dX10_law_45 : decode cX10_law 45 = .ok (.dup, 1) := by decide +kernel
theorem dX10_law_46 : decode cX10_law 46 = .ok (.iload_n 1, 1) := by decide +kernel
theorem dX10_law_47 : decode cX10_law 47 = .ok (.iload_n 2, 1) := by decide +kernel
theorem dX10_law_48 : decode cX10_law 48 = .ok (.iload_n 3, 1) := by decide +kernel
theorem dX10_law_49 : decode cX10_law 49 = .ok (.iload 4, 2) := by decide +kernel
theorem dX10_law_51 : decode cX10_law 51 = .ok (.invokespecial 77, 3) := by decide +kernel
theorem dX10_law_54 : decode cX10_law 54 = .ok (.invokevirtual 80, 3) := by decide +kernel
theorem dX10_law_57 : decode cX10_law 57 = .ok (.iconst 1, 1) := by decide +kernel
theorem dX10_law_58 : decode cX10_law 58 = .ok (.ireturn, 1) := by decide +kernel
theorem dX10_person_0 : decode cX10_person 0 = .ok (.iload_n 1, 1) := by decide +kernel
theorem dX10_person_1 : decode cX10_person 1 = .ok (.invokestatic 84, 3) := by decide +kernel
theorem dX10_person_4 : decode cX10_person 4 = .ok (.ifCond .eq 30, 3) := by decide +kernel
theorem dX10_person_7 : decode cX10_person 7 = .ok (.iload_n 2, 1) := by decide +kernel
theorem dX10_person_8 : decode cX10_person 8 = .ok (.sipush (-30000), 3) := by decide +kernel
theorem dX10_person_11 : decode cX10_person 11 = .ok (.if_icmp .lt 23, 3) := by decide +kernel
theorem dX10_person_14 : decode cX10_person 14 = .ok (.iload_n 2, 1) := by decide +kernel
theorem dX10_person_15 : decode cX10_person 15 = .ok (.aload_n 0, 1) := by decide +kernel
theorem dX10_person_16 : decode cX10_person 16 = .ok (.getfield 7, 3) := by decide +kernel
theorem dX10_person_19 : decode cX10_person 19 = .ok (.if_icmp .gt 15, 3) := by decide +kernel
theorem dX10_person_22 : decode cX10_person 22 = .ok (.aload_n 0, 1) := by decide +kernel
theorem dX10_person_23 : decode cX10_person 23 = .ok (.getfield 40, 3) := by decide +kernel
theorem dX10_person_26 : decode cX10_person 26 = .ok (.invokevirtual 88, 3) := by decide +kernel
theorem dX10_person_29 : decode cX10_person 29 = .ok (.bipush 40, 2) := by decide +kernel
theorem dX10_person_31 : decode cX10_person 31 = .ok (.if_icmp .lt 5, 3) := by decide +kernel
theorem dX10_person_34 : decode cX10_person 34 = .ok (.iconst (-1), 1) := by decide +kernel
theorem dX10_person_35 : decode cX10_person 35 = .ok (.ireturn, 1) := by decide +kernel
theorem dX10_person_36 : decode cX10_person 36 = .ok (.aload_n 0, 1) := by decide +kernel
theorem dX10_person_37 : decode cX10_person 37 = .ok (.iload_n 3, 1) := by decide +kernel
theorem dX10_person_38 : decode cX10_person 38 = .ok (.iload 4, 2) := by decide +kernel
theorem dX10_person_40 : decode cX10_person 40 = .ok (.invokevirtual 92, 3) := by decide +kernel
theorem dX10_person_43 : decode cX10_person 43 = .ok (.ifCond .ne 5, 3) := by decide +kernel
theorem dX10_person_46 : decode cX10_person 46 = .ok (.iconst (-1), 1) := by decide +kernel
theorem dX10_person_47 : decode cX10_person 47 = .ok (.ireturn, 1) := by decide +kernel
theorem dX10_person_48 : decode cX10_person 48 = .ok (.aload_n 0, 1) := by decide +kernel
theorem dX10_person_49 : decode cX10_person 49 = .ok (.getfield 40, 3) := by decide +kernel
theorem dX10_person_52 : decode cX10_person 52 = .ok (.invokevirtual 88, 3) := by decide +kernel
theorem dX10_person_55 : decode cX10_person 55 = .ok (.istore 5, 2) := by decide +kernel
theorem dX10_person_57 : decode cX10_person 57 = .ok (.aload_n 0, 1) := by decide +kernel
theorem dX10_person_58 : decode cX10_person 58 = .ok (.getfield 40, 3) := by decide +kernel
theorem dX10_person_61 : decode cX10_person 61 = .ok (.new 85, 3) := by decide +kernel
theorem dX10_person_64 : decode cX10_person 64 = .ok (.dup, 1) := by decide +kernel
theorem dX10_person_65 : decode cX10_person 65 = .ok (.iload 5, 2) := by decide +kernel
theorem dX10_person_67 : decode cX10_person 67 = .ok (.iload_n 1, 1) := by decide +kernel
theorem dX10_person_68 : decode cX10_person 68 = .ok (.iload_n 2, 1) := by decide +kernel
theorem dX10_person_69 : decode cX10_person 69 = .ok (.aload_n 0, 1) := by decide +kernel
theorem dX10_person_70 : decode cX10_person 70 = .ok (.iload_n 3, 1) := by decide +kernel
theorem dX10_person_71 : decode cX10_person 71 = .ok (.invokevirtual 95, 3) := by decide +kernel
theorem dX10_person_74 : decode cX10_person 74 = .ok (.aload_n 0, 1) := by decide +kernel
theorem dX10_person_75 : decode cX10_person 75 = .ok (.iload 4, 2) := by decide +kernel
theorem dX10_person_77 : decode cX10_person 77 = .ok (.invokevirtual 95, 3) := by decide +kernel
theorem dX10_person_80 : decode cX10_person 80 = .ok (.invokespecial 99, 3) := by decide +kernel
theorem dX10_person_83 : decode cX10_person 83 = .ok (.invokevirtual 102, 3) := by decide +kernel
theorem dX10_person_86 : decode cX10_person 86 = .ok (.pop, 1) := by decide +kernel
theorem dX10_person_87 : decode cX10_person 87 = .ok (.iload 5, 2) := by decide +kernel
theorem dX10_person_89 : decode cX10_person 89 = .ok (.ireturn, 1) := by decide +kernel
theorem dX10_paper_0 : decode cX10_paper 0 = .ok (.aload_n 0, 1) := by decide +kernel
theorem dX10_paper_1 : decode cX10_paper 1 = .ok (.iload_n 1, 1) := by decide +kernel
theorem dX10_paper_2 : decode cX10_paper 2 = .ok (.invokevirtual 95, 3) := by decide +kernel
theorem dX10_paper_5 : decode cX10_paper 5 = .ok (.astore 4, 2) := by decide +kernel
theorem dX10_paper_7 : decode cX10_paper 7 = .ok (.aload 4, 2) := by decide +kernel
theorem dX10_paper_9 : decode cX10_paper 9 = .ok (.ifnull 34, 3) := by decide +kernel
theorem dX10_paper_12 : decode cX10_paper 12 = .ok (.iload_n 2, 1) := by decide +kernel
theorem dX10_paper_13 : decode cX10_paper 13 = .ok (.ifCond .lt 30, 3) := by decide +kernel
theorem dX10_paper_16 : decode cX10_paper 16 = .ok (.iload_n 2, 1) := by decide +kernel
theorem dX10_paper_17 : decode cX10_paper 17 = .ok (.iconst 3, 1) := by decide +kernel
theorem dX10_paper_18 : decode cX10_paper 18 = .ok (.if_icmp .ge 25, 3) := by decide +kernel
theorem dX10_paper_21 : decode cX10_paper 21 = .ok (.iload_n 3, 1) := by decide +kernel
theorem dX10_paper_22 : decode cX10_paper 22 = .ok (.ifCond .lt 21, 3) := by decide +kernel
theorem dX10_paper_25 : decode cX10_paper 25 = .ok (.iload_n 3, 1) := by decide +kernel
theorem dX10_paper_26 : decode cX10_paper 26 = .ok (.aload_n 0, 1) := by decide +kernel
theorem dX10_paper_27 : decode cX10_paper 27 = .ok (.getfield 7, 3) := by decide +kernel
theorem dX10_paper_30 : decode cX10_paper 30 = .ok (.if_icmp .gt 13, 3) := by decide +kernel
theorem dX10_paper_33 : decode cX10_paper 33 = .ok (.aload_n 0, 1) := by decide +kernel
theorem dX10_paper_34 : decode cX10_paper 34 = .ok (.getfield 13, 3) := by decide +kernel
theorem dX10_paper_37 : decode cX10_paper 37 = .ok (.sipush 200, 3) := by decide +kernel
theorem dX10_paper_40 : decode cX10_paper 40 = .ok (.if_icmp .lt 5, 3) := by decide +kernel
theorem dX10_paper_43 : decode cX10_paper 43 = .ok (.iconst 0, 1) := by decide +kernel
theorem dX10_paper_44 : decode cX10_paper 44 = .ok (.ireturn, 1) := by decide +kernel
theorem dX10_paper_45 : decode cX10_paper 45 = .ok (.aload 4, 2) := by decide +kernel
theorem dX10_paper_47 : decode cX10_paper 47 = .ok (.getfield 106, 3) := by decide +kernel
theorem dX10_paper_50 : decode cX10_paper 50 = .ok (.new 109, 3) := by decide +kernel
theorem dX10_paper_53 : decode cX10_paper 53 = .ok (.dup, 1) := by decide +kernel
theorem dX10_paper_54 : decode cX10_paper 54 = .ok (.iload_n 2, 1) := by decide +kernel
theorem dX10_paper_55 : decode cX10_paper 55 = .ok (.iload_n 3, 1) := by decide +kernel
theorem dX10_paper_56 : decode cX10_paper 56 = .ok (.invokespecial 111, 3) := by decide +kernel
theorem dX10_paper_59 : decode cX10_paper 59 = .ok (.invokevirtual 102, 3) := by decide +kernel
theorem dX10_paper_62 : decode cX10_paper 62 = .ok (.pop, 1) := by decide +kernel
theorem dX10_paper_63 : decode cX10_paper 63 = .ok (.aload_n 0, 1) := by decide +kernel
theorem dX10_paper_64 : decode cX10_paper 64 = .ok (.dup, 1) := by decide +kernel
theorem dX10_paper_65 : decode cX10_paper 65 = .ok (.getfield 13, 3) := by decide +kernel
theorem dX10_paper_68 : decode cX10_paper 68 = .ok (.iconst 1, 1) := by decide +kernel
theorem dX10_paper_69 : decode cX10_paper 69 = .ok (.iadd, 1) := by decide +kernel
theorem dX10_paper_70 : decode cX10_paper 70 = .ok (.putfield 13, 3) := by decide +kernel
theorem dX10_paper_73 : decode cX10_paper 73 = .ok (.iconst 1, 1) := by decide +kernel
theorem dX10_paper_74 : decode cX10_paper 74 = .ok (.ireturn, 1) := by decide +kernel
theorem dX10_feast_0 : decode cX10_feast 0 = .ok (.iload_n 1, 1) := by decide +kernel
theorem dX10_feast_1 : decode cX10_feast 1 = .ok (.invokestatic 63, 3) := by decide +kernel
theorem dX10_feast_4 : decode cX10_feast 4 = .ok (.ifCond .eq 14, 3) := by decide +kernel
theorem dX10_feast_7 : decode cX10_feast 7 = .ok (.aload_n 0, 1) := by decide +kernel
theorem dX10_feast_8 : decode cX10_feast 8 = .ok (.getfield 26, 3) := by decide +kernel
theorem dX10_feast_11 : decode cX10_feast 11 = .ok (.iload_n 1, 1) := by decide +kernel
theorem dX10_feast_12 : decode cX10_feast 12 = .ok (.invokevirtual 114, 3) := by decide +kernel
theorem dX10_feast_15 : decode cX10_feast 15 = .ok (.ifCond .eq 5, 3) := by decide +kernel
theorem dX10_feast_18 : decode cX10_feast 18 = .ok (.iconst 0, 1) := by decide +kernel
theorem dX10_feast_19 : decode cX10_feast 19 = .ok (.ireturn, 1) := by decide +kernel
theorem dX10_feast_20 : decode cX10_feast 20 = .ok (.aload_n 0, 1) := by decide +kernel
theorem dX10_feast_21 : decode cX10_feast 21 = .ok (.getfield 26, 3) := by decide +kernel
theorem dX10_feast_24 : decode cX10_feast 24 = .ok (.iload_n 1, 1) := by decide +kernel
theorem dX10_feast_25 : decode cX10_feast 25 = .ok (.invokevirtual 117, 3) := by decide +kernel
theorem dX10_feast_28 : decode cX10_feast 28 = .ok (.iconst 1, 1) := by decide +kernel
theorem dX10_feast_29 : decode cX10_feast 29 = .ok (.ireturn, 1) := by decide +kernel
theorem dX10_go_0 : decode cX10_go 0 = .ok (.iload_n 1, 1) := by decide +kernel
theorem dX10_go_1 : decode cX10_go 1 = .ok (.ifCond .lt 10, 3) := by decide +kernel
theorem dX10_go_4 : decode cX10_go 4 = .ok (.iload_n 1, 1) := by decide +kernel
theorem dX10_go_5 : decode cX10_go 5 = .ok (.sipush 400, 3) := by decide +kernel
theorem dX10_go_8 : decode cX10_go 8 = .ok (.if_icmp .le 5, 3) := by decide +kernel
theorem dX10_go_11 : decode cX10_go 11 = .ok (.iconst (-1), 1) := by decide +kernel
theorem dX10_go_12 : decode cX10_go 12 = .ok (.ireturn, 1) := by decide +kernel
theorem dX10_go_13 : decode cX10_go 13 = .ok (.aload_n 0, 1) := by decide +kernel
theorem dX10_go_14 : decode cX10_go 14 = .ok (.aload_n 0, 1) := by decide +kernel
theorem dX10_go_15 : decode cX10_go 15 = .ok (.getfield 7, 3) := by decide +kernel
theorem dX10_go_18 : decode cX10_go 18 = .ok (.iload_n 1, 1) := by decide +kernel
theorem dX10_go_19 : decode cX10_go 19 = .ok (.iadd, 1) := by decide +kernel
theorem dX10_go_20 : decode cX10_go 20 = .ok (.sipush 20000, 3) := by decide +kernel
theorem dX10_go_23 : decode cX10_go 23 = .ok (.invokestatic 121, 3) := by decide +kernel
theorem dX10_go_26 : decode cX10_go 26 = .ok (.putfield 7, 3) := by decide +kernel
theorem dX10_go_29 : decode cX10_go 29 = .ok (.aload_n 0, 1) := by decide +kernel
theorem dX10_go_30 : decode cX10_go 30 = .ok (.getfield 7, 3) := by decide +kernel
theorem dX10_go_33 : decode cX10_go 33 = .ok (.ireturn, 1) := by decide +kernel
theorem dX10_kin_0 : decode cX10_kin 0 = .ok (.aload_n 0, 1) := by decide +kernel
theorem dX10_kin_1 : decode cX10_kin 1 = .ok (.iload_n 1, 1) := by decide +kernel
theorem dX10_kin_2 : decode cX10_kin 2 = .ok (.invokevirtual 95, 3) := by decide +kernel
theorem dX10_kin_5 : decode cX10_kin 5 = .ok (.astore_n 3, 1) := by decide +kernel
theorem dX10_kin_6 : decode cX10_kin 6 = .ok (.aload_n 0, 1) := by decide +kernel
theorem dX10_kin_7 : decode cX10_kin 7 = .ok (.iload_n 2, 1) := by decide +kernel
theorem dX10_kin_8 : decode cX10_kin 8 = .ok (.invokevirtual 95, 3) := by decide +kernel
theorem dX10_kin_11 : decode cX10_kin 11 = .ok (.astore 4, 2) := by decide +kernel
theorem dX10_kin_13 : decode cX10_kin 13 = .ok (.aload_n 3, 1) := by decide +kernel
theorem dX10_kin_14 : decode cX10_kin 14 = .ok (.ifnull 13, 3) := by decide +kernel
theorem dX10_kin_17 : decode cX10_kin 17 = .ok (.aload 4, 2) := by decide +kernel
theorem dX10_kin_19 : decode cX10_kin 19 = .ok (.ifnull 8, 3) := by decide +kernel
theorem dX10_kin_22 : decode cX10_kin 22 = .ok (.iload_n 1, 1) := by decide +kernel
theorem dX10_kin_23 : decode cX10_kin 23 = .ok (.iload_n 2, 1) := by decide +kernel
theorem dX10_kin_24 : decode cX10_kin 24 = .ok (.if_icmp .ne 5, 3) := by decide +kernel
theorem dX10_kin_27 : decode cX10_kin 27 = .ok (.iconst (-1), 1) := by decide +kernel
theorem dX10_kin_28 : decode cX10_kin 28 = .ok (.ireturn, 1) := by decide +kernel
theorem dX10_kin_29 : decode cX10_kin 29 = .ok (.aload_n 3, 1) := by decide +kernel
theorem dX10_kin_30 : decode cX10_kin 30 = .ok (.aload 4, 2) := by decide +kernel
theorem dX10_kin_32 : decode cX10_kin 32 = .ok (.invokestatic 127, 3) := by decide +kernel
theorem dX10_kin_35 : decode cX10_kin 35 = .ok (.ireturn, 1) := by decide +kernel
theorem dX10_against_0 : decode cX10_against 0 = .ok (.aload_n 0, 1) := by decide +kernel
theorem dX10_against_1 : decode cX10_against 1 = .ok (.iload_n 1, 1) := by decide +kernel
theorem dX10_against_2 : decode cX10_against 2 = .ok (.invokevirtual 95, 3) := by decide +kernel
theorem dX10_against_5 : decode cX10_against 5 = .ok (.astore 4, 2) := by decide +kernel
theorem dX10_against_7 : decode cX10_against 7 = .ok (.aload_n 0, 1) := by decide +kernel
theorem dX10_against_8 : decode cX10_against 8 = .ok (.iload_n 2, 1) := by decide +kernel
theorem dX10_against_9 : decode cX10_against 9 = .ok (.invokevirtual 95, 3) := by decide +kernel
theorem dX10_against_12 : decode cX10_against 12 = .ok (.astore 5, 2) := by decide +kernel
theorem dX10_against_14 : decode cX10_against 14 = .ok (.aload 4, 2) := by decide +kernel
theorem dX10_against_16 : decode cX10_against 16 = .ok (.ifnull 20, 3) := by decide +kernel
theorem dX10_against_19 : decode cX10_against 19 = .ok (.aload 5, 2) := by decide +kernel
theorem dX10_against_21 : decode cX10_against 21 = .ok (.ifnull 15, 3) := by decide +kernel
theorem dX10_against_24 : decode cX10_against 24 = .ok (.iload_n 1, 1) := by decide +kernel
theorem dX10_against_25 : decode cX10_against 25 = .ok (.iload_n 2, 1) := by decide +kernel
theorem dX10_against_26 : decode cX10_against 26 = .ok (.if_icmp .eq 10, 3) := by decide +kernel
theorem dX10_against_29 : decode cX10_against 29 = .ok (.iload_n 3, 1) := by decide +kernel
theorem dX10_against_30 : decode cX10_against 30 = .ok (.invokestatic 63, 3) := by decide +kernel
theorem dX10_against_33 : decode cX10_against 33 = .ok (.ifCond .ne 5, 3) := by decide +kernel
theorem dX10_against_36 : decode cX10_against 36 = .ok (.iconst (-1), 1) := by decide +kernel
theorem dX10_against_37 : decode cX10_against 37 = .ok (.ireturn, 1) := by decide +kernel
theorem dX10_against_38 : decode cX10_against 38 = .ok (.aload_n 0, 1) := by decide +kernel
theorem dX10_against_39 : decode cX10_against 39 = .ok (.aload 4, 2) := by decide +kernel
theorem dX10_against_41 : decode cX10_against 41 = .ok (.aload 5, 2) := by decide +kernel
theorem dX10_against_43 : decode cX10_against 43 = .ok (.iload_n 3, 1) := by decide +kernel
theorem dX10_against_44 : decode cX10_against 44 = .ok (.invokevirtual 131, 3) := by decide +kernel
theorem dX10_against_47 : decode cX10_against 47 = .ok (.ireturn, 1) := by decide +kernel
theorem dX10_post_0 : decode cX10_post 0 = .ok (.aload_n 0, 1) := by decide +kernel
theorem dX10_post_1 : decode cX10_post 1 = .ok (.iload_n 1, 1) := by decide +kernel
theorem dX10_post_2 : decode cX10_post 2 = .ok (.invokevirtual 95, 3) := by decide +kernel
theorem dX10_post_5 : decode cX10_post 5 = .ok (.astore_n 3, 1) := by decide +kernel
theorem dX10_post_6 : decode cX10_post 6 = .ok (.aload_n 0, 1) := by decide +kernel
theorem dX10_post_7 : decode cX10_post 7 = .ok (.iload_n 2, 1) := by decide +kernel
theorem dX10_post_8 : decode cX10_post 8 = .ok (.invokevirtual 95, 3) := by decide +kernel
theorem dX10_post_11 : decode cX10_post 11 = .ok (.astore 4, 2) := by decide +kernel
theorem dX10_post_13 : decode cX10_post 13 = .ok (.aload_n 3, 1) := by decide +kernel
theorem dX10_post_14 : decode cX10_post 14 = .ok (.ifnull 25, 3) := by decide +kernel
theorem dX10_post_17 : decode cX10_post 17 = .ok (.aload 4, 2) := by decide +kernel
theorem dX10_post_19 : decode cX10_post 19 = .ok (.ifnull 20, 3) := by decide +kernel
theorem dX10_post_22 : decode cX10_post 22 = .ok (.iload_n 1, 1) := by decide +kernel
theorem dX10_post_23 : decode cX10_post 23 = .ok (.iload_n 2, 1) := by decide +kernel
theorem dX10_post_24 : decode cX10_post 24 = .ok (.if_icmp .eq 15, 3) := by decide +kernel
theorem dX10_post_27 : decode cX10_post 27 = .ok (.aload_n 0, 1) := by decide +kernel
theorem dX10_post_28 : decode cX10_post 28 = .ok (.getfield 44, 3) := by decide +kernel
theorem dX10_post_31 : decode cX10_post 31 = .ok (.invokevirtual 88, 3) := by decide +kernel
theorem dX10_post_34 : decode cX10_post 34 = .ok (.bipush 60, 2) := by decide +kernel
theorem dX10_post_36 : decode cX10_post 36 = .ok (.if_icmp .lt 5, 3) := by decide +kernel
theorem dX10_post_39 : decode cX10_post 39 = .ok (.iconst (-1), 1) := by decide +kernel
theorem dX10_post_40 : decode cX10_post 40 = .ok (.ireturn, 1) := by decide +kernel
theorem dX10_post_41 : decode cX10_post 41 = .ok (.aload_n 3, 1) := by decide +kernel
theorem dX10_post_42 : decode cX10_post 42 = .ok (.getfield 135, 3) := by decide +kernel
theorem dX10_post_45 : decode cX10_post 45 = .ok (.ifnonnull 21, 3) := by decide +kernel
theorem dX10_post_48 : decode cX10_post 48 = .ok (.aload 4, 2) := by decide +kernel
theorem dX10_post_50 : decode cX10_post 50 = .ok (.getfield 135, 3) := by decide +kernel
theorem dX10_post_53 : decode cX10_post 53 = .ok (.ifnonnull 13, 3) := by decide +kernel
theorem dX10_post_56 : decode cX10_post 56 = .ok (.aload_n 0, 1) := by decide +kernel
theorem dX10_post_57 : decode cX10_post 57 = .ok (.aload_n 3, 1) := by decide +kernel
theorem dX10_post_58 : decode cX10_post 58 = .ok (.aload 4, 2) := by decide +kernel
theorem dX10_post_60 : decode cX10_post 60 = .ok (.invokevirtual 139, 3) := by decide +kernel
theorem dX10_post_63 : decode cX10_post 63 = .ok (.ifCond .eq 5, 3) := by decide +kernel
theorem dX10_post_66 : decode cX10_post 66 = .ok (.iconst (-1), 1) := by decide +kernel
theorem dX10_post_67 : decode cX10_post 67 = .ok (.ireturn, 1) := by decide +kernel
theorem dX10_post_68 : decode cX10_post 68 = .ok (.aload_n 0, 1) := by decide +kernel
theorem dX10_post_69 : decode cX10_post 69 = .ok (.getfield 44, 3) := by decide +kernel
theorem dX10_post_72 : decode cX10_post 72 = .ok (.invokevirtual 88, 3) := by decide +kernel
theorem dX10_post_75 : decode cX10_post 75 = .ok (.istore 5, 2) := by decide +kernel
theorem dX10_post_77 : decode cX10_post 77 = .ok (.aload_n 0, 1) := by decide +kernel
theorem dX10_post_78 : decode cX10_post 78 = .ok (.getfield 44, 3) := by decide +kernel
theorem dX10_post_81 : decode cX10_post 81 = .ok (.new 143, 3) := by decide +kernel
theorem dX10_post_84 : decode cX10_post 84 = .ok (.dup, 1) := by decide +kernel
theorem dX10_post_85 : decode cX10_post 85 = .ok (.iload 5, 2) := by decide +kernel
theorem dX10_post_87 : decode cX10_post 87 = .ok (.aload_n 3, 1) := by decide +kernel
theorem dX10_post_88 : decode cX10_post 88 = .ok (.aload 4, 2) := by decide +kernel
theorem dX10_post_90 : decode cX10_post 90 = .ok (.aload_n 0, 1) := by decide +kernel
theorem dX10_post_91 : decode cX10_post 91 = .ok (.getfield 7, 3) := by decide +kernel
theorem dX10_post_94 : decode cX10_post 94 = .ok (.invokespecial 145, 3) := by decide +kernel
theorem dX10_post_97 : decode cX10_post 97 = .ok (.invokevirtual 102, 3) := by decide +kernel
theorem dX10_post_100 : decode cX10_post 100 = .ok (.pop, 1) := by decide +kernel
theorem dX10_post_101 : decode cX10_post 101 = .ok (.iload 5, 2) := by decide +kernel
theorem dX10_post_103 : decode cX10_post 103 = .ok (.ireturn, 1) := by decide +kernel
theorem dX10_withdraw_0 : decode cX10_withdraw 0 = .ok (.aload_n 0, 1) := by decide +kernel
theorem dX10_withdraw_1 : decode cX10_withdraw 1 = .ok (.iload_n 1, 1) := by decide +kernel
theorem dX10_withdraw_2 : decode cX10_withdraw 2 = .ok (.invokevirtual 148, 3) := by decide +kernel
theorem dX10_withdraw_5 : decode cX10_withdraw 5 = .ok (.astore_n 2, 1) := by decide +kernel
theorem dX10_withdraw_6 : decode cX10_withdraw 6 = .ok (.aload_n 2, 1) := by decide +kernel
theorem dX10_withdraw_7 : decode cX10_withdraw 7 = .ok (.ifnull 10, 3) := by decide +kernel
theorem dX10_withdraw_10 : decode cX10_withdraw 10 = .ok (.aload_n 2, 1) := by decide +kernel
theorem dX10_withdraw_11 : decode cX10_withdraw 11 = .ok (.getfield 152, 3) := by decide +kernel
theorem dX10_withdraw_14 : decode cX10_withdraw 14 = .ok (.ifCond .eq 5, 3) := by decide +kernel
theorem dX10_withdraw_17 : decode cX10_withdraw 17 = .ok (.iconst 0, 1) := by decide +kernel
theorem dX10_withdraw_18 : decode cX10_withdraw 18 = .ok (.ireturn, 1) := by decide +kernel
theorem dX10_withdraw_19 : decode cX10_withdraw 19 = .ok (.aload_n 2, 1) := by decide +kernel
theorem dX10_withdraw_20 : decode cX10_withdraw 20 = .ok (.iconst 2, 1) := by decide +kernel
theorem dX10_withdraw_21 : decode cX10_withdraw 21 = .ok (.putfield 152, 3) := by decide +kernel
theorem dX10_withdraw_24 : decode cX10_withdraw 24 = .ok (.aload_n 2, 1) := by decide +kernel
theorem dX10_withdraw_25 : decode cX10_withdraw 25 = .ok (.iconst (-1), 1) := by decide +kernel
theorem dX10_withdraw_26 : decode cX10_withdraw 26 = .ok (.iconst (-1), 1) := by decide +kernel
theorem dX10_withdraw_27 : decode cX10_withdraw 27 = .ok (.invokevirtual 155, 3) := by decide +kernel
theorem dX10_withdraw_30 : decode cX10_withdraw 30 = .ok (.iconst 1, 1) := by decide +kernel
theorem dX10_withdraw_31 : decode cX10_withdraw 31 = .ok (.ireturn, 1) := by decide +kernel
theorem dX10_hung_0 : decode cX10_hung 0 = .ok (.aload_n 0, 1) := by decide +kernel
theorem dX10_hung_1 : decode cX10_hung 1 = .ok (.iload_n 1, 1) := by decide +kernel
theorem dX10_hung_2 : decode cX10_hung 2 = .ok (.invokevirtual 148, 3) := by decide +kernel
theorem dX10_hung_5 : decode cX10_hung 5 = .ok (.astore_n 3, 1) := by decide +kernel
theorem dX10_hung_6 : decode cX10_hung 6 = .ok (.aload_n 3, 1) := by decide +kernel
theorem dX10_hung_7 : decode cX10_hung 7 = .ok (.ifnull 10, 3) := by decide +kernel
theorem dX10_hung_10 : decode cX10_hung 10 = .ok (.iload_n 2, 1) := by decide +kernel
theorem dX10_hung_11 : decode cX10_hung 11 = .ok (.invokestatic 63, 3) := by decide +kernel
theorem dX10_hung_14 : decode cX10_hung 14 = .ok (.ifCond .ne 5, 3) := by decide +kernel
theorem dX10_hung_17 : decode cX10_hung 17 = .ok (.iconst (-1), 1) := by decide +kernel
theorem dX10_hung_18 : decode cX10_hung 18 = .ok (.ireturn, 1) := by decide +kernel
theorem dX10_hung_19 : decode cX10_hung 19 = .ok (.aload_n 0, 1) := by decide +kernel
theorem dX10_hung_20 : decode cX10_hung 20 = .ok (.getfield 26, 3) := by decide +kernel
theorem dX10_hung_23 : decode cX10_hung 23 = .ok (.aload_n 3, 1) := by decide +kernel
theorem dX10_hung_24 : decode cX10_hung 24 = .ok (.getfield 158, 3) := by decide +kernel
theorem dX10_hung_27 : decode cX10_hung 27 = .ok (.iload_n 2, 1) := by decide +kernel
theorem dX10_hung_28 : decode cX10_hung 28 = .ok (.invokevirtual 161, 3) := by decide +kernel
theorem dX10_hung_31 : decode cX10_hung 31 = .ok (.ireturn, 1) := by decide +kernel
theorem dX10_ripe_0 : decode cX10_ripe 0 = .ok (.aload_n 0, 1) := by decide +kernel
theorem dX10_ripe_1 : decode cX10_ripe 1 = .ok (.iload_n 1, 1) := by decide +kernel
theorem dX10_ripe_2 : decode cX10_ripe 2 = .ok (.invokevirtual 148, 3) := by decide +kernel
theorem dX10_ripe_5 : decode cX10_ripe 5 = .ok (.astore_n 2, 1) := by decide +kernel
theorem dX10_ripe_6 : decode cX10_ripe 6 = .ok (.aload_n 2, 1) := by decide +kernel
theorem dX10_ripe_7 : decode cX10_ripe 7 = .ok (.ifnonnull 5, 3) := by decide +kernel
theorem dX10_ripe_10 : decode cX10_ripe 10 = .ok (.iconst (-1), 1) := by decide +kernel
theorem dX10_ripe_11 : decode cX10_ripe 11 = .ok (.ireturn, 1) := by decide +kernel
theorem dX10_ripe_12 : decode cX10_ripe 12 = .ok (.aload_n 0, 1) := by decide +kernel
theorem dX10_ripe_13 : decode cX10_ripe 13 = .ok (.aload_n 2, 1) := by decide +kernel
theorem dX10_ripe_14 : decode cX10_ripe 14 = .ok (.invokevirtual 164, 3) := by decide +kernel
theorem dX10_ripe_17 : decode cX10_ripe 17 = .ok (.ireturn, 1) := by decide +kernel
theorem dX10_object_0 : decode cX10_object 0 = .ok (.aload_n 0, 1) := by decide +kernel
theorem dX10_object_1 : decode cX10_object 1 = .ok (.iload_n 1, 1) := by decide +kernel
theorem dX10_object_2 : decode cX10_object 2 = .ok (.invokevirtual 148, 3) := by decide +kernel
theorem dX10_object_5 : decode cX10_object 5 = .ok (.astore_n 2, 1) := by decide +kernel
theorem dX10_object_6 : decode cX10_object 6 = .ok (.aload_n 2, 1) := by decide +kernel
theorem dX10_object_7 : decode cX10_object 7 = .ok (.ifnull 22, 3) := by decide +kernel
theorem dX10_object_10 : decode cX10_object 10 = .ok (.aload_n 2, 1) := by decide +kernel
theorem dX10_object_11 : decode cX10_object 11 = .ok (.getfield 152, 3) := by decide +kernel
theorem dX10_object_14 : decode cX10_object 14 = .ok (.ifCond .ne 15, 3) := by decide +kernel
theorem dX10_object_17 : decode cX10_object 17 = .ok (.aload_n 0, 1) := by decide +kernel
theorem dX10_object_18 : decode cX10_object 18 = .ok (.getfield 47, 3) := by decide +kernel
theorem dX10_object_21 : decode cX10_object 21 = .ok (.invokevirtual 88, 3) := by decide +kernel
theorem dX10_object_24 : decode cX10_object 24 = .ok (.bipush 60, 2) := by decide +kernel
theorem dX10_object_26 : decode cX10_object 26 = .ok (.if_icmp .lt 5, 3) := by decide +kernel
theorem dX10_object_29 : decode cX10_object 29 = .ok (.iconst (-1), 1) := by decide +kernel
theorem dX10_object_30 : decode cX10_object 30 = .ok (.ireturn, 1) := by decide +kernel
theorem dX10_object_31 : decode cX10_object 31 = .ok (.aload_n 0, 1) := by decide +kernel
theorem dX10_object_32 : decode cX10_object 32 = .ok (.aload_n 2, 1) := by decide +kernel
theorem dX10_object_33 : decode cX10_object 33 = .ok (.invokevirtual 164, 3) := by decide +kernel
theorem dX10_object_36 : decode cX10_object 36 = .ok (.istore_n 3, 1) := by decide +kernel
theorem dX10_object_37 : decode cX10_object 37 = .ok (.iload_n 3, 1) := by decide +kernel
theorem dX10_object_38 : decode cX10_object 38 = .ok (.iconst (-1), 1) := by decide +kernel
theorem dX10_object_39 : decode cX10_object 39 = .ok (.if_icmp .eq 13, 3) := by decide +kernel
theorem dX10_object_42 : decode cX10_object 42 = .ok (.aload_n 0, 1) := by decide +kernel
theorem dX10_object_43 : decode cX10_object 43 = .ok (.getfield 7, 3) := by decide +kernel
theorem dX10_object_46 : decode cX10_object 46 = .ok (.iload_n 3, 1) := by decide +kernel
theorem dX10_object_47 : decode cX10_object 47 = .ok (.if_icmp .lt 5, 3) := by decide +kernel
theorem dX10_object_50 : decode cX10_object 50 = .ok (.iconst (-1), 1) := by decide +kernel
theorem dX10_object_51 : decode cX10_object 51 = .ok (.ireturn, 1) := by decide +kernel
theorem dX10_object_52 : decode cX10_object 52 = .ok (.aload_n 0, 1) := by decide +kernel
theorem dX10_object_53 : decode cX10_object 53 = .ok (.getfield 47, 3) := by decide +kernel
theorem dX10_object_56 : decode cX10_object 56 = .ok (.invokevirtual 88, 3) := by decide +kernel
theorem dX10_object_59 : decode cX10_object 59 = .ok (.istore 4, 2) := by decide +kernel
theorem dX10_object_61 : decode cX10_object 61 = .ok (.aload_n 0, 1) := by decide +kernel
theorem dX10_object_62 : decode cX10_object 62 = .ok (.getfield 47, 3) := by decide +kernel
theorem dX10_object_65 : decode cX10_object 65 = .ok (.new 168, 3) := by decide +kernel
theorem dX10_object_68 : decode cX10_object 68 = .ok (.dup, 1) := by decide +kernel
theorem dX10_object_69 : decode cX10_object 69 = .ok (.aload_n 2, 1) := by decide +kernel
theorem dX10_object_70 : decode cX10_object 70 = .ok (.invokespecial 170, 3) := by decide +kernel
theorem dX10_object_73 : decode cX10_object 73 = .ok (.invokevirtual 102, 3) := by decide +kernel
theorem dX10_object_76 : decode cX10_object 76 = .ok (.pop, 1) := by decide +kernel
theorem dX10_object_77 : decode cX10_object 77 = .ok (.aload_n 2, 1) := by decide +kernel
theorem dX10_object_78 : decode cX10_object 78 = .ok (.dup, 1) := by decide +kernel
theorem dX10_object_79 : decode cX10_object 79 = .ok (.getfield 173, 3) := by decide +kernel
theorem dX10_object_82 : decode cX10_object 82 = .ok (.iconst 1, 1) := by decide +kernel
theorem dX10_object_83 : decode cX10_object 83 = .ok (.iadd, 1) := by decide +kernel
theorem dX10_object_84 : decode cX10_object 84 = .ok (.putfield 173, 3) := by decide +kernel
theorem dX10_object_87 : decode cX10_object 87 = .ok (.iload 4, 2) := by decide +kernel
theorem dX10_object_89 : decode cX10_object 89 = .ok (.ireturn, 1) := by decide +kernel
theorem dX10_judge_0 : decode cX10_judge 0 = .ok (.iload_n 1, 1) := by decide +kernel
theorem dX10_judge_1 : decode cX10_judge 1 = .ok (.ifCond .lt 14, 3) := by decide +kernel
theorem dX10_judge_4 : decode cX10_judge 4 = .ok (.iload_n 1, 1) := by decide +kernel
theorem dX10_judge_5 : decode cX10_judge 5 = .ok (.aload_n 0, 1) := by decide +kernel
theorem dX10_judge_6 : decode cX10_judge 6 = .ok (.getfield 47, 3) := by decide +kernel
theorem dX10_judge_9 : decode cX10_judge 9 = .ok (.invokevirtual 88, 3) := by decide +kernel
theorem dX10_judge_12 : decode cX10_judge 12 = .ok (.if_icmp .lt 5, 3) := by decide +kernel
theorem dX10_judge_15 : decode cX10_judge 15 = .ok (.iconst 0, 1) := by decide +kernel
theorem dX10_judge_16 : decode cX10_judge 16 = .ok (.ireturn, 1) := by decide +kernel
theorem dX10_judge_17 : decode cX10_judge 17 = .ok (.aload_n 0, 1) := by decide +kernel
theorem dX10_judge_18 : decode cX10_judge 18 = .ok (.getfield 47, 3) := by decide +kernel
theorem dX10_judge_21 : decode cX10_judge 21 = .ok (.iload_n 1, 1) := by decide +kernel
theorem dX10_judge_22 : decode cX10_judge 22 = .ok (.invokevirtual 176, 3) := by decide +kernel
theorem dX10_judge_25 : decode cX10_judge 25 = .ok (.checkcast 168, 3) := by decide +kernel
theorem dX10_judge_28 : decode cX10_judge 28 = .ok (.astore_n 3, 1) := by decide +kernel
theorem dX10_judge_29 : decode cX10_judge 29 = .ok (.aload_n 3, 1) := by decide +kernel
theorem dX10_judge_30 : decode cX10_judge 30 = .ok (.getfield 180, 3) := by decide +kernel
theorem dX10_judge_33 : decode cX10_judge 33 = .ok (.ifCond .ne 5, 3) := by decide +kernel
theorem dX10_judge_36 : decode cX10_judge 36 = .ok (.iconst 0, 1) := by decide +kernel
theorem dX10_judge_37 : decode cX10_judge 37 = .ok (.ireturn, 1) := by decide +kernel
theorem dX10_judge_38 : decode cX10_judge 38 = .ok (.aload_n 3, 1) := by decide +kernel
theorem dX10_judge_39 : decode cX10_judge 39 = .ok (.iconst 0, 1) := by decide +kernel
theorem dX10_judge_40 : decode cX10_judge 40 = .ok (.putfield 180, 3) := by decide +kernel
theorem dX10_judge_43 : decode cX10_judge 43 = .ok (.iload_n 2, 1) := by decide +kernel
theorem dX10_judge_44 : decode cX10_judge 44 = .ok (.ifCond .ne 16, 3) := by decide +kernel
theorem dX10_judge_47 : decode cX10_judge 47 = .ok (.aload_n 3, 1) := by decide +kernel
theorem dX10_judge_48 : decode cX10_judge 48 = .ok (.getfield 184, 3) := by decide +kernel
theorem dX10_judge_51 : decode cX10_judge 51 = .ok (.dup, 1) := by decide +kernel
theorem dX10_judge_52 : decode cX10_judge 52 = .ok (.getfield 173, 3) := by decide +kernel
theorem dX10_judge_55 : decode cX10_judge 55 = .ok (.iconst 1, 1) := by decide +kernel
theorem dX10_judge_56 : decode cX10_judge 56 = .ok (.isub, 1) := by decide +kernel
theorem dX10_judge_57 : decode cX10_judge 57 = .ok (.putfield 173, 3) := by decide +kernel
theorem dX10_judge_60 : decode cX10_judge 60 = .ok (.iconst 1, 1) := by decide +kernel
theorem dX10_judge_61 : decode cX10_judge 61 = .ok (.ireturn, 1) := by decide +kernel
theorem dX10_registrar_0 : decode cX10_registrar 0 = .ok (.iload_n 1, 1) := by decide +kernel
theorem dX10_registrar_1 : decode cX10_registrar 1 = .ok (.ifCond .lt 18, 3) := by decide +kernel
theorem dX10_registrar_4 : decode cX10_registrar 4 = .ok (.iload_n 1, 1) := by decide +kernel
theorem dX10_registrar_5 : decode cX10_registrar 5 = .ok (.bipush 31, 2) := by decide +kernel
theorem dX10_registrar_7 : decode cX10_registrar 7 = .ok (.if_icmp .gt 12, 3) := by decide +kernel
theorem dX10_registrar_10 : decode cX10_registrar 10 = .ok (.aload_n 0, 1) := by decide +kernel
theorem dX10_registrar_11 : decode cX10_registrar 11 = .ok (.getfield 16, 3) := by decide +kernel
theorem dX10_registrar_14 : decode cX10_registrar 14 = .ok (.bipush 6, 2) := by decide +kernel
theorem dX10_registrar_16 : decode cX10_registrar 16 = .ok (.if_icmp .lt 5, 3) := by decide +kernel
theorem dX10_registrar_19 : decode cX10_registrar 19 = .ok (.iconst (-1), 1) := by decide +kernel
theorem dX10_registrar_20 : decode cX10_registrar 20 = .ok (.ireturn, 1) := by decide +kernel
theorem dX10_registrar_21 : decode cX10_registrar 21 = .ok (.aload_n 0, 1) := by decide +kernel
theorem dX10_registrar_22 : decode cX10_registrar 22 = .ok (.getfield 16, 3) := by decide +kernel
theorem dX10_registrar_25 : decode cX10_registrar 25 = .ok (.istore_n 2, 1) := by decide +kernel
theorem dX10_registrar_26 : decode cX10_registrar 26 = .ok (.aload_n 0, 1) := by decide +kernel
theorem dX10_registrar_27 : decode cX10_registrar 27 = .ok (.getfield 19, 3) := by decide +kernel
theorem dX10_registrar_30 : decode cX10_registrar 30 = .ok (.iload_n 2, 1) := by decide +kernel
theorem dX10_registrar_31 : decode cX10_registrar 31 = .ok (.iload_n 1, 1) := by decide +kernel
theorem dX10_registrar_32 : decode cX10_registrar 32 = .ok (.iastore, 1) := by decide +kernel
theorem dX10_registrar_33 : decode cX10_registrar 33 = .ok (.aload_n 0, 1) := by decide +kernel
theorem dX10_registrar_34 : decode cX10_registrar 34 = .ok (.dup, 1) := by decide +kernel
theorem dX10_registrar_35 : decode cX10_registrar 35 = .ok (.getfield 16, 3) := by decide +kernel
theorem dX10_registrar_38 : decode cX10_registrar 38 = .ok (.iconst 1, 1) := by decide +kernel
theorem dX10_registrar_39 : decode cX10_registrar 39 = .ok (.iadd, 1) := by decide +kernel
theorem dX10_registrar_40 : decode cX10_registrar 40 = .ok (.putfield 16, 3) := by decide +kernel
theorem dX10_registrar_43 : decode cX10_registrar 43 = .ok (.iload_n 2, 1) := by decide +kernel
theorem dX10_registrar_44 : decode cX10_registrar 44 = .ok (.ireturn, 1) := by decide +kernel
theorem dX10_book_0 : decode cX10_book 0 = .ok (.aload_n 0, 1) := by decide +kernel
theorem dX10_book_1 : decode cX10_book 1 = .ok (.iload_n 1, 1) := by decide +kernel
theorem dX10_book_2 : decode cX10_book 2 = .ok (.invokevirtual 148, 3) := by decide +kernel
theorem dX10_book_5 : decode cX10_book 5 = .ok (.astore 4, 2) := by decide +kernel
theorem dX10_book_7 : decode cX10_book 7 = .ok (.aload 4, 2) := by decide +kernel
theorem dX10_book_9 : decode cX10_book 9 = .ok (.ifnull 19, 3) := by decide +kernel
theorem dX10_book_12 : decode cX10_book 12 = .ok (.aload_n 0, 1) := by decide +kernel
theorem dX10_book_13 : decode cX10_book 13 = .ok (.iload_n 2, 1) := by decide +kernel
theorem dX10_book_14 : decode cX10_book 14 = .ok (.invokevirtual 188, 3) := by decide +kernel
theorem dX10_book_17 : decode cX10_book 17 = .ok (.ifCond .eq 11, 3) := by decide +kernel
theorem dX10_book_20 : decode cX10_book 20 = .ok (.aload_n 0, 1) := by decide +kernel
theorem dX10_book_21 : decode cX10_book 21 = .ok (.iload_n 3, 1) := by decide +kernel
theorem dX10_book_22 : decode cX10_book 22 = .ok (.invokevirtual 191, 3) := by decide +kernel
theorem dX10_book_25 : decode cX10_book 25 = .ok (.ifCond .ne 5, 3) := by decide +kernel
theorem dX10_book_28 : decode cX10_book 28 = .ok (.iconst (-1), 1) := by decide +kernel
theorem dX10_book_29 : decode cX10_book 29 = .ok (.ireturn, 1) := by decide +kernel
theorem dX10_book_30 : decode cX10_book 30 = .ok (.aload_n 0, 1) := by decide +kernel
theorem dX10_book_31 : decode cX10_book 31 = .ok (.aload 4, 2) := by decide +kernel
theorem dX10_book_33 : decode cX10_book 33 = .ok (.iload_n 2, 1) := by decide +kernel
theorem dX10_book_34 : decode cX10_book 34 = .ok (.invokevirtual 194, 3) := by decide +kernel
theorem dX10_book_37 : decode cX10_book 37 = .ok (.istore 5, 2) := by decide +kernel
theorem dX10_book_39 : decode cX10_book 39 = .ok (.iload 5, 2) := by decide +kernel
theorem dX10_book_41 : decode cX10_book 41 = .ok (.ifCond .ne 19, 3) := by decide +kernel
theorem dX10_book_44 : decode cX10_book 44 = .ok (.aload_n 0, 1) := by decide +kernel
theorem dX10_book_45 : decode cX10_book 45 = .ok (.iload_n 2, 1) := by decide +kernel
theorem dX10_book_46 : decode cX10_book 46 = .ok (.aload 4, 2) := by decide +kernel
theorem dX10_book_48 : decode cX10_book 48 = .ok (.invokevirtual 198, 3) := by decide +kernel
theorem dX10_book_51 : decode cX10_book 51 = .ok (.aload_n 0, 1) := by decide +kernel
theorem dX10_book_52 : decode cX10_book 52 = .ok (.aload 4, 2) := by decide +kernel
theorem dX10_book_54 : decode cX10_book 54 = .ok (.iload_n 3, 1) := by decide +kernel
theorem dX10_book_55 : decode cX10_book 55 = .ok (.invokevirtual 202, 3) := by decide +kernel
theorem dX10_book_58 : decode cX10_book 58 = .ok (.istore 5, 2) := by decide +kernel
theorem dX10_book_60 : decode cX10_book 60 = .ok (.iload 5, 2) := by decide +kernel
theorem dX10_book_62 : decode cX10_book 62 = .ok (.ifCond .ne 10, 3) := by decide +kernel
theorem dX10_book_65 : decode cX10_book 65 = .ok (.aload 4, 2) := by decide +kernel
theorem dX10_book_67 : decode cX10_book 67 = .ok (.iload_n 2, 1) := by decide +kernel
theorem dX10_book_68 : decode cX10_book 68 = .ok (.iload_n 3, 1) := by decide +kernel
theorem dX10_book_69 : decode cX10_book 69 = .ok (.invokevirtual 155, 3) := by decide +kernel
theorem dX10_book_72 : decode cX10_book 72 = .ok (.iload 5, 2) := by decide +kernel
theorem dX10_book_74 : decode cX10_book 74 = .ok (.ireturn, 1) := by decide +kernel
theorem dX10_order_0 : decode cX10_order 0 = .ok (.aload_n 0, 1) := by decide +kernel
theorem dX10_order_1 : decode cX10_order 1 = .ok (.iload_n 1, 1) := by decide +kernel
theorem dX10_order_2 : decode cX10_order 2 = .ok (.invokevirtual 188, 3) := by decide +kernel
theorem dX10_order_5 : decode cX10_order 5 = .ok (.ifCond .ne 5, 3) := by decide +kernel
theorem dX10_order_8 : decode cX10_order 8 = .ok (.iconst (-1), 1) := by decide +kernel
theorem dX10_order_9 : decode cX10_order 9 = .ok (.ireturn, 1) := by decide +kernel
theorem dX10_order_10 : decode cX10_order 10 = .ok (.aload_n 0, 1) := by decide +kernel
theorem dX10_order_11 : decode cX10_order 11 = .ok (.iload_n 1, 1) := by decide +kernel
theorem dX10_order_12 : decode cX10_order 12 = .ok (.aconst_null, 1) := by decide +kernel
theorem dX10_order_13 : decode cX10_order 13 = .ok (.invokevirtual 198, 3) := by decide +kernel
theorem dX10_order_16 : decode cX10_order 16 = .ok (.iconst 0, 1) := by decide +kernel
theorem dX10_order_17 : decode cX10_order 17 = .ok (.istore_n 2, 1) := by decide +kernel
theorem dX10_order_18 : decode cX10_order 18 = .ok (.iconst 0, 1) := by decide +kernel
theorem dX10_order_19 : decode cX10_order 19 = .ok (.istore_n 3, 1) := by decide +kernel
theorem dX10_order_20 : decode cX10_order 20 = .ok (.iload_n 3, 1) := by decide +kernel
theorem dX10_order_21 : decode cX10_order 21 = .ok (.aload_n 0, 1) := by decide +kernel
theorem dX10_order_22 : decode cX10_order 22 = .ok (.getfield 44, 3) := by decide +kernel
theorem dX10_order_25 : decode cX10_order 25 = .ok (.invokevirtual 88, 3) := by decide +kernel
theorem dX10_order_28 : decode cX10_order 28 = .ok (.if_icmp .ge 31, 3) := by decide +kernel
theorem dX10_order_31 : decode cX10_order 31 = .ok (.aload_n 0, 1) := by decide +kernel
theorem dX10_order_32 : decode cX10_order 32 = .ok (.aload_n 0, 1) := by decide +kernel
theorem dX10_order_33 : decode cX10_order 33 = .ok (.getfield 44, 3) := by decide +kernel
theorem dX10_order_36 : decode cX10_order 36 = .ok (.iload_n 3, 1) := by decide +kernel
theorem dX10_order_37 : decode cX10_order 37 = .ok (.invokevirtual 176, 3) := by decide +kernel
theorem dX10_order_40 : decode cX10_order 40 = .ok (.checkcast 143, 3) := by decide +kernel
theorem dX10_order_43 : decode cX10_order 43 = .ok (.iload_n 1, 1) := by decide +kernel
theorem dX10_order_44 : decode cX10_order 44 = .ok (.invokevirtual 205, 3) := by decide +kernel
theorem dX10_order_47 : decode cX10_order 47 = .ok (.ifCond .eq 6, 3) := by decide +kernel
theorem dX10_order_50 : decode cX10_order 50 = .ok (.iinc 2 1, 3) := by decide +kernel
theorem dX10_order_53 : decode cX10_order 53 = .ok (.iinc 3 1, 3) := by decide +kernel
theorem dX10_order_56 : decode cX10_order 56 = .ok (.goto (-36), 3) := by decide +kernel
theorem dX10_order_59 : decode cX10_order 59 = .ok (.iload_n 2, 1) := by decide +kernel
theorem dX10_order_60 : decode cX10_order 60 = .ok (.ireturn, 1) := by decide +kernel
theorem dX10_wed_0 : decode cX10_wed 0 = .ok (.aload_n 0, 1) := by decide +kernel
theorem dX10_wed_1 : decode cX10_wed 1 = .ok (.iload_n 1, 1) := by decide +kernel
theorem dX10_wed_2 : decode cX10_wed 2 = .ok (.invokevirtual 148, 3) := by decide +kernel
theorem dX10_wed_5 : decode cX10_wed 5 = .ok (.astore_n 2, 1) := by decide +kernel
theorem dX10_wed_6 : decode cX10_wed 6 = .ok (.aload_n 2, 1) := by decide +kernel
theorem dX10_wed_7 : decode cX10_wed 7 = .ok (.ifnull 21, 3) := by decide +kernel
theorem dX10_wed_10 : decode cX10_wed 10 = .ok (.aload_n 2, 1) := by decide +kernel
theorem dX10_wed_11 : decode cX10_wed 11 = .ok (.getfield 152, 3) := by decide +kernel
theorem dX10_wed_14 : decode cX10_wed 14 = .ok (.ifCond .ne 14, 3) := by decide +kernel
theorem dX10_wed_17 : decode cX10_wed 17 = .ok (.aload_n 2, 1) := by decide +kernel
theorem dX10_wed_18 : decode cX10_wed 18 = .ok (.getfield 209, 3) := by decide +kernel
theorem dX10_wed_21 : decode cX10_wed 21 = .ok (.aload_n 0, 1) := by decide +kernel
theorem dX10_wed_22 : decode cX10_wed 22 = .ok (.getfield 7, 3) := by decide +kernel
theorem dX10_wed_25 : decode cX10_wed 25 = .ok (.if_icmp .eq 5, 3) := by decide +kernel
theorem dX10_wed_28 : decode cX10_wed 28 = .ok (.iconst (-1), 1) := by decide +kernel
theorem dX10_wed_29 : decode cX10_wed 29 = .ok (.ireturn, 1) := by decide +kernel
theorem dX10_wed_30 : decode cX10_wed 30 = .ok (.aload_n 0, 1) := by decide +kernel
theorem dX10_wed_31 : decode cX10_wed 31 = .ok (.aload_n 2, 1) := by decide +kernel
theorem dX10_wed_32 : decode cX10_wed 32 = .ok (.getfield 212, 3) := by decide +kernel
theorem dX10_wed_35 : decode cX10_wed 35 = .ok (.aload_n 2, 1) := by decide +kernel
theorem dX10_wed_36 : decode cX10_wed 36 = .ok (.getfield 215, 3) := by decide +kernel
theorem dX10_wed_39 : decode cX10_wed 39 = .ok (.aload_n 0, 1) := by decide +kernel
theorem dX10_wed_40 : decode cX10_wed 40 = .ok (.getfield 7, 3) := by decide +kernel
theorem dX10_wed_43 : decode cX10_wed 43 = .ok (.invokevirtual 131, 3) := by decide +kernel
theorem dX10_wed_46 : decode cX10_wed 46 = .ok (.ifCond .ne 15, 3) := by decide +kernel
theorem dX10_wed_49 : decode cX10_wed 49 = .ok (.aload_n 0, 1) := by decide +kernel
theorem dX10_wed_50 : decode cX10_wed 50 = .ok (.aload_n 2, 1) := by decide +kernel
theorem dX10_wed_51 : decode cX10_wed 51 = .ok (.aload_n 0, 1) := by decide +kernel
theorem dX10_wed_52 : decode cX10_wed 52 = .ok (.getfield 7, 3) := by decide +kernel
theorem dX10_wed_55 : decode cX10_wed 55 = .ok (.invokevirtual 218, 3) := by decide +kernel
theorem dX10_wed_58 : decode cX10_wed 58 = .ok (.ifCond .ne 5, 3) := by decide +kernel
theorem dX10_wed_61 : decode cX10_wed 61 = .ok (.iconst (-1), 1) := by decide +kernel
theorem dX10_wed_62 : decode cX10_wed 62 = .ok (.ireturn, 1) := by decide +kernel
theorem dX10_wed_63 : decode cX10_wed 63 = .ok (.aload_n 2, 1) := by decide +kernel
theorem dX10_wed_64 : decode cX10_wed 64 = .ok (.iconst 1, 1) := by decide +kernel
theorem dX10_wed_65 : decode cX10_wed 65 = .ok (.putfield 152, 3) := by decide +kernel
theorem dX10_wed_68 : decode cX10_wed 68 = .ok (.aload_n 2, 1) := by decide +kernel
theorem dX10_wed_69 : decode cX10_wed 69 = .ok (.getfield 212, 3) := by decide +kernel
theorem dX10_wed_72 : decode cX10_wed 72 = .ok (.aload_n 2, 1) := by decide +kernel
theorem dX10_wed_73 : decode cX10_wed 73 = .ok (.getfield 215, 3) := by decide +kernel
theorem dX10_wed_76 : decode cX10_wed 76 = .ok (.putfield 135, 3) := by decide +kernel
theorem dX10_wed_79 : decode cX10_wed 79 = .ok (.aload_n 2, 1) := by decide +kernel
theorem dX10_wed_80 : decode cX10_wed 80 = .ok (.getfield 215, 3) := by decide +kernel
theorem dX10_wed_83 : decode cX10_wed 83 = .ok (.aload_n 2, 1) := by decide +kernel
theorem dX10_wed_84 : decode cX10_wed 84 = .ok (.getfield 212, 3) := by decide +kernel
theorem dX10_wed_87 : decode cX10_wed 87 = .ok (.putfield 135, 3) := by decide +kernel
theorem dX10_wed_90 : decode cX10_wed 90 = .ok (.aload_n 0, 1) := by decide +kernel
theorem dX10_wed_91 : decode cX10_wed 91 = .ok (.getfield 50, 3) := by decide +kernel
theorem dX10_wed_94 : decode cX10_wed 94 = .ok (.invokevirtual 88, 3) := by decide +kernel
theorem dX10_wed_97 : decode cX10_wed 97 = .ok (.istore_n 3, 1) := by decide +kernel
theorem dX10_wed_98 : decode cX10_wed 98 = .ok (.aload_n 0, 1) := by decide +kernel
theorem dX10_wed_99 : decode cX10_wed 99 = .ok (.getfield 50, 3) := by decide +kernel
theorem dX10_wed_102 : decode cX10_wed 102 = .ok (.new 221, 3) := by decide +kernel
theorem dX10_wed_105 : decode cX10_wed 105 = .ok (.dup, 1) := by decide +kernel
theorem dX10_wed_106 : decode cX10_wed 106 = .ok (.aload_n 2, 1) := by decide +kernel
theorem dX10_wed_107 : decode cX10_wed 107 = .ok (.aload_n 0, 1) := by decide +kernel
theorem dX10_wed_108 : decode cX10_wed 108 = .ok (.getfield 7, 3) := by decide +kernel
theorem dX10_wed_111 : decode cX10_wed 111 = .ok (.invokespecial 223, 3) := by decide +kernel
theorem dX10_wed_114 : decode cX10_wed 114 = .ok (.invokevirtual 102, 3) := by decide +kernel
theorem dX10_wed_117 : decode cX10_wed 117 = .ok (.pop, 1) := by decide +kernel
theorem dX10_wed_118 : decode cX10_wed 118 = .ok (.iload_n 3, 1) := by decide +kernel
theorem dX10_wed_119 : decode cX10_wed 119 = .ok (.ireturn, 1) := by decide +kernel
theorem dX10_part_0 : decode cX10_part 0 = .ok (.aload_n 0, 1) := by decide +kernel
theorem dX10_part_1 : decode cX10_part 1 = .ok (.iload_n 1, 1) := by decide +kernel
theorem dX10_part_2 : decode cX10_part 2 = .ok (.invokevirtual 95, 3) := by decide +kernel
theorem dX10_part_5 : decode cX10_part 5 = .ok (.astore_n 2, 1) := by decide +kernel
theorem dX10_part_6 : decode cX10_part 6 = .ok (.aload_n 2, 1) := by decide +kernel
theorem dX10_part_7 : decode cX10_part 7 = .ok (.ifnonnull 5, 3) := by decide +kernel
theorem dX10_part_10 : decode cX10_part 10 = .ok (.iconst 0, 1) := by decide +kernel
theorem dX10_part_11 : decode cX10_part 11 = .ok (.ireturn, 1) := by decide +kernel
theorem dX10_part_12 : decode cX10_part 12 = .ok (.aload_n 2, 1) := by decide +kernel
theorem dX10_part_13 : decode cX10_part 13 = .ok (.getfield 135, 3) := by decide +kernel
theorem dX10_part_16 : decode cX10_part 16 = .ok (.astore_n 3, 1) := by decide +kernel
theorem dX10_part_17 : decode cX10_part 17 = .ok (.aload_n 3, 1) := by decide +kernel
theorem dX10_part_18 : decode cX10_part 18 = .ok (.ifnonnull 5, 3) := by decide +kernel
theorem dX10_part_21 : decode cX10_part 21 = .ok (.iconst 0, 1) := by decide +kernel
theorem dX10_part_22 : decode cX10_part 22 = .ok (.ireturn, 1) := by decide +kernel
theorem dX10_part_23 : decode cX10_part 23 = .ok (.aload_n 3, 1) := by decide +kernel
theorem dX10_part_24 : decode cX10_part 24 = .ok (.aconst_null, 1) := by decide +kernel
theorem dX10_part_25 : decode cX10_part 25 = .ok (.putfield 135, 3) := by decide +kernel
theorem dX10_part_28 : decode cX10_part 28 = .ok (.aload_n 2, 1) := by decide +kernel
theorem dX10_part_29 : decode cX10_part 29 = .ok (.aconst_null, 1) := by decide +kernel
theorem dX10_part_30 : decode cX10_part 30 = .ok (.putfield 135, 3) := by decide +kernel
theorem dX10_part_33 : decode cX10_part 33 = .ok (.iconst 1, 1) := by decide +kernel
theorem dX10_part_34 : decode cX10_part 34 = .ok (.ireturn, 1) := by decide +kernel
theorem dX10_correct_0 : decode cX10_correct 0 = .ok (.aload_n 0, 1) := by decide +kernel
theorem dX10_correct_1 : decode cX10_correct 1 = .ok (.iload_n 1, 1) := by decide +kernel
theorem dX10_correct_2 : decode cX10_correct 2 = .ok (.invokevirtual 226, 3) := by decide +kernel
theorem dX10_correct_5 : decode cX10_correct 5 = .ok (.astore 4, 2) := by decide +kernel
theorem dX10_correct_7 : decode cX10_correct 7 = .ok (.aload 4, 2) := by decide +kernel
theorem dX10_correct_9 : decode cX10_correct 9 = .ok (.ifnull 12, 3) := by decide +kernel
theorem dX10_correct_12 : decode cX10_correct 12 = .ok (.iload_n 2, 1) := by decide +kernel
theorem dX10_correct_13 : decode cX10_correct 13 = .ok (.ifCond .lt 8, 3) := by decide +kernel
theorem dX10_correct_16 : decode cX10_correct 16 = .ok (.iload_n 2, 1) := by decide +kernel
theorem dX10_correct_17 : decode cX10_correct 17 = .ok (.iconst 5, 1) := by decide +kernel
theorem dX10_correct_18 : decode cX10_correct 18 = .ok (.if_icmp .lt 5, 3) := by decide +kernel
theorem dX10_correct_21 : decode cX10_correct 21 = .ok (.iconst 0, 1) := by decide +kernel
theorem dX10_correct_22 : decode cX10_correct 22 = .ok (.ireturn, 1) := by decide +kernel
theorem dX10_correct_23 : decode cX10_correct 23 = .ok (.iload_n 3, 1) := by decide +kernel
theorem dX10_correct_24 : decode cX10_correct 24 = .ok (.ifCond .lt 22, 3) := by decide +kernel
theorem dX10_correct_27 : decode cX10_correct 27 = .ok (.iload_n 3, 1) := by decide +kernel
theorem dX10_correct_28 : decode cX10_correct 28 = .ok (.sipush 20000, 3) := by decide +kernel
theorem dX10_correct_31 : decode cX10_correct 31 = .ok (.if_icmp .gt 15, 3) := by decide +kernel
theorem dX10_correct_34 : decode cX10_correct 34 = .ok (.aload_n 0, 1) := by decide +kernel
theorem dX10_correct_35 : decode cX10_correct 35 = .ok (.getfield 53, 3) := by decide +kernel
theorem dX10_correct_38 : decode cX10_correct 38 = .ok (.invokevirtual 88, 3) := by decide +kernel
theorem dX10_correct_41 : decode cX10_correct 41 = .ok (.bipush 100, 2) := by decide +kernel
theorem dX10_correct_43 : decode cX10_correct 43 = .ok (.if_icmp .lt 5, 3) := by decide +kernel
theorem dX10_correct_46 : decode cX10_correct 46 = .ok (.iconst 0, 1) := by decide +kernel
theorem dX10_correct_47 : decode cX10_correct 47 = .ok (.ireturn, 1) := by decide +kernel
theorem dX10_correct_48 : decode cX10_correct 48 = .ok (.aload_n 0, 1) := by decide +kernel
theorem dX10_correct_49 : decode cX10_correct 49 = .ok (.getfield 53, 3) := by decide +kernel
theorem dX10_correct_52 : decode cX10_correct 52 = .ok (.new 230, 3) := by decide +kernel
theorem dX10_correct_55 : decode cX10_correct 55 = .ok (.dup, 1) := by decide +kernel
theorem dX10_correct_56 : decode cX10_correct 56 = .ok (.iload_n 1, 1) := by decide +kernel
theorem dX10_correct_57 : decode cX10_correct 57 = .ok (.iload_n 2, 1) := by decide +kernel
theorem dX10_correct_58 : decode cX10_correct 58 = .ok (.iload_n 3, 1) := by decide +kernel
theorem dX10_correct_59 : decode cX10_correct 59 = .ok (.aload_n 0, 1) := by decide +kernel
theorem dX10_correct_60 : decode cX10_correct 60 = .ok (.getfield 7, 3) := by decide +kernel
theorem dX10_correct_63 : decode cX10_correct 63 = .ok (.invokespecial 232, 3) := by decide +kernel
theorem dX10_correct_66 : decode cX10_correct 66 = .ok (.invokevirtual 102, 3) := by decide +kernel
theorem dX10_correct_69 : decode cX10_correct 69 = .ok (.pop, 1) := by decide +kernel
theorem dX10_correct_70 : decode cX10_correct 70 = .ok (.iconst 1, 1) := by decide +kernel
theorem dX10_correct_71 : decode cX10_correct 71 = .ok (.ireturn, 1) := by decide +kernel
theorem dX10_entry_0 : decode cX10_entry 0 = .ok (.aload_n 0, 1) := by decide +kernel
theorem dX10_entry_1 : decode cX10_entry 1 = .ok (.iload_n 1, 1) := by decide +kernel
theorem dX10_entry_2 : decode cX10_entry 2 = .ok (.invokevirtual 226, 3) := by decide +kernel
theorem dX10_entry_5 : decode cX10_entry 5 = .ok (.astore 4, 2) := by decide +kernel
theorem dX10_entry_7 : decode cX10_entry 7 = .ok (.aload 4, 2) := by decide +kernel
theorem dX10_entry_9 : decode cX10_entry 9 = .ok (.ifnull 30, 3) := by decide +kernel
theorem dX10_entry_12 : decode cX10_entry 12 = .ok (.iload_n 2, 1) := by decide +kernel
theorem dX10_entry_13 : decode cX10_entry 13 = .ok (.ifCond .lt 26, 3) := by decide +kernel
theorem dX10_entry_16 : decode cX10_entry 16 = .ok (.iload_n 2, 1) := by decide +kernel
theorem dX10_entry_17 : decode cX10_entry 17 = .ok (.bipush 8, 2) := by decide +kernel
theorem dX10_entry_19 : decode cX10_entry 19 = .ok (.if_icmp .ge 20, 3) := by decide +kernel
theorem dX10_entry_22 : decode cX10_entry 22 = .ok (.iload_n 3, 1) := by decide +kernel
theorem dX10_entry_23 : decode cX10_entry 23 = .ok (.aload 4, 2) := by decide +kernel
theorem dX10_entry_25 : decode cX10_entry 25 = .ok (.getfield 233, 3) := by decide +kernel
theorem dX10_entry_28 : decode cX10_entry 28 = .ok (.if_icmp .lt 11, 3) := by decide +kernel
theorem dX10_entry_31 : decode cX10_entry 31 = .ok (.iload_n 3, 1) := by decide +kernel
theorem dX10_entry_32 : decode cX10_entry 32 = .ok (.aload_n 0, 1) := by decide +kernel
theorem dX10_entry_33 : decode cX10_entry 33 = .ok (.getfield 7, 3) := by decide +kernel
theorem dX10_entry_36 : decode cX10_entry 36 = .ok (.if_icmp .le 5, 3) := by decide +kernel
theorem dX10_entry_39 : decode cX10_entry 39 = .ok (.iconst (-1), 1) := by decide +kernel
theorem dX10_entry_40 : decode cX10_entry 40 = .ok (.ireturn, 1) := by decide +kernel
theorem dX10_entry_41 : decode cX10_entry 41 = .ok (.aload_n 0, 1) := by decide +kernel
theorem dX10_entry_42 : decode cX10_entry 42 = .ok (.getfield 53, 3) := by decide +kernel
theorem dX10_entry_45 : decode cX10_entry 45 = .ok (.invokevirtual 88, 3) := by decide +kernel
theorem dX10_entry_48 : decode cX10_entry 48 = .ok (.iconst 1, 1) := by decide +kernel
theorem dX10_entry_49 : decode cX10_entry 49 = .ok (.isub, 1) := by decide +kernel
theorem dX10_entry_50 : decode cX10_entry 50 = .ok (.istore 5, 2) := by decide +kernel
theorem dX10_entry_52 : decode cX10_entry 52 = .ok (.iload 5, 2) := by decide +kernel
theorem dX10_entry_54 : decode cX10_entry 54 = .ok (.ifCond .lt 56, 3) := by decide +kernel
theorem dX10_entry_57 : decode cX10_entry 57 = .ok (.aload_n 0, 1) := by decide +kernel
theorem dX10_entry_58 : decode cX10_entry 58 = .ok (.getfield 53, 3) := by decide +kernel
theorem dX10_entry_61 : decode cX10_entry 61 = .ok (.iload 5, 2) := by decide +kernel
theorem dX10_entry_63 : decode cX10_entry 63 = .ok (.invokevirtual 176, 3) := by decide +kernel
theorem dX10_entry_66 : decode cX10_entry 66 = .ok (.checkcast 230, 3) := by decide +kernel
theorem dX10_entry_69 : decode cX10_entry 69 = .ok (.astore 6, 2) := by decide +kernel
theorem dX10_entry_71 : decode cX10_entry 71 = .ok (.aload 6, 2) := by decide +kernel
theorem dX10_entry_73 : decode cX10_entry 73 = .ok (.getfield 236, 3) := by decide +kernel
theorem dX10_entry_76 : decode cX10_entry 76 = .ok (.iload_n 1, 1) := by decide +kernel
theorem dX10_entry_77 : decode cX10_entry 77 = .ok (.if_icmp .ne 27, 3) := by decide +kernel
theorem dX10_entry_80 : decode cX10_entry 80 = .ok (.aload 6, 2) := by decide +kernel
theorem dX10_entry_82 : decode cX10_entry 82 = .ok (.getfield 239, 3) := by decide +kernel
theorem dX10_entry_85 : decode cX10_entry 85 = .ok (.iload_n 2, 1) := by decide +kernel
theorem dX10_entry_86 : decode cX10_entry 86 = .ok (.if_icmp .ne 18, 3) := by decide +kernel
theorem dX10_entry_89 : decode cX10_entry 89 = .ok (.aload 6, 2) := by decide +kernel
theorem dX10_entry_91 : decode cX10_entry 91 = .ok (.getfield 242, 3) := by decide +kernel
theorem dX10_entry_94 : decode cX10_entry 94 = .ok (.iload_n 3, 1) := by decide +kernel
theorem dX10_entry_95 : decode cX10_entry 95 = .ok (.if_icmp .gt 9, 3) := by decide +kernel
theorem dX10_entry_98 : decode cX10_entry 98 = .ok (.aload 6, 2) := by decide +kernel
theorem dX10_entry_100 : decode cX10_entry 100 = .ok (.getfield 243, 3) := by decide +kernel
theorem dX10_entry_103 : decode cX10_entry 103 = .ok (.ireturn, 1) := by decide +kernel
theorem dX10_entry_104 : decode cX10_entry 104 = .ok (.iinc 5 (-1), 3) := by decide +kernel
theorem dX10_entry_107 : decode cX10_entry 107 = .ok (.goto (-55), 3) := by decide +kernel
theorem dX10_entry_110 : decode cX10_entry 110 = .ok (.aload 4, 2) := by decide +kernel
theorem dX10_entry_112 : decode cX10_entry 112 = .ok (.iload_n 2, 1) := by decide +kernel
theorem dX10_entry_113 : decode cX10_entry 113 = .ok (.invokevirtual 246, 3) := by decide +kernel
theorem dX10_entry_116 : decode cX10_entry 116 = .ok (.ireturn, 1) := by decide +kernel
theorem dX10_name_0 : decode cX10_name 0 = .ok (.aload_n 0, 1) := by decide +kernel
theorem dX10_name_1 : decode cX10_name 1 = .ok (.iload_n 1, 1) := by decide +kernel
theorem dX10_name_2 : decode cX10_name 2 = .ok (.invokevirtual 226, 3) := by decide +kernel
theorem dX10_name_5 : decode cX10_name 5 = .ok (.astore 4, 2) := by decide +kernel
theorem dX10_name_7 : decode cX10_name 7 = .ok (.aload 4, 2) := by decide +kernel
theorem dX10_name_9 : decode cX10_name 9 = .ok (.ifnull 21, 3) := by decide +kernel
theorem dX10_name_12 : decode cX10_name 12 = .ok (.iload_n 2, 1) := by decide +kernel
theorem dX10_name_13 : decode cX10_name 13 = .ok (.ifCond .lt 17, 3) := by decide +kernel
theorem dX10_name_16 : decode cX10_name 16 = .ok (.iload_n 2, 1) := by decide +kernel
theorem dX10_name_17 : decode cX10_name 17 = .ok (.iconst 1, 1) := by decide +kernel
theorem dX10_name_18 : decode cX10_name 18 = .ok (.if_icmp .gt 12, 3) := by decide +kernel
theorem dX10_name_21 : decode cX10_name 21 = .ok (.iload_n 3, 1) := by decide +kernel
theorem dX10_name_22 : decode cX10_name 22 = .ok (.ifCond .lt 8, 3) := by decide +kernel
theorem dX10_name_25 : decode cX10_name 25 = .ok (.iload_n 3, 1) := by decide +kernel
theorem dX10_name_26 : decode cX10_name 26 = .ok (.iconst 1, 1) := by decide +kernel
theorem dX10_name_27 : decode cX10_name 27 = .ok (.if_icmp .le 5, 3) := by decide +kernel
theorem dX10_name_30 : decode cX10_name 30 = .ok (.iconst (-1), 1) := by decide +kernel
theorem dX10_name_31 : decode cX10_name 31 = .ok (.ireturn, 1) := by decide +kernel
theorem dX10_name_32 : decode cX10_name 32 = .ok (.aload_n 0, 1) := by decide +kernel
theorem dX10_name_33 : decode cX10_name 33 = .ok (.aload 4, 2) := by decide +kernel
theorem dX10_name_35 : decode cX10_name 35 = .ok (.iload_n 2, 1) := by decide +kernel
theorem dX10_name_36 : decode cX10_name 36 = .ok (.iload_n 3, 1) := by decide +kernel
theorem dX10_name_37 : decode cX10_name 37 = .ok (.invokevirtual 250, 3) := by decide +kernel
theorem dX10_name_40 : decode cX10_name 40 = .ok (.ireturn, 1) := by decide +kernel
theorem dX10_quarrel_0 : decode cX10_quarrel 0 = .ok (.aload_n 0, 1) := by decide +kernel
theorem dX10_quarrel_1 : decode cX10_quarrel 1 = .ok (.iload_n 1, 1) := by decide +kernel
theorem dX10_quarrel_2 : decode cX10_quarrel 2 = .ok (.invokevirtual 226, 3) := by decide +kernel
theorem dX10_quarrel_5 : decode cX10_quarrel 5 = .ok (.astore_n 2, 1) := by decide +kernel
theorem dX10_quarrel_6 : decode cX10_quarrel 6 = .ok (.aload_n 2, 1) := by decide +kernel
theorem dX10_quarrel_7 : decode cX10_quarrel 7 = .ok (.ifnonnull 5, 3) := by decide +kernel
theorem dX10_quarrel_10 : decode cX10_quarrel 10 = .ok (.iconst 0, 1) := by decide +kernel
theorem dX10_quarrel_11 : decode cX10_quarrel 11 = .ok (.ireturn, 1) := by decide +kernel
theorem dX10_quarrel_12 : decode cX10_quarrel 12 = .ok (.aload_n 0, 1) := by decide +kernel
theorem dX10_quarrel_13 : decode cX10_quarrel 13 = .ok (.aload_n 2, 1) := by decide +kernel
theorem dX10_quarrel_14 : decode cX10_quarrel 14 = .ok (.iconst 0, 1) := by decide +kernel
theorem dX10_quarrel_15 : decode cX10_quarrel 15 = .ok (.iconst 0, 1) := by decide +kernel
theorem dX10_quarrel_16 : decode cX10_quarrel 16 = .ok (.invokevirtual 250, 3) := by decide +kernel
theorem dX10_quarrel_19 : decode cX10_quarrel 19 = .ok (.aload_n 0, 1) := by decide +kernel
theorem dX10_quarrel_20 : decode cX10_quarrel 20 = .ok (.aload_n 2, 1) := by decide +kernel
theorem dX10_quarrel_21 : decode cX10_quarrel 21 = .ok (.iconst 0, 1) := by decide +kernel
theorem dX10_quarrel_22 : decode cX10_quarrel 22 = .ok (.iconst 1, 1) := by decide +kernel
theorem dX10_quarrel_23 : decode cX10_quarrel 23 = .ok (.invokevirtual 250, 3) := by decide +kernel
theorem dX10_quarrel_26 : decode cX10_quarrel 26 = .ok (.if_icmp .ne 20, 3) := by decide +kernel
theorem dX10_quarrel_29 : decode cX10_quarrel 29 = .ok (.aload_n 0, 1) := by decide +kernel
theorem dX10_quarrel_30 : decode cX10_quarrel 30 = .ok (.aload_n 2, 1) := by decide +kernel
theorem dX10_quarrel_31 : decode cX10_quarrel 31 = .ok (.iconst 1, 1) := by decide +kernel
theorem dX10_quarrel_32 : decode cX10_quarrel 32 = .ok (.iconst 0, 1) := by decide +kernel
theorem dX10_quarrel_33 : decode cX10_quarrel 33 = .ok (.invokevirtual 250, 3) := by decide +kernel
theorem dX10_quarrel_36 : decode cX10_quarrel 36 = .ok (.aload_n 0, 1) := by decide +kernel
theorem dX10_quarrel_37 : decode cX10_quarrel 37 = .ok (.aload_n 2, 1) := by decide +kernel
theorem dX10_quarrel_38 : decode cX10_quarrel 38 = .ok (.iconst 1, 1) := by decide +kernel
theorem dX10_quarrel_39 : decode cX10_quarrel 39 = .ok (.iconst 1, 1) := by decide +kernel
theorem dX10_quarrel_40 : decode cX10_quarrel 40 = .ok (.invokevirtual 250, 3) := by decide +kernel
theorem dX10_quarrel_43 : decode cX10_quarrel 43 = .ok (.if_icmp .eq 7, 3) := by decide +kernel
theorem dX10_quarrel_46 : decode cX10_quarrel 46 = .ok (.iconst 1, 1) := by decide +kernel
theorem dX10_quarrel_47 : decode cX10_quarrel 47 = .ok (.goto 4, 3) := by decide +kernel
theorem dX10_quarrel_50 : decode cX10_quarrel 50 = .ok (.iconst 0, 1) := by decide +kernel
theorem dX10_quarrel_51 : decode cX10_quarrel 51 = .ok (.ireturn, 1) := by decide +kernel
theorem dX10_told_0 : decode cX10_told 0 = .ok (.aload_n 0, 1) := by decide +kernel
theorem dX10_told_1 : decode cX10_told 1 = .ok (.iload_n 1, 1) := by decide +kernel
theorem dX10_told_2 : decode cX10_told 2 = .ok (.invokevirtual 148, 3) := by decide +kernel
theorem dX10_told_5 : decode cX10_told 5 = .ok (.astore_n 3, 1) := by decide +kernel
theorem dX10_told_6 : decode cX10_told 6 = .ok (.aload_n 3, 1) := by decide +kernel
theorem dX10_told_7 : decode cX10_told 7 = .ok (.ifnonnull 5, 3) := by decide +kernel
theorem dX10_told_10 : decode cX10_told 10 = .ok (.iconst (-1), 1) := by decide +kernel
theorem dX10_told_11 : decode cX10_told 11 = .ok (.ireturn, 1) := by decide +kernel
theorem dX10_told_12 : decode cX10_told 12 = .ok (.iload_n 2, 1) := by decide +kernel
theorem dX10_told_13 : decode cX10_told 13 = .ok (.tableswitch 60 0 4 #[35, 40, 45, 50, 55], 35) := by decide +kernel
theorem dX10_told_48 : decode cX10_told 48 = .ok (.aload_n 3, 1) := by decide +kernel
theorem dX10_told_49 : decode cX10_told 49 = .ok (.getfield 152, 3) := by decide +kernel
theorem dX10_told_52 : decode cX10_told 52 = .ok (.ireturn, 1) := by decide +kernel
theorem dX10_told_53 : decode cX10_told 53 = .ok (.aload_n 3, 1) := by decide +kernel
theorem dX10_told_54 : decode cX10_told 54 = .ok (.getfield 158, 3) := by decide +kernel
theorem dX10_told_57 : decode cX10_told 57 = .ok (.ireturn, 1) := by decide +kernel
theorem dX10_told_58 : decode cX10_told 58 = .ok (.aload_n 3, 1) := by decide +kernel
theorem dX10_told_59 : decode cX10_told 59 = .ok (.getfield 173, 3) := by decide +kernel
theorem dX10_told_62 : decode cX10_told 62 = .ok (.ireturn, 1) := by decide +kernel
theorem dX10_told_63 : decode cX10_told 63 = .ok (.aload_n 3, 1) := by decide +kernel
theorem dX10_told_64 : decode cX10_told 64 = .ok (.getfield 209, 3) := by decide +kernel
theorem dX10_told_67 : decode cX10_told 67 = .ok (.ireturn, 1) := by decide +kernel
theorem dX10_told_68 : decode cX10_told 68 = .ok (.aload_n 3, 1) := by decide +kernel
theorem dX10_told_69 : decode cX10_told 69 = .ok (.getfield 254, 3) := by decide +kernel
theorem dX10_told_72 : decode cX10_told 72 = .ok (.ireturn, 1) := by decide +kernel
theorem dX10_told_73 : decode cX10_told 73 = .ok (.iconst (-1), 1) := by decide +kernel
theorem dX10_told_74 : decode cX10_told 74 = .ok (.ireturn, 1) := by decide +kernel
theorem dX10_married_0 : decode cX10_married 0 = .ok (.aload_n 0, 1) := by decide +kernel
theorem dX10_married_1 : decode cX10_married 1 = .ok (.iload_n 1, 1) := by decide +kernel
theorem dX10_married_2 : decode cX10_married 2 = .ok (.invokevirtual 95, 3) := by decide +kernel
theorem dX10_married_5 : decode cX10_married 5 = .ok (.astore_n 2, 1) := by decide +kernel
theorem dX10_married_6 : decode cX10_married 6 = .ok (.aload_n 2, 1) := by decide +kernel
theorem dX10_married_7 : decode cX10_married 7 = .ok (.ifnonnull 5, 3) := by decide +kernel
theorem dX10_married_10 : decode cX10_married 10 = .ok (.iconst (-1), 1) := by decide +kernel
theorem dX10_married_11 : decode cX10_married 11 = .ok (.ireturn, 1) := by decide +kernel
theorem dX10_married_12 : decode cX10_married 12 = .ok (.aload_n 2, 1) := by decide +kernel
theorem dX10_married_13 : decode cX10_married 13 = .ok (.getfield 135, 3) := by decide +kernel
theorem dX10_married_16 : decode cX10_married 16 = .ok (.astore_n 3, 1) := by decide +kernel
theorem dX10_married_17 : decode cX10_married 17 = .ok (.aload_n 3, 1) := by decide +kernel
theorem dX10_married_18 : decode cX10_married 18 = .ok (.ifnonnull 7, 3) := by decide +kernel
theorem dX10_married_21 : decode cX10_married 21 = .ok (.iconst (-1), 1) := by decide +kernel
theorem dX10_married_22 : decode cX10_married 22 = .ok (.goto 7, 3) := by decide +kernel
theorem dX10_married_25 : decode cX10_married 25 = .ok (.aload_n 3, 1) := by decide +kernel
theorem dX10_married_26 : decode cX10_married 26 = .ok (.getfield 257, 3) := by decide +kernel
theorem dX10_married_29 : decode cX10_married 29 = .ok (.ireturn, 1) := by decide +kernel
theorem dX10_count_0 : decode cX10_count 0 = .ok (.iload_n 1, 1) := by decide +kernel
theorem dX10_count_1 : decode cX10_count 1 = .ok (.tableswitch 81 0 5 #[39, 44, 52, 60, 68, 76], 39) := by decide +kernel
theorem dX10_count_40 : decode cX10_count 40 = .ok (.aload_n 0, 1) := by decide +kernel
theorem dX10_count_41 : decode cX10_count 41 = .ok (.getfield 7, 3) := by decide +kernel
theorem dX10_count_44 : decode cX10_count 44 = .ok (.ireturn, 1) := by decide +kernel
theorem dX10_count_45 : decode cX10_count 45 = .ok (.aload_n 0, 1) := by decide +kernel
theorem dX10_count_46 : decode cX10_count 46 = .ok (.getfield 40, 3) := by decide +kernel
theorem dX10_count_49 : decode cX10_count 49 = .ok (.invokevirtual 88, 3) := by decide +kernel
theorem dX10_count_52 : decode cX10_count 52 = .ok (.ireturn, 1) := by decide +kernel
theorem dX10_count_53 : decode cX10_count 53 = .ok (.aload_n 0, 1) := by decide +kernel
theorem dX10_count_54 : decode cX10_count 54 = .ok (.getfield 44, 3) := by decide +kernel
theorem dX10_count_57 : decode cX10_count 57 = .ok (.invokevirtual 88, 3) := by decide +kernel
theorem dX10_count_60 : decode cX10_count 60 = .ok (.ireturn, 1) := by decide +kernel
theorem dX10_count_61 : decode cX10_count 61 = .ok (.aload_n 0, 1) := by decide +kernel
theorem dX10_count_62 : decode cX10_count 62 = .ok (.getfield 50, 3) := by decide +kernel
theorem dX10_count_65 : decode cX10_count 65 = .ok (.invokevirtual 88, 3) := by decide +kernel
theorem dX10_count_68 : decode cX10_count 68 = .ok (.ireturn, 1) := by decide +kernel
theorem dX10_count_69 : decode cX10_count 69 = .ok (.aload_n 0, 1) := by decide +kernel
theorem dX10_count_70 : decode cX10_count 70 = .ok (.getfield 47, 3) := by decide +kernel
theorem dX10_count_73 : decode cX10_count 73 = .ok (.invokevirtual 88, 3) := by decide +kernel
theorem dX10_count_76 : decode cX10_count 76 = .ok (.ireturn, 1) := by decide +kernel
theorem dX10_count_77 : decode cX10_count 77 = .ok (.aload_n 0, 1) := by decide +kernel
theorem dX10_count_78 : decode cX10_count 78 = .ok (.invokevirtual 260, 3) := by decide +kernel
theorem dX10_count_81 : decode cX10_count 81 = .ok (.ireturn, 1) := by decide +kernel
theorem dX10_count_82 : decode cX10_count 82 = .ok (.iconst (-1), 1) := by decide +kernel
theorem dX10_count_83 : decode cX10_count 83 = .ok (.ireturn, 1) := by decide +kernel
theorem dX10_isDay_0 : decode cX10_isDay 0 = .ok (.iload_n 0, 1) := by decide +kernel
theorem dX10_isDay_1 : decode cX10_isDay 1 = .ok (.ifCond .lt 14, 3) := by decide +kernel
theorem dX10_isDay_4 : decode cX10_isDay 4 = .ok (.iload_n 0, 1) := by decide +kernel
theorem dX10_isDay_5 : decode cX10_isDay 5 = .ok (.sipush 20000, 3) := by decide +kernel
theorem dX10_isDay_8 : decode cX10_isDay 8 = .ok (.if_icmp .gt 7, 3) := by decide +kernel
theorem dX10_isDay_11 : decode cX10_isDay 11 = .ok (.iconst 1, 1) := by decide +kernel
theorem dX10_isDay_12 : decode cX10_isDay 12 = .ok (.goto 4, 3) := by decide +kernel
theorem dX10_isDay_15 : decode cX10_isDay 15 = .ok (.iconst 0, 1) := by decide +kernel
theorem dX10_isDay_16 : decode cX10_isDay 16 = .ok (.ireturn, 1) := by decide +kernel
theorem dX10_isDayToCome_0 : decode cX10_isDayToCome 0 = .ok (.iload_n 1, 1) := by decide +kernel
theorem dX10_isDayToCome_1 : decode cX10_isDayToCome 1 = .ok (.aload_n 0, 1) := by decide +kernel
theorem dX10_isDayToCome_2 : decode cX10_isDayToCome 2 = .ok (.getfield 7, 3) := by decide +kernel
theorem dX10_isDayToCome_5 : decode cX10_isDayToCome 5 = .ok (.if_icmp .lt 14, 3) := by decide +kernel
theorem dX10_isDayToCome_8 : decode cX10_isDayToCome 8 = .ok (.iload_n 1, 1) := by decide +kernel
theorem dX10_isDayToCome_9 : decode cX10_isDayToCome 9 = .ok (.sipush 20000, 3) := by decide +kernel
theorem dX10_isDayToCome_12 : decode cX10_isDayToCome 12 = .ok (.if_icmp .gt 7, 3) := by decide +kernel
theorem dX10_isDayToCome_15 : decode cX10_isDayToCome 15 = .ok (.iconst 1, 1) := by decide +kernel
theorem dX10_isDayToCome_16 : decode cX10_isDayToCome 16 = .ok (.goto 4, 3) := by decide +kernel
theorem dX10_isDayToCome_19 : decode cX10_isDayToCome 19 = .ok (.iconst 0, 1) := by decide +kernel
theorem dX10_isDayToCome_20 : decode cX10_isDayToCome 20 = .ok (.ireturn, 1) := by decide +kernel
theorem dX10_personAt_0 : decode cX10_personAt 0 = .ok (.iload_n 1, 1) := by decide +kernel
theorem dX10_personAt_1 : decode cX10_personAt 1 = .ok (.ifCond .lt 28, 3) := by decide +kernel
theorem dX10_personAt_4 : decode cX10_personAt 4 = .ok (.iload_n 1, 1) := by decide +kernel
theorem dX10_personAt_5 : decode cX10_personAt 5 = .ok (.aload_n 0, 1) := by decide +kernel
theorem dX10_personAt_6 : decode cX10_personAt 6 = .ok (.getfield 40, 3) := by decide +kernel
theorem dX10_personAt_9 : decode cX10_personAt 9 = .ok (.invokevirtual 88, 3) := by decide +kernel
theorem dX10_personAt_12 : decode cX10_personAt 12 = .ok (.if_icmp .ge 17, 3) := by decide +kernel
theorem dX10_personAt_15 : decode cX10_personAt 15 = .ok (.aload_n 0, 1) := by decide +kernel
theorem dX10_personAt_16 : decode cX10_personAt 16 = .ok (.getfield 40, 3) := by decide +kernel
theorem dX10_personAt_19 : decode cX10_personAt 19 = .ok (.iload_n 1, 1) := by decide +kernel
theorem dX10_personAt_20 : decode cX10_personAt 20 = .ok (.invokevirtual 176, 3) := by decide +kernel
theorem dX10_personAt_23 : decode cX10_personAt 23 = .ok (.checkcast 85, 3) := by decide +kernel
theorem dX10_personAt_26 : decode cX10_personAt 26 = .ok (.goto 4, 3) := by decide +kernel
theorem dX10_personAt_29 : decode cX10_personAt 29 = .ok (.aconst_null, 1) := by decide +kernel
theorem dX10_personAt_30 : decode cX10_personAt 30 = .ok (.areturn, 1) := by decide +kernel
theorem dX10_noticeAt_0 : decode cX10_noticeAt 0 = .ok (.iload_n 1, 1) := by decide +kernel
theorem dX10_noticeAt_1 : decode cX10_noticeAt 1 = .ok (.ifCond .lt 28, 3) := by decide +kernel
theorem dX10_noticeAt_4 : decode cX10_noticeAt 4 = .ok (.iload_n 1, 1) := by decide +kernel
theorem dX10_noticeAt_5 : decode cX10_noticeAt 5 = .ok (.aload_n 0, 1) := by decide +kernel
theorem dX10_noticeAt_6 : decode cX10_noticeAt 6 = .ok (.getfield 44, 3) := by decide +kernel
theorem dX10_noticeAt_9 : decode cX10_noticeAt 9 = .ok (.invokevirtual 88, 3) := by decide +kernel
theorem dX10_noticeAt_12 : decode cX10_noticeAt 12 = .ok (.if_icmp .ge 17, 3) := by decide +kernel
theorem dX10_noticeAt_15 : decode cX10_noticeAt 15 = .ok (.aload_n 0, 1) := by decide +kernel
theorem dX10_noticeAt_16 : decode cX10_noticeAt 16 = .ok (.getfield 44, 3) := by decide +kernel
theorem dX10_noticeAt_19 : decode cX10_noticeAt 19 = .ok (.iload_n 1, 1) := by decide +kernel
theorem dX10_noticeAt_20 : decode cX10_noticeAt 20 = .ok (.invokevirtual 176, 3) := by decide +kernel
theorem dX10_noticeAt_23 : decode cX10_noticeAt 23 = .ok (.checkcast 143, 3) := by decide +kernel
theorem dX10_noticeAt_26 : decode cX10_noticeAt 26 = .ok (.goto 4, 3) := by decide +kernel
theorem dX10_noticeAt_29 : decode cX10_noticeAt 29 = .ok (.aconst_null, 1) := by decide +kernel
theorem dX10_noticeAt_30 : decode cX10_noticeAt 30 = .ok (.areturn, 1) := by decide +kernel
theorem dX10_entryAt_0 : decode cX10_entryAt 0 = .ok (.iload_n 1, 1) := by decide +kernel
theorem dX10_entryAt_1 : decode cX10_entryAt 1 = .ok (.ifCond .lt 28, 3) := by decide +kernel
theorem dX10_entryAt_4 : decode cX10_entryAt 4 = .ok (.iload_n 1, 1) := by decide +kernel
theorem dX10_entryAt_5 : decode cX10_entryAt 5 = .ok (.aload_n 0, 1) := by decide +kernel
theorem dX10_entryAt_6 : decode cX10_entryAt 6 = .ok (.getfield 50, 3) := by decide +kernel
theorem dX10_entryAt_9 : decode cX10_entryAt 9 = .ok (.invokevirtual 88, 3) := by decide +kernel
theorem dX10_entryAt_12 : decode cX10_entryAt 12 = .ok (.if_icmp .ge 17, 3) := by decide +kernel
theorem dX10_entryAt_15 : decode cX10_entryAt 15 = .ok (.aload_n 0, 1) := by decide +kernel
theorem dX10_entryAt_16 : decode cX10_entryAt 16 = .ok (.getfield 50, 3) := by decide +kernel
theorem dX10_entryAt_19 : decode cX10_entryAt 19 = .ok (.iload_n 1, 1) := by decide +kernel
theorem dX10_entryAt_20 : decode cX10_entryAt 20 = .ok (.invokevirtual 176, 3) := by decide +kernel
theorem dX10_entryAt_23 : decode cX10_entryAt 23 = .ok (.checkcast 221, 3) := by decide +kernel
theorem dX10_entryAt_26 : decode cX10_entryAt 26 = .ok (.goto 4, 3) := by decide +kernel
theorem dX10_entryAt_29 : decode cX10_entryAt 29 = .ok (.aconst_null, 1) := by decide +kernel
theorem dX10_entryAt_30 : decode cX10_entryAt 30 = .ok (.areturn, 1) := by decide +kernel
theorem dX10_canBeParents_0 : decode cX10_canBeParents 0 = .ok (.iload_n 1, 1) := by decide +kernel
theorem dX10_canBeParents_1 : decode cX10_canBeParents 1 = .ok (.iconst (-1), 1) := by decide +kernel
theorem dX10_canBeParents_2 : decode cX10_canBeParents 2 = .ok (.if_icmp .eq 11, 3) := by decide +kernel
theorem dX10_canBeParents_5 : decode cX10_canBeParents 5 = .ok (.aload_n 0, 1) := by decide +kernel
theorem dX10_canBeParents_6 : decode cX10_canBeParents 6 = .ok (.iload_n 1, 1) := by decide +kernel
theorem dX10_canBeParents_7 : decode cX10_canBeParents 7 = .ok (.invokevirtual 95, 3) := by decide +kernel
theorem dX10_canBeParents_10 : decode cX10_canBeParents 10 = .ok (.ifnull 7, 3) := by decide +kernel
theorem dX10_canBeParents_13 : decode cX10_canBeParents 13 = .ok (.iconst 1, 1) := by decide +kernel
theorem dX10_canBeParents_14 : decode cX10_canBeParents 14 = .ok (.goto 4, 3) := by decide +kernel
theorem dX10_canBeParents_17 : decode cX10_canBeParents 17 = .ok (.iconst 0, 1) := by decide +kernel
theorem dX10_canBeParents_18 : decode cX10_canBeParents 18 = .ok (.istore_n 3, 1) := by decide +kernel
theorem dX10_canBeParents_19 : decode cX10_canBeParents 19 = .ok (.iload_n 2, 1) := by decide +kernel
theorem dX10_canBeParents_20 : decode cX10_canBeParents 20 = .ok (.iconst (-1), 1) := by decide +kernel
theorem dX10_canBeParents_21 : decode cX10_canBeParents 21 = .ok (.if_icmp .eq 11, 3) := by decide +kernel
theorem dX10_canBeParents_24 : decode cX10_canBeParents 24 = .ok (.aload_n 0, 1) := by decide +kernel
theorem dX10_canBeParents_25 : decode cX10_canBeParents 25 = .ok (.iload_n 2, 1) := by decide +kernel
theorem dX10_canBeParents_26 : decode cX10_canBeParents 26 = .ok (.invokevirtual 95, 3) := by decide +kernel
theorem dX10_canBeParents_29 : decode cX10_canBeParents 29 = .ok (.ifnull 7, 3) := by decide +kernel
theorem dX10_canBeParents_32 : decode cX10_canBeParents 32 = .ok (.iconst 1, 1) := by decide +kernel
theorem dX10_canBeParents_33 : decode cX10_canBeParents 33 = .ok (.goto 4, 3) := by decide +kernel
theorem dX10_canBeParents_36 : decode cX10_canBeParents 36 = .ok (.iconst 0, 1) := by decide +kernel
theorem dX10_canBeParents_37 : decode cX10_canBeParents 37 = .ok (.istore 4, 2) := by decide +kernel
theorem dX10_canBeParents_39 : decode cX10_canBeParents 39 = .ok (.iload_n 3, 1) := by decide +kernel
theorem dX10_canBeParents_40 : decode cX10_canBeParents 40 = .ok (.ifCond .eq 22, 3) := by decide +kernel
theorem dX10_canBeParents_43 : decode cX10_canBeParents 43 = .ok (.iload 4, 2) := by decide +kernel
theorem dX10_canBeParents_45 : decode cX10_canBeParents 45 = .ok (.ifCond .eq 17, 3) := by decide +kernel
theorem dX10_canBeParents_48 : decode cX10_canBeParents 48 = .ok (.iload_n 1, 1) := by decide +kernel
theorem dX10_canBeParents_49 : decode cX10_canBeParents 49 = .ok (.iconst (-1), 1) := by decide +kernel
theorem dX10_canBeParents_50 : decode cX10_canBeParents 50 = .ok (.if_icmp .eq 8, 3) := by decide +kernel
theorem dX10_canBeParents_53 : decode cX10_canBeParents 53 = .ok (.iload_n 1, 1) := by decide +kernel
theorem dX10_canBeParents_54 : decode cX10_canBeParents 54 = .ok (.iload_n 2, 1) := by decide +kernel
theorem dX10_canBeParents_55 : decode cX10_canBeParents 55 = .ok (.if_icmp .eq 7, 3) := by decide +kernel
theorem dX10_canBeParents_58 : decode cX10_canBeParents 58 = .ok (.iconst 1, 1) := by decide +kernel
theorem dX10_canBeParents_59 : decode cX10_canBeParents 59 = .ok (.goto 4, 3) := by decide +kernel
theorem dX10_canBeParents_62 : decode cX10_canBeParents 62 = .ok (.iconst 0, 1) := by decide +kernel
theorem dX10_canBeParents_63 : decode cX10_canBeParents 63 = .ok (.ireturn, 1) := by decide +kernel
theorem dX10_openBookings_0 : decode cX10_openBookings 0 = .ok (.iconst 0, 1) := by decide +kernel
theorem dX10_openBookings_1 : decode cX10_openBookings 1 = .ok (.istore_n 1, 1) := by decide +kernel
theorem dX10_openBookings_2 : decode cX10_openBookings 2 = .ok (.iconst 0, 1) := by decide +kernel
theorem dX10_openBookings_3 : decode cX10_openBookings 3 = .ok (.istore_n 2, 1) := by decide +kernel
theorem dX10_openBookings_4 : decode cX10_openBookings 4 = .ok (.iload_n 2, 1) := by decide +kernel
theorem dX10_openBookings_5 : decode cX10_openBookings 5 = .ok (.aload_n 0, 1) := by decide +kernel
theorem dX10_openBookings_6 : decode cX10_openBookings 6 = .ok (.getfield 44, 3) := by decide +kernel
theorem dX10_openBookings_9 : decode cX10_openBookings 9 = .ok (.invokevirtual 88, 3) := by decide +kernel
theorem dX10_openBookings_12 : decode cX10_openBookings 12 = .ok (.if_icmp .ge 38, 3) := by decide +kernel
theorem dX10_openBookings_15 : decode cX10_openBookings 15 = .ok (.aload_n 0, 1) := by decide +kernel
theorem dX10_openBookings_16 : decode cX10_openBookings 16 = .ok (.getfield 44, 3) := by decide +kernel
theorem dX10_openBookings_19 : decode cX10_openBookings 19 = .ok (.iload_n 2, 1) := by decide +kernel
theorem dX10_openBookings_20 : decode cX10_openBookings 20 = .ok (.invokevirtual 176, 3) := by decide +kernel
theorem dX10_openBookings_23 : decode cX10_openBookings 23 = .ok (.checkcast 143, 3) := by decide +kernel
theorem dX10_openBookings_26 : decode cX10_openBookings 26 = .ok (.astore_n 3, 1) := by decide +kernel
theorem dX10_openBookings_27 : decode cX10_openBookings 27 = .ok (.aload_n 3, 1) := by decide +kernel
theorem dX10_openBookings_28 : decode cX10_openBookings 28 = .ok (.getfield 152, 3) := by decide +kernel
theorem dX10_openBookings_31 : decode cX10_openBookings 31 = .ok (.ifCond .ne 13, 3) := by decide +kernel
theorem dX10_openBookings_34 : decode cX10_openBookings 34 = .ok (.aload_n 3, 1) := by decide +kernel
theorem dX10_openBookings_35 : decode cX10_openBookings 35 = .ok (.invokevirtual 263, 3) := by decide +kernel
theorem dX10_openBookings_38 : decode cX10_openBookings 38 = .ok (.ifCond .eq 6, 3) := by decide +kernel
theorem dX10_openBookings_41 : decode cX10_openBookings 41 = .ok (.iinc 1 1, 3) := by decide +kernel
theorem dX10_openBookings_44 : decode cX10_openBookings 44 = .ok (.iinc 2 1, 3) := by decide +kernel
theorem dX10_openBookings_47 : decode cX10_openBookings 47 = .ok (.goto (-43), 3) := by decide +kernel
theorem dX10_openBookings_50 : decode cX10_openBookings 50 = .ok (.iload_n 1, 1) := by decide +kernel
theorem dX10_openBookings_51 : decode cX10_openBookings 51 = .ok (.ireturn, 1) := by decide +kernel
theorem dX10_hasOpenNotice_0 : decode cX10_hasOpenNotice 0 = .ok (.iconst 0, 1) := by decide +kernel
theorem dX10_hasOpenNotice_1 : decode cX10_hasOpenNotice 1 = .ok (.istore_n 3, 1) := by decide +kernel
theorem dX10_hasOpenNotice_2 : decode cX10_hasOpenNotice 2 = .ok (.iload_n 3, 1) := by decide +kernel
theorem dX10_hasOpenNotice_3 : decode cX10_hasOpenNotice 3 = .ok (.aload_n 0, 1) := by decide +kernel
theorem dX10_hasOpenNotice_4 : decode cX10_hasOpenNotice 4 = .ok (.getfield 44, 3) := by decide +kernel
theorem dX10_hasOpenNotice_7 : decode cX10_hasOpenNotice 7 = .ok (.invokevirtual 88, 3) := by decide +kernel
theorem dX10_hasOpenNotice_10 : decode cX10_hasOpenNotice 10 = .ok (.if_icmp .ge 42, 3) := by decide +kernel
theorem dX10_hasOpenNotice_13 : decode cX10_hasOpenNotice 13 = .ok (.aload_n 0, 1) := by decide +kernel
theorem dX10_hasOpenNotice_14 : decode cX10_hasOpenNotice 14 = .ok (.getfield 44, 3) := by decide +kernel
theorem dX10_hasOpenNotice_17 : decode cX10_hasOpenNotice 17 = .ok (.iload_n 3, 1) := by decide +kernel
theorem dX10_hasOpenNotice_18 : decode cX10_hasOpenNotice 18 = .ok (.invokevirtual 176, 3) := by decide +kernel
theorem dX10_hasOpenNotice_21 : decode cX10_hasOpenNotice 21 = .ok (.checkcast 143, 3) := by decide +kernel
theorem dX10_hasOpenNotice_24 : decode cX10_hasOpenNotice 24 = .ok (.astore 4, 2) := by decide +kernel
theorem dX10_hasOpenNotice_26 : decode cX10_hasOpenNotice 26 = .ok (.aload 4, 2) := by decide +kernel
theorem dX10_hasOpenNotice_28 : decode cX10_hasOpenNotice 28 = .ok (.getfield 152, 3) := by decide +kernel
theorem dX10_hasOpenNotice_31 : decode cX10_hasOpenNotice 31 = .ok (.ifCond .ne 15, 3) := by decide +kernel
theorem dX10_hasOpenNotice_34 : decode cX10_hasOpenNotice 34 = .ok (.aload 4, 2) := by decide +kernel
theorem dX10_hasOpenNotice_36 : decode cX10_hasOpenNotice 36 = .ok (.aload_n 1, 1) := by decide +kernel
theorem dX10_hasOpenNotice_37 : decode cX10_hasOpenNotice 37 = .ok (.aload_n 2, 1) := by decide +kernel
theorem dX10_hasOpenNotice_38 : decode cX10_hasOpenNotice 38 = .ok (.invokevirtual 266, 3) := by decide +kernel
theorem dX10_hasOpenNotice_41 : decode cX10_hasOpenNotice 41 = .ok (.ifCond .eq 5, 3) := by decide +kernel
theorem dX10_hasOpenNotice_44 : decode cX10_hasOpenNotice 44 = .ok (.iconst 1, 1) := by decide +kernel
theorem dX10_hasOpenNotice_45 : decode cX10_hasOpenNotice 45 = .ok (.ireturn, 1) := by decide +kernel
theorem dX10_hasOpenNotice_46 : decode cX10_hasOpenNotice 46 = .ok (.iinc 3 1, 3) := by decide +kernel
theorem dX10_hasOpenNotice_49 : decode cX10_hasOpenNotice 49 = .ok (.goto (-47), 3) := by decide +kernel
theorem dX10_hasOpenNotice_52 : decode cX10_hasOpenNotice 52 = .ok (.iconst 0, 1) := by decide +kernel
theorem dX10_hasOpenNotice_53 : decode cX10_hasOpenNotice 53 = .ok (.ireturn, 1) := by decide +kernel
theorem dX10_kinOf_0 : decode cX10_kinOf 0 = .ok (.aload_n 0, 1) := by decide +kernel
theorem dX10_kinOf_1 : decode cX10_kinOf 1 = .ok (.aload_n 1, 1) := by decide +kernel
theorem dX10_kinOf_2 : decode cX10_kinOf 2 = .ok (.invokevirtual 269, 3) := by decide +kernel
theorem dX10_kinOf_5 : decode cX10_kinOf 5 = .ok (.ifCond .ne 19, 3) := by decide +kernel
theorem dX10_kinOf_8 : decode cX10_kinOf 8 = .ok (.aload_n 1, 1) := by decide +kernel
theorem dX10_kinOf_9 : decode cX10_kinOf 9 = .ok (.aload_n 0, 1) := by decide +kernel
theorem dX10_kinOf_10 : decode cX10_kinOf 10 = .ok (.invokevirtual 269, 3) := by decide +kernel
theorem dX10_kinOf_13 : decode cX10_kinOf 13 = .ok (.ifCond .ne 11, 3) := by decide +kernel
theorem dX10_kinOf_16 : decode cX10_kinOf 16 = .ok (.aload_n 0, 1) := by decide +kernel
theorem dX10_kinOf_17 : decode cX10_kinOf 17 = .ok (.aload_n 1, 1) := by decide +kernel
theorem dX10_kinOf_18 : decode cX10_kinOf 18 = .ok (.invokevirtual 273, 3) := by decide +kernel
theorem dX10_kinOf_21 : decode cX10_kinOf 21 = .ok (.ifCond .eq 5, 3) := by decide +kernel
theorem dX10_kinOf_24 : decode cX10_kinOf 24 = .ok (.iconst 1, 1) := by decide +kernel
theorem dX10_kinOf_25 : decode cX10_kinOf 25 = .ok (.ireturn, 1) := by decide +kernel
theorem dX10_kinOf_26 : decode cX10_kinOf 26 = .ok (.aload_n 0, 1) := by decide +kernel
theorem dX10_kinOf_27 : decode cX10_kinOf 27 = .ok (.aload_n 1, 1) := by decide +kernel
theorem dX10_kinOf_28 : decode cX10_kinOf 28 = .ok (.invokestatic 276, 3) := by decide +kernel
theorem dX10_kinOf_31 : decode cX10_kinOf 31 = .ok (.ifCond .ne 11, 3) := by decide +kernel
theorem dX10_kinOf_34 : decode cX10_kinOf 34 = .ok (.aload_n 1, 1) := by decide +kernel
theorem dX10_kinOf_35 : decode cX10_kinOf 35 = .ok (.aload_n 0, 1) := by decide +kernel
theorem dX10_kinOf_36 : decode cX10_kinOf 36 = .ok (.invokestatic 276, 3) := by decide +kernel
theorem dX10_kinOf_39 : decode cX10_kinOf 39 = .ok (.ifCond .eq 5, 3) := by decide +kernel
theorem dX10_kinOf_42 : decode cX10_kinOf 42 = .ok (.iconst 2, 1) := by decide +kernel
theorem dX10_kinOf_43 : decode cX10_kinOf 43 = .ok (.ireturn, 1) := by decide +kernel
theorem dX10_kinOf_44 : decode cX10_kinOf 44 = .ok (.aload_n 0, 1) := by decide +kernel
theorem dX10_kinOf_45 : decode cX10_kinOf 45 = .ok (.getfield 279, 3) := by decide +kernel
theorem dX10_kinOf_48 : decode cX10_kinOf 48 = .ok (.aload_n 1, 1) := by decide +kernel
theorem dX10_kinOf_49 : decode cX10_kinOf 49 = .ok (.invokestatic 282, 3) := by decide +kernel
theorem dX10_kinOf_52 : decode cX10_kinOf 52 = .ok (.ifCond .ne 14, 3) := by decide +kernel
theorem dX10_kinOf_55 : decode cX10_kinOf 55 = .ok (.aload_n 0, 1) := by decide +kernel
theorem dX10_kinOf_56 : decode cX10_kinOf 56 = .ok (.getfield 285, 3) := by decide +kernel
theorem dX10_kinOf_59 : decode cX10_kinOf 59 = .ok (.aload_n 1, 1) := by decide +kernel
theorem dX10_kinOf_60 : decode cX10_kinOf 60 = .ok (.invokestatic 282, 3) := by decide +kernel
theorem dX10_kinOf_63 : decode cX10_kinOf 63 = .ok (.ifCond .eq 5, 3) := by decide +kernel
theorem dX10_kinOf_66 : decode cX10_kinOf 66 = .ok (.iconst 3, 1) := by decide +kernel
theorem dX10_kinOf_67 : decode cX10_kinOf 67 = .ok (.ireturn, 1) := by decide +kernel
theorem dX10_kinOf_68 : decode cX10_kinOf 68 = .ok (.iconst 0, 1) := by decide +kernel
theorem dX10_kinOf_69 : decode cX10_kinOf 69 = .ok (.ireturn, 1) := by decide +kernel
theorem dX10_isNearByParent_0 : decode cX10_isNearByParent 0 = .ok (.aload_n 0, 1) := by decide +kernel
theorem dX10_isNearByParent_1 : decode cX10_isNearByParent 1 = .ok (.getfield 279, 3) := by decide +kernel
theorem dX10_isNearByParent_4 : decode cX10_isNearByParent 4 = .ok (.aload_n 1, 1) := by decide +kernel
theorem dX10_isNearByParent_5 : decode cX10_isNearByParent 5 = .ok (.invokestatic 288, 3) := by decide +kernel
theorem dX10_isNearByParent_8 : decode cX10_isNearByParent 8 = .ok (.ifCond .ne 14, 3) := by decide +kernel
theorem dX10_isNearByParent_11 : decode cX10_isNearByParent 11 = .ok (.aload_n 0, 1) := by decide +kernel
theorem dX10_isNearByParent_12 : decode cX10_isNearByParent 12 = .ok (.getfield 285, 3) := by decide +kernel
theorem dX10_isNearByParent_15 : decode cX10_isNearByParent 15 = .ok (.aload_n 1, 1) := by decide +kernel
theorem dX10_isNearByParent_16 : decode cX10_isNearByParent 16 = .ok (.invokestatic 288, 3) := by decide +kernel
theorem dX10_isNearByParent_19 : decode cX10_isNearByParent 19 = .ok (.ifCond .eq 7, 3) := by decide +kernel
theorem dX10_isNearByParent_22 : decode cX10_isNearByParent 22 = .ok (.iconst 1, 1) := by decide +kernel
theorem dX10_isNearByParent_23 : decode cX10_isNearByParent 23 = .ok (.goto 4, 3) := by decide +kernel
theorem dX10_isNearByParent_26 : decode cX10_isNearByParent 26 = .ok (.iconst 0, 1) := by decide +kernel
theorem dX10_isNearByParent_27 : decode cX10_isNearByParent 27 = .ok (.ireturn, 1) := by decide +kernel
theorem dX10_isNearAs_0 : decode cX10_isNearAs 0 = .ok (.aload_n 0, 1) := by decide +kernel
theorem dX10_isNearAs_1 : decode cX10_isNearAs 1 = .ok (.ifnull 23, 3) := by decide +kernel
theorem dX10_isNearAs_4 : decode cX10_isNearAs 4 = .ok (.aload_n 0, 1) := by decide +kernel
theorem dX10_isNearAs_5 : decode cX10_isNearAs 5 = .ok (.aload_n 1, 1) := by decide +kernel
theorem dX10_isNearAs_6 : decode cX10_isNearAs 6 = .ok (.invokevirtual 273, 3) := by decide +kernel
theorem dX10_isNearAs_9 : decode cX10_isNearAs 9 = .ok (.ifCond .ne 11, 3) := by decide +kernel
theorem dX10_isNearAs_12 : decode cX10_isNearAs 12 = .ok (.aload_n 0, 1) := by decide +kernel
theorem dX10_isNearAs_13 : decode cX10_isNearAs 13 = .ok (.aload_n 1, 1) := by decide +kernel
theorem dX10_isNearAs_14 : decode cX10_isNearAs 14 = .ok (.invokevirtual 269, 3) := by decide +kernel
theorem dX10_isNearAs_17 : decode cX10_isNearAs 17 = .ok (.ifCond .eq 7, 3) := by decide +kernel
theorem dX10_isNearAs_20 : decode cX10_isNearAs 20 = .ok (.iconst 1, 1) := by decide +kernel
theorem dX10_isNearAs_21 : decode cX10_isNearAs 21 = .ok (.goto 4, 3) := by decide +kernel
theorem dX10_isNearAs_24 : decode cX10_isNearAs 24 = .ok (.iconst 0, 1) := by decide +kernel
theorem dX10_isNearAs_25 : decode cX10_isNearAs 25 = .ok (.ireturn, 1) := by decide +kernel
theorem dX10_isCousinBy_0 : decode cX10_isCousinBy 0 = .ok (.aload_n 0, 1) := by decide +kernel
theorem dX10_isCousinBy_1 : decode cX10_isCousinBy 1 = .ok (.aload_n 1, 1) := by decide +kernel
theorem dX10_isCousinBy_2 : decode cX10_isCousinBy 2 = .ok (.getfield 279, 3) := by decide +kernel
theorem dX10_isCousinBy_5 : decode cX10_isCousinBy 5 = .ok (.invokestatic 291, 3) := by decide +kernel
theorem dX10_isCousinBy_8 : decode cX10_isCousinBy 8 = .ok (.ifCond .ne 14, 3) := by decide +kernel
theorem dX10_isCousinBy_11 : decode cX10_isCousinBy 11 = .ok (.aload_n 0, 1) := by decide +kernel
theorem dX10_isCousinBy_12 : decode cX10_isCousinBy 12 = .ok (.aload_n 1, 1) := by decide +kernel
theorem dX10_isCousinBy_13 : decode cX10_isCousinBy 13 = .ok (.getfield 285, 3) := by decide +kernel
theorem dX10_isCousinBy_16 : decode cX10_isCousinBy 16 = .ok (.invokestatic 291, 3) := by decide +kernel
theorem dX10_isCousinBy_19 : decode cX10_isCousinBy 19 = .ok (.ifCond .eq 7, 3) := by decide +kernel
theorem dX10_isCousinBy_22 : decode cX10_isCousinBy 22 = .ok (.iconst 1, 1) := by decide +kernel
theorem dX10_isCousinBy_23 : decode cX10_isCousinBy 23 = .ok (.goto 4, 3) := by decide +kernel
theorem dX10_isCousinBy_26 : decode cX10_isCousinBy 26 = .ok (.iconst 0, 1) := by decide +kernel
theorem dX10_isCousinBy_27 : decode cX10_isCousinBy 27 = .ok (.ireturn, 1) := by decide +kernel
theorem dX10_sharesParent_0 : decode cX10_sharesParent 0 = .ok (.aload_n 0, 1) := by decide +kernel
theorem dX10_sharesParent_1 : decode cX10_sharesParent 1 = .ok (.ifnull 19, 3) := by decide +kernel
theorem dX10_sharesParent_4 : decode cX10_sharesParent 4 = .ok (.aload_n 1, 1) := by decide +kernel
theorem dX10_sharesParent_5 : decode cX10_sharesParent 5 = .ok (.ifnull 15, 3) := by decide +kernel
theorem dX10_sharesParent_8 : decode cX10_sharesParent 8 = .ok (.aload_n 0, 1) := by decide +kernel
theorem dX10_sharesParent_9 : decode cX10_sharesParent 9 = .ok (.aload_n 1, 1) := by decide +kernel
theorem dX10_sharesParent_10 : decode cX10_sharesParent 10 = .ok (.invokevirtual 273, 3) := by decide +kernel
theorem dX10_sharesParent_13 : decode cX10_sharesParent 13 = .ok (.ifCond .eq 7, 3) := by decide +kernel
theorem dX10_sharesParent_16 : decode cX10_sharesParent 16 = .ok (.iconst 1, 1) := by decide +kernel
theorem dX10_sharesParent_17 : decode cX10_sharesParent 17 = .ok (.goto 4, 3) := by decide +kernel
theorem dX10_sharesParent_20 : decode cX10_sharesParent 20 = .ok (.iconst 0, 1) := by decide +kernel
theorem dX10_sharesParent_21 : decode cX10_sharesParent 21 = .ok (.ireturn, 1) := by decide +kernel
theorem dX10_barToCouple_0 : decode cX10_barToCouple 0 = .ok (.aload_n 1, 1) := by decide +kernel
theorem dX10_barToCouple_1 : decode cX10_barToCouple 1 = .ok (.getfield 135, 3) := by decide +kernel
theorem dX10_barToCouple_4 : decode cX10_barToCouple 4 = .ok (.ifnonnull 10, 3) := by decide +kernel
theorem dX10_barToCouple_7 : decode cX10_barToCouple 7 = .ok (.aload_n 2, 1) := by decide +kernel
theorem dX10_barToCouple_8 : decode cX10_barToCouple 8 = .ok (.getfield 135, 3) := by decide +kernel
theorem dX10_barToCouple_11 : decode cX10_barToCouple 11 = .ok (.ifnull 5, 3) := by decide +kernel
theorem dX10_barToCouple_14 : decode cX10_barToCouple 14 = .ok (.iconst 1, 1) := by decide +kernel
theorem dX10_barToCouple_15 : decode cX10_barToCouple 15 = .ok (.ireturn, 1) := by decide +kernel
theorem dX10_barToCouple_16 : decode cX10_barToCouple 16 = .ok (.aload_n 0, 1) := by decide +kernel
theorem dX10_barToCouple_17 : decode cX10_barToCouple 17 = .ok (.getfield 33, 3) := by decide +kernel
theorem dX10_barToCouple_20 : decode cX10_barToCouple 20 = .ok (.aload_n 1, 1) := by decide +kernel
theorem dX10_barToCouple_21 : decode cX10_barToCouple 21 = .ok (.getfield 294, 3) := by decide +kernel
theorem dX10_barToCouple_24 : decode cX10_barToCouple 24 = .ok (.iload_n 3, 1) := by decide +kernel
theorem dX10_barToCouple_25 : decode cX10_barToCouple 25 = .ok (.invokevirtual 297, 3) := by decide +kernel
theorem dX10_barToCouple_28 : decode cX10_barToCouple 28 = .ok (.astore 4, 2) := by decide +kernel
theorem dX10_barToCouple_30 : decode cX10_barToCouple 30 = .ok (.aload_n 0, 1) := by decide +kernel
theorem dX10_barToCouple_31 : decode cX10_barToCouple 31 = .ok (.getfield 33, 3) := by decide +kernel
theorem dX10_barToCouple_34 : decode cX10_barToCouple 34 = .ok (.aload_n 2, 1) := by decide +kernel
theorem dX10_barToCouple_35 : decode cX10_barToCouple 35 = .ok (.getfield 294, 3) := by decide +kernel
theorem dX10_barToCouple_38 : decode cX10_barToCouple 38 = .ok (.iload_n 3, 1) := by decide +kernel
theorem dX10_barToCouple_39 : decode cX10_barToCouple 39 = .ok (.invokevirtual 297, 3) := by decide +kernel
theorem dX10_barToCouple_42 : decode cX10_barToCouple 42 = .ok (.astore 5, 2) := by decide +kernel
theorem dX10_barToCouple_44 : decode cX10_barToCouple 44 = .ok (.aload_n 1, 1) := by decide +kernel
theorem dX10_barToCouple_45 : decode cX10_barToCouple 45 = .ok (.aload 4, 2) := by decide +kernel
theorem dX10_barToCouple_47 : decode cX10_barToCouple 47 = .ok (.iload_n 3, 1) := by decide +kernel
theorem dX10_barToCouple_48 : decode cX10_barToCouple 48 = .ok (.invokestatic 301, 3) := by decide +kernel
theorem dX10_barToCouple_51 : decode cX10_barToCouple 51 = .ok (.ifCond .ne 13, 3) := by decide +kernel
theorem dX10_barToCouple_54 : decode cX10_barToCouple 54 = .ok (.aload_n 2, 1) := by decide +kernel
theorem dX10_barToCouple_55 : decode cX10_barToCouple 55 = .ok (.aload 5, 2) := by decide +kernel
theorem dX10_barToCouple_57 : decode cX10_barToCouple 57 = .ok (.iload_n 3, 1) := by decide +kernel
theorem dX10_barToCouple_58 : decode cX10_barToCouple 58 = .ok (.invokestatic 301, 3) := by decide +kernel
theorem dX10_barToCouple_61 : decode cX10_barToCouple 61 = .ok (.ifCond .eq 5, 3) := by decide +kernel
theorem dX10_barToCouple_64 : decode cX10_barToCouple 64 = .ok (.iconst 2, 1) := by decide +kernel
theorem dX10_barToCouple_65 : decode cX10_barToCouple 65 = .ok (.ireturn, 1) := by decide +kernel
theorem dX10_barToCouple_66 : decode cX10_barToCouple 66 = .ok (.aload_n 1, 1) := by decide +kernel
theorem dX10_barToCouple_67 : decode cX10_barToCouple 67 = .ok (.aload_n 2, 1) := by decide +kernel
theorem dX10_barToCouple_68 : decode cX10_barToCouple 68 = .ok (.invokestatic 127, 3) := by decide +kernel
theorem dX10_barToCouple_71 : decode cX10_barToCouple 71 = .ok (.istore 6, 2) := by decide +kernel
theorem dX10_barToCouple_73 : decode cX10_barToCouple 73 = .ok (.iload 6, 2) := by decide +kernel
theorem dX10_barToCouple_75 : decode cX10_barToCouple 75 = .ok (.ifCond .eq 25, 3) := by decide +kernel
theorem dX10_barToCouple_78 : decode cX10_barToCouple 78 = .ok (.iload 6, 2) := by decide +kernel
theorem dX10_barToCouple_80 : decode cX10_barToCouple 80 = .ok (.aload 4, 2) := by decide +kernel
theorem dX10_barToCouple_82 : decode cX10_barToCouple 82 = .ok (.getfield 305, 3) := by decide +kernel
theorem dX10_barToCouple_85 : decode cX10_barToCouple 85 = .ok (.if_icmp .le 13, 3) := by decide +kernel
theorem dX10_barToCouple_88 : decode cX10_barToCouple 88 = .ok (.iload 6, 2) := by decide +kernel
theorem dX10_barToCouple_90 : decode cX10_barToCouple 90 = .ok (.aload 5, 2) := by decide +kernel
theorem dX10_barToCouple_92 : decode cX10_barToCouple 92 = .ok (.getfield 305, 3) := by decide +kernel
theorem dX10_barToCouple_95 : decode cX10_barToCouple 95 = .ok (.if_icmp .gt 5, 3) := by decide +kernel
theorem dX10_barToCouple_98 : decode cX10_barToCouple 98 = .ok (.iconst 3, 1) := by decide +kernel
theorem dX10_barToCouple_99 : decode cX10_barToCouple 99 = .ok (.ireturn, 1) := by decide +kernel
theorem dX10_barToCouple_100 : decode cX10_barToCouple 100 = .ok (.aload_n 1, 1) := by decide +kernel
theorem dX10_barToCouple_101 : decode cX10_barToCouple 101 = .ok (.aload 4, 2) := by decide +kernel
theorem dX10_barToCouple_103 : decode cX10_barToCouple 103 = .ok (.iload_n 3, 1) := by decide +kernel
theorem dX10_barToCouple_104 : decode cX10_barToCouple 104 = .ok (.invokestatic 308, 3) := by decide +kernel
theorem dX10_barToCouple_107 : decode cX10_barToCouple 107 = .ok (.ifCond .ne 13, 3) := by decide +kernel
theorem dX10_barToCouple_110 : decode cX10_barToCouple 110 = .ok (.aload_n 2, 1) := by decide +kernel
theorem dX10_barToCouple_111 : decode cX10_barToCouple 111 = .ok (.aload 5, 2) := by decide +kernel
theorem dX10_barToCouple_113 : decode cX10_barToCouple 113 = .ok (.iload_n 3, 1) := by decide +kernel
theorem dX10_barToCouple_114 : decode cX10_barToCouple 114 = .ok (.invokestatic 308, 3) := by decide +kernel
theorem dX10_barToCouple_117 : decode cX10_barToCouple 117 = .ok (.ifCond .eq 5, 3) := by decide +kernel
theorem dX10_barToCouple_120 : decode cX10_barToCouple 120 = .ok (.iconst 4, 1) := by decide +kernel
theorem dX10_barToCouple_121 : decode cX10_barToCouple 121 = .ok (.ireturn, 1) := by decide +kernel
theorem dX10_barToCouple_122 : decode cX10_barToCouple 122 = .ok (.iconst 0, 1) := by decide +kernel
theorem dX10_barToCouple_123 : decode cX10_barToCouple 123 = .ok (.ireturn, 1) := by decide +kernel
theorem dX10_isTooYoung_0 : decode cX10_isTooYoung 0 = .ok (.iload_n 2, 1) := by decide +kernel
theorem dX10_isTooYoung_1 : decode cX10_isTooYoung 1 = .ok (.aload_n 0, 1) := by decide +kernel
theorem dX10_isTooYoung_2 : decode cX10_isTooYoung 2 = .ok (.getfield 311, 3) := by decide +kernel
theorem dX10_isTooYoung_5 : decode cX10_isTooYoung 5 = .ok (.isub, 1) := by decide +kernel
theorem dX10_isTooYoung_6 : decode cX10_isTooYoung 6 = .ok (.aload_n 1, 1) := by decide +kernel
theorem dX10_isTooYoung_7 : decode cX10_isTooYoung 7 = .ok (.getfield 314, 3) := by decide +kernel
theorem dX10_isTooYoung_10 : decode cX10_isTooYoung 10 = .ok (.sipush 365, 3) := by decide +kernel
theorem dX10_isTooYoung_13 : decode cX10_isTooYoung 13 = .ok (.imul, 1) := by decide +kernel
theorem dX10_isTooYoung_14 : decode cX10_isTooYoung 14 = .ok (.if_icmp .ge 7, 3) := by decide +kernel
theorem dX10_isTooYoung_17 : decode cX10_isTooYoung 17 = .ok (.iconst 1, 1) := by decide +kernel
theorem dX10_isTooYoung_18 : decode cX10_isTooYoung 18 = .ok (.goto 4, 3) := by decide +kernel
theorem dX10_isTooYoung_21 : decode cX10_isTooYoung 21 = .ok (.iconst 0, 1) := by decide +kernel
theorem dX10_isTooYoung_22 : decode cX10_isTooYoung 22 = .ok (.ireturn, 1) := by decide +kernel
theorem dX10_lacksPaper_0 : decode cX10_lacksPaper 0 = .ok (.iconst 0, 1) := by decide +kernel
theorem dX10_lacksPaper_1 : decode cX10_lacksPaper 1 = .ok (.istore_n 3, 1) := by decide +kernel
theorem dX10_lacksPaper_2 : decode cX10_lacksPaper 2 = .ok (.iload_n 3, 1) := by decide +kernel
theorem dX10_lacksPaper_3 : decode cX10_lacksPaper 3 = .ok (.iconst 3, 1) := by decide +kernel
theorem dX10_lacksPaper_4 : decode cX10_lacksPaper 4 = .ok (.if_icmp .ge 32, 3) := by decide +kernel
theorem dX10_lacksPaper_7 : decode cX10_lacksPaper 7 = .ok (.aload_n 1, 1) := by decide +kernel
theorem dX10_lacksPaper_8 : decode cX10_lacksPaper 8 = .ok (.iload_n 3, 1) := by decide +kernel
theorem dX10_lacksPaper_9 : decode cX10_lacksPaper 9 = .ok (.invokevirtual 317, 3) := by decide +kernel
theorem dX10_lacksPaper_12 : decode cX10_lacksPaper 12 = .ok (.ifCond .eq 18, 3) := by decide +kernel
theorem dX10_lacksPaper_15 : decode cX10_lacksPaper 15 = .ok (.aload_n 0, 1) := by decide +kernel
theorem dX10_lacksPaper_16 : decode cX10_lacksPaper 16 = .ok (.iload_n 3, 1) := by decide +kernel
theorem dX10_lacksPaper_17 : decode cX10_lacksPaper 17 = .ok (.iload_n 2, 1) := by decide +kernel
theorem dX10_lacksPaper_18 : decode cX10_lacksPaper 18 = .ok (.aload_n 1, 1) := by decide +kernel
theorem dX10_lacksPaper_19 : decode cX10_lacksPaper 19 = .ok (.getfield 320, 3) := by decide +kernel
theorem dX10_lacksPaper_22 : decode cX10_lacksPaper 22 = .ok (.invokevirtual 323, 3) := by decide +kernel
theorem dX10_lacksPaper_25 : decode cX10_lacksPaper 25 = .ok (.ifCond .ne 5, 3) := by decide +kernel
theorem dX10_lacksPaper_28 : decode cX10_lacksPaper 28 = .ok (.iconst 1, 1) := by decide +kernel
theorem dX10_lacksPaper_29 : decode cX10_lacksPaper 29 = .ok (.ireturn, 1) := by decide +kernel
theorem dX10_lacksPaper_30 : decode cX10_lacksPaper 30 = .ok (.iinc 3 1, 3) := by decide +kernel
theorem dX10_lacksPaper_33 : decode cX10_lacksPaper 33 = .ok (.goto (-31), 3) := by decide +kernel
theorem dX10_lacksPaper_36 : decode cX10_lacksPaper 36 = .ok (.iconst 0, 1) := by decide +kernel
theorem dX10_lacksPaper_37 : decode cX10_lacksPaper 37 = .ok (.ireturn, 1) := by decide +kernel
theorem dX10_hangingAsked_0 : decode cX10_hangingAsked 0 = .ok (.aload_n 0, 1) := by decide +kernel
theorem dX10_hangingAsked_1 : decode cX10_hangingAsked 1 = .ok (.getfield 33, 3) := by decide +kernel
theorem dX10_hangingAsked_4 : decode cX10_hangingAsked 4 = .ok (.aload_n 1, 1) := by decide +kernel
theorem dX10_hangingAsked_5 : decode cX10_hangingAsked 5 = .ok (.getfield 212, 3) := by decide +kernel
theorem dX10_hangingAsked_8 : decode cX10_hangingAsked 8 = .ok (.getfield 294, 3) := by decide +kernel
theorem dX10_hangingAsked_11 : decode cX10_hangingAsked 11 = .ok (.iload_n 2, 1) := by decide +kernel
theorem dX10_hangingAsked_12 : decode cX10_hangingAsked 12 = .ok (.invokevirtual 297, 3) := by decide +kernel
theorem dX10_hangingAsked_15 : decode cX10_hangingAsked 15 = .ok (.getfield 327, 3) := by decide +kernel
theorem dX10_hangingAsked_18 : decode cX10_hangingAsked 18 = .ok (.aload_n 0, 1) := by decide +kernel
theorem dX10_hangingAsked_19 : decode cX10_hangingAsked 19 = .ok (.getfield 33, 3) := by decide +kernel
theorem dX10_hangingAsked_22 : decode cX10_hangingAsked 22 = .ok (.aload_n 1, 1) := by decide +kernel
theorem dX10_hangingAsked_23 : decode cX10_hangingAsked 23 = .ok (.getfield 215, 3) := by decide +kernel
theorem dX10_hangingAsked_26 : decode cX10_hangingAsked 26 = .ok (.getfield 294, 3) := by decide +kernel
theorem dX10_hangingAsked_29 : decode cX10_hangingAsked 29 = .ok (.iload_n 2, 1) := by decide +kernel
theorem dX10_hangingAsked_30 : decode cX10_hangingAsked 30 = .ok (.invokevirtual 297, 3) := by decide +kernel
theorem dX10_hangingAsked_33 : decode cX10_hangingAsked 33 = .ok (.getfield 327, 3) := by decide +kernel
theorem dX10_hangingAsked_36 : decode cX10_hangingAsked 36 = .ok (.invokestatic 329, 3) := by decide +kernel
theorem dX10_hangingAsked_39 : decode cX10_hangingAsked 39 = .ok (.ireturn, 1) := by decide +kernel
theorem dX10_isRipeOn_0 : decode cX10_isRipeOn 0 = .ok (.aload_n 1, 1) := by decide +kernel
theorem dX10_isRipeOn_1 : decode cX10_isRipeOn 1 = .ok (.getfield 173, 3) := by decide +kernel
theorem dX10_isRipeOn_4 : decode cX10_isRipeOn 4 = .ok (.ifCond .ne 36, 3) := by decide +kernel
theorem dX10_isRipeOn_7 : decode cX10_isRipeOn 7 = .ok (.iload_n 2, 1) := by decide +kernel
theorem dX10_isRipeOn_8 : decode cX10_isRipeOn 8 = .ok (.aload_n 1, 1) := by decide +kernel
theorem dX10_isRipeOn_9 : decode cX10_isRipeOn 9 = .ok (.getfield 158, 3) := by decide +kernel
theorem dX10_isRipeOn_12 : decode cX10_isRipeOn 12 = .ok (.if_icmp .lt 28, 3) := by decide +kernel
theorem dX10_isRipeOn_15 : decode cX10_isRipeOn 15 = .ok (.aload_n 0, 1) := by decide +kernel
theorem dX10_isRipeOn_16 : decode cX10_isRipeOn 16 = .ok (.getfield 26, 3) := by decide +kernel
theorem dX10_isRipeOn_19 : decode cX10_isRipeOn 19 = .ok (.aload_n 1, 1) := by decide +kernel
theorem dX10_isRipeOn_20 : decode cX10_isRipeOn 20 = .ok (.getfield 158, 3) := by decide +kernel
theorem dX10_isRipeOn_23 : decode cX10_isRipeOn 23 = .ok (.iload_n 2, 1) := by decide +kernel
theorem dX10_isRipeOn_24 : decode cX10_isRipeOn 24 = .ok (.invokevirtual 161, 3) := by decide +kernel
theorem dX10_isRipeOn_27 : decode cX10_isRipeOn 27 = .ok (.aload_n 0, 1) := by decide +kernel
theorem dX10_isRipeOn_28 : decode cX10_isRipeOn 28 = .ok (.aload_n 1, 1) := by decide +kernel
theorem dX10_isRipeOn_29 : decode cX10_isRipeOn 29 = .ok (.iload_n 2, 1) := by decide +kernel
theorem dX10_isRipeOn_30 : decode cX10_isRipeOn 30 = .ok (.invokevirtual 332, 3) := by decide +kernel
theorem dX10_isRipeOn_33 : decode cX10_isRipeOn 33 = .ok (.if_icmp .lt 7, 3) := by decide +kernel
theorem dX10_isRipeOn_36 : decode cX10_isRipeOn 36 = .ok (.iconst 1, 1) := by decide +kernel
theorem dX10_isRipeOn_37 : decode cX10_isRipeOn 37 = .ok (.goto 4, 3) := by decide +kernel
theorem dX10_isRipeOn_40 : decode cX10_isRipeOn 40 = .ok (.iconst 0, 1) := by decide +kernel
theorem dX10_isRipeOn_41 : decode cX10_isRipeOn 41 = .ok (.ireturn, 1) := by decide +kernel
theorem dX10_firstRipeDay_0 : decode cX10_firstRipeDay 0 = .ok (.iconst 0, 1) := by decide +kernel
theorem dX10_firstRipeDay_1 : decode cX10_firstRipeDay 1 = .ok (.istore_n 2, 1) := by decide +kernel
theorem dX10_firstRipeDay_2 : decode cX10_firstRipeDay 2 = .ok (.aload_n 1, 1) := by decide +kernel
theorem dX10_firstRipeDay_3 : decode cX10_firstRipeDay 3 = .ok (.getfield 158, 3) := by decide +kernel
theorem dX10_firstRipeDay_6 : decode cX10_firstRipeDay 6 = .ok (.istore_n 3, 1) := by decide +kernel
theorem dX10_firstRipeDay_7 : decode cX10_firstRipeDay 7 = .ok (.iload_n 3, 1) := by decide +kernel
theorem dX10_firstRipeDay_8 : decode cX10_firstRipeDay 8 = .ok (.sipush 20000, 3) := by decide +kernel
theorem dX10_firstRipeDay_11 : decode cX10_firstRipeDay 11 = .ok (.if_icmp .gt 43, 3) := by decide +kernel
theorem dX10_firstRipeDay_14 : decode cX10_firstRipeDay 14 = .ok (.iload_n 2, 1) := by decide +kernel
theorem dX10_firstRipeDay_15 : decode cX10_firstRipeDay 15 = .ok (.aload_n 0, 1) := by decide +kernel
theorem dX10_firstRipeDay_16 : decode cX10_firstRipeDay 16 = .ok (.aload_n 1, 1) := by decide +kernel
theorem dX10_firstRipeDay_17 : decode cX10_firstRipeDay 17 = .ok (.iload_n 3, 1) := by decide +kernel
theorem dX10_firstRipeDay_18 : decode cX10_firstRipeDay 18 = .ok (.invokevirtual 332, 3) := by decide +kernel
theorem dX10_firstRipeDay_21 : decode cX10_firstRipeDay 21 = .ok (.if_icmp .lt 5, 3) := by decide +kernel
theorem dX10_firstRipeDay_24 : decode cX10_firstRipeDay 24 = .ok (.iload_n 3, 1) := by decide +kernel
theorem dX10_firstRipeDay_25 : decode cX10_firstRipeDay 25 = .ok (.ireturn, 1) := by decide +kernel
theorem dX10_firstRipeDay_26 : decode cX10_firstRipeDay 26 = .ok (.iload_n 3, 1) := by decide +kernel
theorem dX10_firstRipeDay_27 : decode cX10_firstRipeDay 27 = .ok (.aload_n 1, 1) := by decide +kernel
theorem dX10_firstRipeDay_28 : decode cX10_firstRipeDay 28 = .ok (.getfield 158, 3) := by decide +kernel
theorem dX10_firstRipeDay_31 : decode cX10_firstRipeDay 31 = .ok (.if_icmp .le 17, 3) := by decide +kernel
theorem dX10_firstRipeDay_34 : decode cX10_firstRipeDay 34 = .ok (.aload_n 0, 1) := by decide +kernel
theorem dX10_firstRipeDay_35 : decode cX10_firstRipeDay 35 = .ok (.getfield 26, 3) := by decide +kernel
theorem dX10_firstRipeDay_38 : decode cX10_firstRipeDay 38 = .ok (.iload_n 3, 1) := by decide +kernel
theorem dX10_firstRipeDay_39 : decode cX10_firstRipeDay 39 = .ok (.invokevirtual 114, 3) := by decide +kernel
theorem dX10_firstRipeDay_42 : decode cX10_firstRipeDay 42 = .ok (.ifCond .ne 6, 3) := by decide +kernel
theorem dX10_firstRipeDay_45 : decode cX10_firstRipeDay 45 = .ok (.iinc 2 1, 3) := by decide +kernel
theorem dX10_firstRipeDay_48 : decode cX10_firstRipeDay 48 = .ok (.iinc 3 1, 3) := by decide +kernel
theorem dX10_firstRipeDay_51 : decode cX10_firstRipeDay 51 = .ok (.goto (-44), 3) := by decide +kernel
theorem dX10_firstRipeDay_54 : decode cX10_firstRipeDay 54 = .ok (.iconst (-1), 1) := by decide +kernel
theorem dX10_firstRipeDay_55 : decode cX10_firstRipeDay 55 = .ok (.ireturn, 1) := by decide +kernel
theorem dX10_isSlot_0 : decode cX10_isSlot 0 = .ok (.iload_n 1, 1) := by decide +kernel
theorem dX10_isSlot_1 : decode cX10_isSlot 1 = .ok (.ifCond .ge 5, 3) := by decide +kernel
theorem dX10_isSlot_4 : decode cX10_isSlot 4 = .ok (.iconst 0, 1) := by decide +kernel
theorem dX10_isSlot_5 : decode cX10_isSlot 5 = .ok (.ireturn, 1) := by decide +kernel
theorem dX10_isSlot_6 : decode cX10_isSlot 6 = .ok (.iload_n 1, 1) := by decide +kernel
theorem dX10_isSlot_7 : decode cX10_isSlot 7 = .ok (.invokestatic 335, 3) := by decide +kernel
theorem dX10_isSlot_10 : decode cX10_isSlot 10 = .ok (.istore_n 2, 1) := by decide +kernel
theorem dX10_isSlot_11 : decode cX10_isSlot 11 = .ok (.iload_n 2, 1) := by decide +kernel
theorem dX10_isSlot_12 : decode cX10_isSlot 12 = .ok (.bipush 8, 2) := by decide +kernel
theorem dX10_isSlot_14 : decode cX10_isSlot 14 = .ok (.if_icmp .lt 32, 3) := by decide +kernel
theorem dX10_isSlot_17 : decode cX10_isSlot 17 = .ok (.iload_n 2, 1) := by decide +kernel
theorem dX10_isSlot_18 : decode cX10_isSlot 18 = .ok (.bipush 18, 2) := by decide +kernel
theorem dX10_isSlot_20 : decode cX10_isSlot 20 = .ok (.if_icmp .ge 26, 3) := by decide +kernel
theorem dX10_isSlot_23 : decode cX10_isSlot 23 = .ok (.iload_n 1, 1) := by decide +kernel
theorem dX10_isSlot_24 : decode cX10_isSlot 24 = .ok (.invokestatic 338, 3) := by decide +kernel
theorem dX10_isSlot_27 : decode cX10_isSlot 27 = .ok (.iconst 4, 1) := by decide +kernel
theorem dX10_isSlot_28 : decode cX10_isSlot 28 = .ok (.if_icmp .ge 18, 3) := by decide +kernel
theorem dX10_isSlot_31 : decode cX10_isSlot 31 = .ok (.iload_n 1, 1) := by decide +kernel
theorem dX10_isSlot_32 : decode cX10_isSlot 32 = .ok (.invokestatic 341, 3) := by decide +kernel
theorem dX10_isSlot_35 : decode cX10_isSlot 35 = .ok (.aload_n 0, 1) := by decide +kernel
theorem dX10_isSlot_36 : decode cX10_isSlot 36 = .ok (.getfield 16, 3) := by decide +kernel
theorem dX10_isSlot_39 : decode cX10_isSlot 39 = .ok (.if_icmp .ge 7, 3) := by decide +kernel
theorem dX10_isSlot_42 : decode cX10_isSlot 42 = .ok (.iconst 1, 1) := by decide +kernel
theorem dX10_isSlot_43 : decode cX10_isSlot 43 = .ok (.goto 4, 3) := by decide +kernel
theorem dX10_isSlot_46 : decode cX10_isSlot 46 = .ok (.iconst 0, 1) := by decide +kernel
theorem dX10_isSlot_47 : decode cX10_isSlot 47 = .ok (.ireturn, 1) := by decide +kernel
theorem dX10_slotOf_0 : decode cX10_slotOf 0 = .ok (.iload_n 0, 1) := by decide +kernel
theorem dX10_slotOf_1 : decode cX10_slotOf 1 = .ok (.bipush 100, 2) := by decide +kernel
theorem dX10_slotOf_3 : decode cX10_slotOf 3 = .ok (.imul, 1) := by decide +kernel
theorem dX10_slotOf_4 : decode cX10_slotOf 4 = .ok (.iload_n 1, 1) := by decide +kernel
theorem dX10_slotOf_5 : decode cX10_slotOf 5 = .ok (.bipush 10, 2) := by decide +kernel
theorem dX10_slotOf_7 : decode cX10_slotOf 7 = .ok (.imul, 1) := by decide +kernel
theorem dX10_slotOf_8 : decode cX10_slotOf 8 = .ok (.iadd, 1) := by decide +kernel
theorem dX10_slotOf_9 : decode cX10_slotOf 9 = .ok (.iload_n 2, 1) := by decide +kernel
theorem dX10_slotOf_10 : decode cX10_slotOf 10 = .ok (.iadd, 1) := by decide +kernel
theorem dX10_slotOf_11 : decode cX10_slotOf 11 = .ok (.ireturn, 1) := by decide +kernel
theorem dX10_hourOf_0 : decode cX10_hourOf 0 = .ok (.iload_n 0, 1) := by decide +kernel
theorem dX10_hourOf_1 : decode cX10_hourOf 1 = .ok (.bipush 100, 2) := by decide +kernel
theorem dX10_hourOf_3 : decode cX10_hourOf 3 = .ok (.idiv, 1) := by decide +kernel
theorem dX10_hourOf_4 : decode cX10_hourOf 4 = .ok (.ireturn, 1) := by decide +kernel
theorem dX10_hallOf_0 : decode cX10_hallOf 0 = .ok (.iload_n 0, 1) := by decide +kernel
theorem dX10_hallOf_1 : decode cX10_hallOf 1 = .ok (.bipush 10, 2) := by decide +kernel
theorem dX10_hallOf_3 : decode cX10_hallOf 3 = .ok (.idiv, 1) := by decide +kernel
theorem dX10_hallOf_4 : decode cX10_hallOf 4 = .ok (.bipush 10, 2) := by decide +kernel
theorem dX10_hallOf_6 : decode cX10_hallOf 6 = .ok (.irem, 1) := by decide +kernel
theorem dX10_hallOf_7 : decode cX10_hallOf 7 = .ok (.ireturn, 1) := by decide +kernel
theorem dX10_registrarOf_0 : decode cX10_registrarOf 0 = .ok (.iload_n 0, 1) := by decide +kernel
theorem dX10_registrarOf_1 : decode cX10_registrarOf 1 = .ok (.bipush 10, 2) := by decide +kernel
theorem dX10_registrarOf_3 : decode cX10_registrarOf 3 = .ok (.irem, 1) := by decide +kernel
theorem dX10_registrarOf_4 : decode cX10_registrarOf 4 = .ok (.ireturn, 1) := by decide +kernel
theorem dX10_fillPlan_0 : decode cX10_fillPlan 0 = .ok (.aload_n 0, 1) := by decide +kernel
theorem dX10_fillPlan_1 : decode cX10_fillPlan 1 = .ok (.getfield 59, 3) := by decide +kernel
theorem dX10_fillPlan_4 : decode cX10_fillPlan 4 = .ok (.invokevirtual 344, 3) := by decide +kernel
theorem dX10_fillPlan_7 : decode cX10_fillPlan 7 = .ok (.iconst 0, 1) := by decide +kernel
theorem dX10_fillPlan_8 : decode cX10_fillPlan 8 = .ok (.istore_n 3, 1) := by decide +kernel
theorem dX10_fillPlan_9 : decode cX10_fillPlan 9 = .ok (.iload_n 3, 1) := by decide +kernel
theorem dX10_fillPlan_10 : decode cX10_fillPlan 10 = .ok (.aload_n 0, 1) := by decide +kernel
theorem dX10_fillPlan_11 : decode cX10_fillPlan 11 = .ok (.getfield 44, 3) := by decide +kernel
theorem dX10_fillPlan_14 : decode cX10_fillPlan 14 = .ok (.invokevirtual 88, 3) := by decide +kernel
theorem dX10_fillPlan_17 : decode cX10_fillPlan 17 = .ok (.if_icmp .ge 57, 3) := by decide +kernel
theorem dX10_fillPlan_20 : decode cX10_fillPlan 20 = .ok (.aload_n 0, 1) := by decide +kernel
theorem dX10_fillPlan_21 : decode cX10_fillPlan 21 = .ok (.getfield 44, 3) := by decide +kernel
theorem dX10_fillPlan_24 : decode cX10_fillPlan 24 = .ok (.iload_n 3, 1) := by decide +kernel
theorem dX10_fillPlan_25 : decode cX10_fillPlan 25 = .ok (.invokevirtual 176, 3) := by decide +kernel
theorem dX10_fillPlan_28 : decode cX10_fillPlan 28 = .ok (.checkcast 143, 3) := by decide +kernel
theorem dX10_fillPlan_31 : decode cX10_fillPlan 31 = .ok (.astore 4, 2) := by decide +kernel
theorem dX10_fillPlan_33 : decode cX10_fillPlan 33 = .ok (.aload 4, 2) := by decide +kernel
theorem dX10_fillPlan_35 : decode cX10_fillPlan 35 = .ok (.aload_n 2, 1) := by decide +kernel
theorem dX10_fillPlan_36 : decode cX10_fillPlan 36 = .ok (.if_acmp .eq 32, 3) := by decide +kernel
theorem dX10_fillPlan_39 : decode cX10_fillPlan 39 = .ok (.aload 4, 2) := by decide +kernel
theorem dX10_fillPlan_41 : decode cX10_fillPlan 41 = .ok (.invokevirtual 263, 3) := by decide +kernel
theorem dX10_fillPlan_44 : decode cX10_fillPlan 44 = .ok (.ifCond .eq 24, 3) := by decide +kernel
theorem dX10_fillPlan_47 : decode cX10_fillPlan 47 = .ok (.aload 4, 2) := by decide +kernel
theorem dX10_fillPlan_49 : decode cX10_fillPlan 49 = .ok (.getfield 209, 3) := by decide +kernel
theorem dX10_fillPlan_52 : decode cX10_fillPlan 52 = .ok (.iload_n 1, 1) := by decide +kernel
theorem dX10_fillPlan_53 : decode cX10_fillPlan 53 = .ok (.if_icmp .ne 15, 3) := by decide +kernel
theorem dX10_fillPlan_56 : decode cX10_fillPlan 56 = .ok (.aload_n 0, 1) := by decide +kernel
theorem dX10_fillPlan_57 : decode cX10_fillPlan 57 = .ok (.getfield 59, 3) := by decide +kernel
theorem dX10_fillPlan_60 : decode cX10_fillPlan 60 = .ok (.aload 4, 2) := by decide +kernel
theorem dX10_fillPlan_62 : decode cX10_fillPlan 62 = .ok (.getfield 254, 3) := by decide +kernel
theorem dX10_fillPlan_65 : decode cX10_fillPlan 65 = .ok (.invokevirtual 347, 3) := by decide +kernel
theorem dX10_fillPlan_68 : decode cX10_fillPlan 68 = .ok (.iinc 3 1, 3) := by decide +kernel
theorem dX10_fillPlan_71 : decode cX10_fillPlan 71 = .ok (.goto (-62), 3) := by decide +kernel
theorem dX10_fillPlan_74 : decode cX10_fillPlan 74 = .ok (.return_, 1) := by decide +kernel
theorem dX10_barToDay_0 : decode cX10_barToDay 0 = .ok (.aload_n 1, 1) := by decide +kernel
theorem dX10_barToDay_1 : decode cX10_barToDay 1 = .ok (.getfield 152, 3) := by decide +kernel
theorem dX10_barToDay_4 : decode cX10_barToDay 4 = .ok (.ifCond .eq 5, 3) := by decide +kernel
theorem dX10_barToDay_7 : decode cX10_barToDay 7 = .ok (.iconst 1, 1) := by decide +kernel
theorem dX10_barToDay_8 : decode cX10_barToDay 8 = .ok (.ireturn, 1) := by decide +kernel
theorem dX10_barToDay_9 : decode cX10_barToDay 9 = .ok (.aload_n 0, 1) := by decide +kernel
theorem dX10_barToDay_10 : decode cX10_barToDay 10 = .ok (.getfield 26, 3) := by decide +kernel
theorem dX10_barToDay_13 : decode cX10_barToDay 13 = .ok (.iload_n 2, 1) := by decide +kernel
theorem dX10_barToDay_14 : decode cX10_barToDay 14 = .ok (.invokevirtual 114, 3) := by decide +kernel
theorem dX10_barToDay_17 : decode cX10_barToDay 17 = .ok (.ifCond .eq 5, 3) := by decide +kernel
theorem dX10_barToDay_20 : decode cX10_barToDay 20 = .ok (.iconst 2, 1) := by decide +kernel
theorem dX10_barToDay_21 : decode cX10_barToDay 21 = .ok (.ireturn, 1) := by decide +kernel
theorem dX10_barToDay_22 : decode cX10_barToDay 22 = .ok (.aload_n 0, 1) := by decide +kernel
theorem dX10_barToDay_23 : decode cX10_barToDay 23 = .ok (.aload_n 1, 1) := by decide +kernel
theorem dX10_barToDay_24 : decode cX10_barToDay 24 = .ok (.iload_n 2, 1) := by decide +kernel
theorem dX10_barToDay_25 : decode cX10_barToDay 25 = .ok (.invokevirtual 218, 3) := by decide +kernel
theorem dX10_barToDay_28 : decode cX10_barToDay 28 = .ok (.ifCond .eq 7, 3) := by decide +kernel
theorem dX10_barToDay_31 : decode cX10_barToDay 31 = .ok (.iconst 0, 1) := by decide +kernel
theorem dX10_barToDay_32 : decode cX10_barToDay 32 = .ok (.goto 4, 3) := by decide +kernel
theorem dX10_barToDay_35 : decode cX10_barToDay 35 = .ok (.iconst 3, 1) := by decide +kernel
theorem dX10_barToDay_36 : decode cX10_barToDay 36 = .ok (.ireturn, 1) := by decide +kernel
theorem dX10_barToSlot_0 : decode cX10_barToSlot 0 = .ok (.aload_n 0, 1) := by decide +kernel
theorem dX10_barToSlot_1 : decode cX10_barToSlot 1 = .ok (.getfield 59, 3) := by decide +kernel
theorem dX10_barToSlot_4 : decode cX10_barToSlot 4 = .ok (.iload_n 2, 1) := by decide +kernel
theorem dX10_barToSlot_5 : decode cX10_barToSlot 5 = .ok (.invokevirtual 350, 3) := by decide +kernel
theorem dX10_barToSlot_8 : decode cX10_barToSlot 8 = .ok (.istore_n 3, 1) := by decide +kernel
theorem dX10_barToSlot_9 : decode cX10_barToSlot 9 = .ok (.iload_n 3, 1) := by decide +kernel
theorem dX10_barToSlot_10 : decode cX10_barToSlot 10 = .ok (.ifCond .eq 5, 3) := by decide +kernel
theorem dX10_barToSlot_13 : decode cX10_barToSlot 13 = .ok (.iload_n 3, 1) := by decide +kernel
theorem dX10_barToSlot_14 : decode cX10_barToSlot 14 = .ok (.ireturn, 1) := by decide +kernel
theorem dX10_barToSlot_15 : decode cX10_barToSlot 15 = .ok (.aload_n 0, 1) := by decide +kernel
theorem dX10_barToSlot_16 : decode cX10_barToSlot 16 = .ok (.iload_n 2, 1) := by decide +kernel
theorem dX10_barToSlot_17 : decode cX10_barToSlot 17 = .ok (.invokestatic 341, 3) := by decide +kernel
theorem dX10_barToSlot_20 : decode cX10_barToSlot 20 = .ok (.aload_n 1, 1) := by decide +kernel
theorem dX10_barToSlot_21 : decode cX10_barToSlot 21 = .ok (.invokevirtual 353, 3) := by decide +kernel
theorem dX10_barToSlot_24 : decode cX10_barToSlot 24 = .ok (.ifCond .eq 7, 3) := by decide +kernel
theorem dX10_barToSlot_27 : decode cX10_barToSlot 27 = .ok (.iconst 0, 1) := by decide +kernel
theorem dX10_barToSlot_28 : decode cX10_barToSlot 28 = .ok (.goto 5, 3) := by decide +kernel
theorem dX10_barToSlot_31 : decode cX10_barToSlot 31 = .ok (.bipush 7, 2) := by decide +kernel
theorem dX10_barToSlot_33 : decode cX10_barToSlot 33 = .ok (.ireturn, 1) := by decide +kernel
theorem dX10_speaksWithBoth_0 : decode cX10_speaksWithBoth 0 = .ok (.iload_n 1, 1) := by decide +kernel
theorem dX10_speaksWithBoth_1 : decode cX10_speaksWithBoth 1 = .ok (.ifCond .lt 12, 3) := by decide +kernel
theorem dX10_speaksWithBoth_4 : decode cX10_speaksWithBoth 4 = .ok (.iload_n 1, 1) := by decide +kernel
theorem dX10_speaksWithBoth_5 : decode cX10_speaksWithBoth 5 = .ok (.aload_n 0, 1) := by decide +kernel
theorem dX10_speaksWithBoth_6 : decode cX10_speaksWithBoth 6 = .ok (.getfield 19, 3) := by decide +kernel
theorem dX10_speaksWithBoth_9 : decode cX10_speaksWithBoth 9 = .ok (.arraylength, 1) := by decide +kernel
theorem dX10_speaksWithBoth_10 : decode cX10_speaksWithBoth 10 = .ok (.if_icmp .lt 5, 3) := by decide +kernel
theorem dX10_speaksWithBoth_13 : decode cX10_speaksWithBoth 13 = .ok (.iconst 0, 1) := by decide +kernel
theorem dX10_speaksWithBoth_14 : decode cX10_speaksWithBoth 14 = .ok (.ireturn, 1) := by decide +kernel
theorem dX10_speaksWithBoth_15 : decode cX10_speaksWithBoth 15 = .ok (.aload_n 0, 1) := by decide +kernel
theorem dX10_speaksWithBoth_16 : decode cX10_speaksWithBoth 16 = .ok (.getfield 19, 3) := by decide +kernel
theorem dX10_speaksWithBoth_19 : decode cX10_speaksWithBoth 19 = .ok (.iload_n 1, 1) := by decide +kernel
theorem dX10_speaksWithBoth_20 : decode cX10_speaksWithBoth 20 = .ok (.iaload, 1) := by decide +kernel
theorem dX10_speaksWithBoth_21 : decode cX10_speaksWithBoth 21 = .ok (.istore_n 3, 1) := by decide +kernel
theorem dX10_speaksWithBoth_22 : decode cX10_speaksWithBoth 22 = .ok (.iload_n 3, 1) := by decide +kernel
theorem dX10_speaksWithBoth_23 : decode cX10_speaksWithBoth 23 = .ok (.aload_n 2, 1) := by decide +kernel
theorem dX10_speaksWithBoth_24 : decode cX10_speaksWithBoth 24 = .ok (.getfield 212, 3) := by decide +kernel
theorem dX10_speaksWithBoth_27 : decode cX10_speaksWithBoth 27 = .ok (.getfield 357, 3) := by decide +kernel
theorem dX10_speaksWithBoth_30 : decode cX10_speaksWithBoth 30 = .ok (.iand, 1) := by decide +kernel
theorem dX10_speaksWithBoth_31 : decode cX10_speaksWithBoth 31 = .ok (.ifCond .eq 19, 3) := by decide +kernel
theorem dX10_speaksWithBoth_34 : decode cX10_speaksWithBoth 34 = .ok (.iload_n 3, 1) := by decide +kernel
theorem dX10_speaksWithBoth_35 : decode cX10_speaksWithBoth 35 = .ok (.aload_n 2, 1) := by decide +kernel
theorem dX10_speaksWithBoth_36 : decode cX10_speaksWithBoth 36 = .ok (.getfield 215, 3) := by decide +kernel
theorem dX10_speaksWithBoth_39 : decode cX10_speaksWithBoth 39 = .ok (.getfield 357, 3) := by decide +kernel
theorem dX10_speaksWithBoth_42 : decode cX10_speaksWithBoth 42 = .ok (.iand, 1) := by decide +kernel
theorem dX10_speaksWithBoth_43 : decode cX10_speaksWithBoth 43 = .ok (.ifCond .eq 7, 3) := by decide +kernel
theorem dX10_speaksWithBoth_46 : decode cX10_speaksWithBoth 46 = .ok (.iconst 1, 1) := by decide +kernel
theorem dX10_speaksWithBoth_47 : decode cX10_speaksWithBoth 47 = .ok (.goto 4, 3) := by decide +kernel
theorem dX10_speaksWithBoth_50 : decode cX10_speaksWithBoth 50 = .ok (.iconst 0, 1) := by decide +kernel
theorem dX10_speaksWithBoth_51 : decode cX10_speaksWithBoth 51 = .ok (.ireturn, 1) := by decide +kernel
theorem dX10_bookByOrder_0 : decode cX10_bookByOrder 0 = .ok (.aload_n 1, 1) := by decide +kernel
theorem dX10_bookByOrder_1 : decode cX10_bookByOrder 1 = .ok (.invokevirtual 263, 3) := by decide +kernel
theorem dX10_bookByOrder_4 : decode cX10_bookByOrder 4 = .ok (.ifCond .ne 12, 3) := by decide +kernel
theorem dX10_bookByOrder_7 : decode cX10_bookByOrder 7 = .ok (.aload_n 0, 1) := by decide +kernel
theorem dX10_bookByOrder_8 : decode cX10_bookByOrder 8 = .ok (.aload_n 1, 1) := by decide +kernel
theorem dX10_bookByOrder_9 : decode cX10_bookByOrder 9 = .ok (.iload_n 2, 1) := by decide +kernel
theorem dX10_bookByOrder_10 : decode cX10_bookByOrder 10 = .ok (.invokevirtual 194, 3) := by decide +kernel
theorem dX10_bookByOrder_13 : decode cX10_bookByOrder 13 = .ok (.ifCond .eq 5, 3) := by decide +kernel
theorem dX10_bookByOrder_16 : decode cX10_bookByOrder 16 = .ok (.iconst 0, 1) := by decide +kernel
theorem dX10_bookByOrder_17 : decode cX10_bookByOrder 17 = .ok (.ireturn, 1) := by decide +kernel
theorem dX10_bookByOrder_18 : decode cX10_bookByOrder 18 = .ok (.aload_n 0, 1) := by decide +kernel
theorem dX10_bookByOrder_19 : decode cX10_bookByOrder 19 = .ok (.aload_n 1, 1) := by decide +kernel
theorem dX10_bookByOrder_20 : decode cX10_bookByOrder 20 = .ok (.getfield 212, 3) := by decide +kernel
theorem dX10_bookByOrder_23 : decode cX10_bookByOrder 23 = .ok (.aload_n 1, 1) := by decide +kernel
theorem dX10_bookByOrder_24 : decode cX10_bookByOrder 24 = .ok (.getfield 215, 3) := by decide +kernel
theorem dX10_bookByOrder_27 : decode cX10_bookByOrder 27 = .ok (.iload_n 2, 1) := by decide +kernel
theorem dX10_bookByOrder_28 : decode cX10_bookByOrder 28 = .ok (.invokevirtual 131, 3) := by decide +kernel
theorem dX10_bookByOrder_31 : decode cX10_bookByOrder 31 = .ok (.ifCond .eq 5, 3) := by decide +kernel
theorem dX10_bookByOrder_34 : decode cX10_bookByOrder 34 = .ok (.iconst 0, 1) := by decide +kernel
theorem dX10_bookByOrder_35 : decode cX10_bookByOrder 35 = .ok (.ireturn, 1) := by decide +kernel
theorem dX10_bookByOrder_36 : decode cX10_bookByOrder 36 = .ok (.aload_n 0, 1) := by decide +kernel
theorem dX10_bookByOrder_37 : decode cX10_bookByOrder 37 = .ok (.aload_n 1, 1) := by decide +kernel
theorem dX10_bookByOrder_38 : decode cX10_bookByOrder 38 = .ok (.invokevirtual 360, 3) := by decide +kernel
theorem dX10_bookByOrder_41 : decode cX10_bookByOrder 41 = .ok (.istore_n 3, 1) := by decide +kernel
theorem dX10_bookByOrder_42 : decode cX10_bookByOrder 42 = .ok (.iload_n 3, 1) := by decide +kernel
theorem dX10_bookByOrder_43 : decode cX10_bookByOrder 43 = .ok (.iconst (-1), 1) := by decide +kernel
theorem dX10_bookByOrder_44 : decode cX10_bookByOrder 44 = .ok (.if_icmp .ne 5, 3) := by decide +kernel
theorem dX10_bookByOrder_47 : decode cX10_bookByOrder 47 = .ok (.iconst 0, 1) := by decide +kernel
theorem dX10_bookByOrder_48 : decode cX10_bookByOrder 48 = .ok (.ireturn, 1) := by decide +kernel
theorem dX10_bookByOrder_49 : decode cX10_bookByOrder 49 = .ok (.aload_n 1, 1) := by decide +kernel
theorem dX10_bookByOrder_50 : decode cX10_bookByOrder 50 = .ok (.iload_n 2, 1) := by decide +kernel
theorem dX10_bookByOrder_51 : decode cX10_bookByOrder 51 = .ok (.iload_n 3, 1) := by decide +kernel
theorem dX10_bookByOrder_52 : decode cX10_bookByOrder 52 = .ok (.invokevirtual 155, 3) := by decide +kernel
theorem dX10_bookByOrder_55 : decode cX10_bookByOrder 55 = .ok (.aload_n 0, 1) := by decide +kernel
theorem dX10_bookByOrder_56 : decode cX10_bookByOrder 56 = .ok (.getfield 59, 3) := by decide +kernel
theorem dX10_bookByOrder_59 : decode cX10_bookByOrder 59 = .ok (.iload_n 3, 1) := by decide +kernel
theorem dX10_bookByOrder_60 : decode cX10_bookByOrder 60 = .ok (.invokevirtual 347, 3) := by decide +kernel
theorem dX10_bookByOrder_63 : decode cX10_bookByOrder 63 = .ok (.iconst 1, 1) := by decide +kernel
theorem dX10_bookByOrder_64 : decode cX10_bookByOrder 64 = .ok (.ireturn, 1) := by decide +kernel
theorem dX10_firstFreeSlot_0 : decode cX10_firstFreeSlot 0 = .ok (.bipush 8, 2) := by decide +kernel
theorem dX10_firstFreeSlot_2 : decode cX10_firstFreeSlot 2 = .ok (.istore_n 2, 1) := by decide +kernel
theorem dX10_firstFreeSlot_3 : decode cX10_firstFreeSlot 3 = .ok (.iload_n 2, 1) := by decide +kernel
theorem dX10_firstFreeSlot_4 : decode cX10_firstFreeSlot 4 = .ok (.bipush 18, 2) := by decide +kernel
theorem dX10_firstFreeSlot_6 : decode cX10_firstFreeSlot 6 = .ok (.if_icmp .ge 62, 3) := by decide +kernel
theorem dX10_firstFreeSlot_9 : decode cX10_firstFreeSlot 9 = .ok (.iconst 0, 1) := by decide +kernel
theorem dX10_firstFreeSlot_10 : decode cX10_firstFreeSlot 10 = .ok (.istore_n 3, 1) := by decide +kernel
theorem dX10_firstFreeSlot_11 : decode cX10_firstFreeSlot 11 = .ok (.iload_n 3, 1) := by decide +kernel
theorem dX10_firstFreeSlot_12 : decode cX10_firstFreeSlot 12 = .ok (.iconst 4, 1) := by decide +kernel
theorem dX10_firstFreeSlot_13 : decode cX10_firstFreeSlot 13 = .ok (.if_icmp .ge 49, 3) := by decide +kernel
theorem dX10_firstFreeSlot_16 : decode cX10_firstFreeSlot 16 = .ok (.iconst 0, 1) := by decide +kernel
theorem dX10_firstFreeSlot_17 : decode cX10_firstFreeSlot 17 = .ok (.istore 4, 2) := by decide +kernel
theorem dX10_firstFreeSlot_19 : decode cX10_firstFreeSlot 19 = .ok (.iload 4, 2) := by decide +kernel
theorem dX10_firstFreeSlot_21 : decode cX10_firstFreeSlot 21 = .ok (.aload_n 0, 1) := by decide +kernel
theorem dX10_firstFreeSlot_22 : decode cX10_firstFreeSlot 22 = .ok (.getfield 16, 3) := by decide +kernel
theorem dX10_firstFreeSlot_25 : decode cX10_firstFreeSlot 25 = .ok (.if_icmp .ge 31, 3) := by decide +kernel
theorem dX10_firstFreeSlot_28 : decode cX10_firstFreeSlot 28 = .ok (.iload_n 2, 1) := by decide +kernel
theorem dX10_firstFreeSlot_29 : decode cX10_firstFreeSlot 29 = .ok (.iload_n 3, 1) := by decide +kernel
theorem dX10_firstFreeSlot_30 : decode cX10_firstFreeSlot 30 = .ok (.iload 4, 2) := by decide +kernel
theorem dX10_firstFreeSlot_32 : decode cX10_firstFreeSlot 32 = .ok (.invokestatic 363, 3) := by decide +kernel
theorem dX10_firstFreeSlot_35 : decode cX10_firstFreeSlot 35 = .ok (.istore 5, 2) := by decide +kernel
theorem dX10_firstFreeSlot_37 : decode cX10_firstFreeSlot 37 = .ok (.aload_n 0, 1) := by decide +kernel
theorem dX10_firstFreeSlot_38 : decode cX10_firstFreeSlot 38 = .ok (.aload_n 1, 1) := by decide +kernel
theorem dX10_firstFreeSlot_39 : decode cX10_firstFreeSlot 39 = .ok (.iload 5, 2) := by decide +kernel
theorem dX10_firstFreeSlot_41 : decode cX10_firstFreeSlot 41 = .ok (.invokevirtual 202, 3) := by decide +kernel
theorem dX10_firstFreeSlot_44 : decode cX10_firstFreeSlot 44 = .ok (.ifCond .ne 6, 3) := by decide +kernel
theorem dX10_firstFreeSlot_47 : decode cX10_firstFreeSlot 47 = .ok (.iload 5, 2) := by decide +kernel
theorem dX10_firstFreeSlot_49 : decode cX10_firstFreeSlot 49 = .ok (.ireturn, 1) := by decide +kernel
theorem dX10_firstFreeSlot_50 : decode cX10_firstFreeSlot 50 = .ok (.iinc 4 1, 3) := by decide +kernel
theorem dX10_firstFreeSlot_53 : decode cX10_firstFreeSlot 53 = .ok (.goto (-34), 3) := by decide +kernel
theorem dX10_firstFreeSlot_56 : decode cX10_firstFreeSlot 56 = .ok (.iinc 3 1, 3) := by decide +kernel
theorem dX10_firstFreeSlot_59 : decode cX10_firstFreeSlot 59 = .ok (.goto (-48), 3) := by decide +kernel
theorem dX10_firstFreeSlot_62 : decode cX10_firstFreeSlot 62 = .ok (.iinc 2 1, 3) := by decide +kernel
theorem dX10_firstFreeSlot_65 : decode cX10_firstFreeSlot 65 = .ok (.goto (-62), 3) := by decide +kernel
theorem dX10_firstFreeSlot_68 : decode cX10_firstFreeSlot 68 = .ok (.iconst (-1), 1) := by decide +kernel
theorem dX10_firstFreeSlot_69 : decode cX10_firstFreeSlot 69 = .ok (.ireturn, 1) := by decide +kernel
theorem dX10_nameAfter_0 : decode cX10_nameAfter 0 = .ok (.iload_n 3, 1) := by decide +kernel
theorem dX10_nameAfter_1 : decode cX10_nameAfter 1 = .ok (.ifCond .ne 16, 3) := by decide +kernel
theorem dX10_nameAfter_4 : decode cX10_nameAfter 4 = .ok (.aload_n 1, 1) := by decide +kernel
theorem dX10_nameAfter_5 : decode cX10_nameAfter 5 = .ok (.getfield 367, 3) := by decide +kernel
theorem dX10_nameAfter_8 : decode cX10_nameAfter 8 = .ok (.getfield 212, 3) := by decide +kernel
theorem dX10_nameAfter_11 : decode cX10_nameAfter 11 = .ok (.getfield 294, 3) := by decide +kernel
theorem dX10_nameAfter_14 : decode cX10_nameAfter 14 = .ok (.goto 13, 3) := by decide +kernel
theorem dX10_nameAfter_17 : decode cX10_nameAfter 17 = .ok (.aload_n 1, 1) := by decide +kernel
theorem dX10_nameAfter_18 : decode cX10_nameAfter 18 = .ok (.getfield 367, 3) := by decide +kernel
theorem dX10_nameAfter_21 : decode cX10_nameAfter 21 = .ok (.getfield 215, 3) := by decide +kernel
theorem dX10_nameAfter_24 : decode cX10_nameAfter 24 = .ok (.getfield 294, 3) := by decide +kernel
theorem dX10_nameAfter_27 : decode cX10_nameAfter 27 = .ok (.istore 4, 2) := by decide +kernel
theorem dX10_nameAfter_29 : decode cX10_nameAfter 29 = .ok (.aload_n 0, 1) := by decide +kernel
theorem dX10_nameAfter_30 : decode cX10_nameAfter 30 = .ok (.getfield 33, 3) := by decide +kernel
theorem dX10_nameAfter_33 : decode cX10_nameAfter 33 = .ok (.iload 4, 2) := by decide +kernel
theorem dX10_nameAfter_35 : decode cX10_nameAfter 35 = .ok (.aload_n 1, 1) := by decide +kernel
theorem dX10_nameAfter_36 : decode cX10_nameAfter 36 = .ok (.getfield 233, 3) := by decide +kernel
theorem dX10_nameAfter_39 : decode cX10_nameAfter 39 = .ok (.invokevirtual 297, 3) := by decide +kernel
theorem dX10_nameAfter_42 : decode cX10_nameAfter 42 = .ok (.getfield 368, 3) := by decide +kernel
theorem dX10_nameAfter_45 : decode cX10_nameAfter 45 = .ok (.istore 5, 2) := by decide +kernel
theorem dX10_nameAfter_47 : decode cX10_nameAfter 47 = .ok (.iload 5, 2) := by decide +kernel
theorem dX10_nameAfter_49 : decode cX10_nameAfter 49 = .ok (.iconst 2, 1) := by decide +kernel
theorem dX10_nameAfter_50 : decode cX10_nameAfter 50 = .ok (.if_icmp .ne 17, 3) := by decide +kernel
theorem dX10_nameAfter_53 : decode cX10_nameAfter 53 = .ok (.aload_n 1, 1) := by decide +kernel
theorem dX10_nameAfter_54 : decode cX10_nameAfter 54 = .ok (.getfield 371, 3) := by decide +kernel
theorem dX10_nameAfter_57 : decode cX10_nameAfter 57 = .ok (.sipush 10000, 3) := by decide +kernel
theorem dX10_nameAfter_60 : decode cX10_nameAfter 60 = .ok (.imul, 1) := by decide +kernel
theorem dX10_nameAfter_61 : decode cX10_nameAfter 61 = .ok (.aload_n 1, 1) := by decide +kernel
theorem dX10_nameAfter_62 : decode cX10_nameAfter 62 = .ok (.getfield 374, 3) := by decide +kernel
theorem dX10_nameAfter_65 : decode cX10_nameAfter 65 = .ok (.iadd, 1) := by decide +kernel
theorem dX10_nameAfter_66 : decode cX10_nameAfter 66 = .ok (.ireturn, 1) := by decide +kernel
theorem dX10_nameAfter_67 : decode cX10_nameAfter 67 = .ok (.iload 5, 2) := by decide +kernel
theorem dX10_nameAfter_69 : decode cX10_nameAfter 69 = .ok (.iconst 1, 1) := by decide +kernel
theorem dX10_nameAfter_70 : decode cX10_nameAfter 70 = .ok (.if_icmp .eq 7, 3) := by decide +kernel
theorem dX10_nameAfter_73 : decode cX10_nameAfter 73 = .ok (.iload_n 2, 1) := by decide +kernel
theorem dX10_nameAfter_74 : decode cX10_nameAfter 74 = .ok (.ifCond .ne 10, 3) := by decide +kernel
theorem dX10_nameAfter_77 : decode cX10_nameAfter 77 = .ok (.aload_n 1, 1) := by decide +kernel
theorem dX10_nameAfter_78 : decode cX10_nameAfter 78 = .ok (.getfield 371, 3) := by decide +kernel
theorem dX10_nameAfter_81 : decode cX10_nameAfter 81 = .ok (.goto 7, 3) := by decide +kernel
theorem dX10_nameAfter_84 : decode cX10_nameAfter 84 = .ok (.aload_n 1, 1) := by decide +kernel
theorem dX10_nameAfter_85 : decode cX10_nameAfter 85 = .ok (.getfield 374, 3) := by decide +kernel
theorem dX10_nameAfter_88 : decode cX10_nameAfter 88 = .ok (.ireturn, 1) := by decide +kernel
end
section
theorem dX11_init_0 : decode cX11_init 0 = .ok (.aload_n 0, 1) := by decide +kernel
theorem dX11_init_1 : decode cX11_init 1 = .ok (.invokespecial 1, 3) := by decide +kernel
theorem dX11_init_4 : decode cX11_init 4 = .ok (.aload_n 0, 1) := by decide +kernel
theorem dX11_init_5 : decode cX11_init 5 = .ok (.bipush 60, 2) := by decide +kernel
theorem dX11_init_7 : decode cX11_init 7 = .ok (.bipush 8, 2) := by decide +kernel
theorem dX11_init_9 : decode cX11_init 9 = .ok (.multianewarray 9 2, 4) := by decide +kernel
theorem dX11_init_13 : decode cX11_init 13 = .ok (.putfield 11, 3) := by decide +kernel
theorem dX11_init_16 : decode cX11_init 16 = .ok (.aload_n 0, 1) := by decide +kernel
theorem dX11_init_17 : decode cX11_init 17 = .ok (.bipush 8, 2) := by decide +kernel
theorem dX11_init_19 : decode cX11_init 19 = .ok (.newarray .int, 2) := by decide +kernel
theorem dX11_init_21 : decode cX11_init 21 = .ok (.putfield 14, 3) := by decide +kernel
theorem dX11_init_24 : decode cX11_init 24 = .ok (.aload_n 0, 1) := by decide +kernel
theorem dX11_init_25 : decode cX11_init 25 = .ok (.bipush 40, 2) := by decide +kernel
theorem dX11_init_27 : decode cX11_init 27 = .ok (.newarray .int, 2) := by decide +kernel
theorem dX11_init_29 : decode cX11_init 29 = .ok (.putfield 18, 3) := by decide +kernel
theorem dX11_init_32 : decode cX11_init 32 = .ok (.aload_n 0, 1) := by decide +kernel
theorem dX11_init_33 : decode cX11_init 33 = .ok (.bipush 40, 2) := by decide +kernel
theorem dX11_init_35 : decode cX11_init 35 = .ok (.newarray .int, 2) := by decide +kernel
theorem dX11_init_37 : decode cX11_init 37 = .ok (.putfield 21, 3) := by decide +kernel
theorem dX11_init_40 : decode cX11_init 40 = .ok (.aload_n 0, 1) := by decide +kernel
theorem dX11_init_41 : decode cX11_init 41 = .ok (.bipush 40, 2) := by decide +kernel
theorem dX11_init_43 : decode cX11_init 43 = .ok (.newarray .int, 2) := by decide +kernel
theorem dX11_init_45 : decode cX11_init 45 = .ok (.putfield 24, 3) := by decide +kernel
theorem dX11_init_48 : decode cX11_init 48 = .ok (.aload_n 0, 1) := by decide +kernel
theorem dX11_init_49 : decode cX11_init 49 = .ok (.bipush 40, 2) := by decide +kernel
theorem dX11_init_51 : decode cX11_init 51 = .ok (.newarray .int, 2) := by decide +kernel
theorem dX11_init_53 : decode cX11_init 53 = .ok (.putfield 27, 3) := by decide +kernel
theorem dX11_init_56 : decode cX11_init 56 = .ok (.aload_n 0, 1) := by decide +kernel
theorem dX11_init_57 : decode cX11_init 57 = .ok (.bipush 40, 2) := by decide +kernel
theorem dX11_init_59 : decode cX11_init 59 = .ok (.newarray .int, 2) := by decide +kernel
theorem dX11_init_61 : decode cX11_init 61 = .ok (.putfield 30, 3) := by decide +kernel
theorem dX11_init_64 : decode cX11_init 64 = .ok (.aload_n 0, 1) := by decide +kernel
theorem dX11_init_65 : decode cX11_init 65 = .ok (.bipush 40, 2) := by decide +kernel
theorem dX11_init_67 : decode cX11_init 67 = .ok (.newarray .int, 2) := by decide +kernel
theorem dX11_init_69 : decode cX11_init 69 = .ok (.putfield 33, 3) := by decide +kernel
theorem dX11_init_72 : decode cX11_init 72 = .ok (.aload_n 0, 1) := by decide +kernel
theorem dX11_init_73 : decode cX11_init 73 = .ok (.bipush 40, 2) := by decide +kernel
theorem dX11_init_75 : decode cX11_init 75 = .ok (.newarray .int, 2) := by decide +kernel
theorem dX11_init_77 : decode cX11_init 77 = .ok (.putfield 36, 3) := by decide +kernel
theorem dX11_init_80 : decode cX11_init 80 = .ok (.aload_n 0, 1) := by decide +kernel
theorem dX11_init_81 : decode cX11_init 81 = .ok (.sipush 200, 3) := by decide +kernel
theorem dX11_init_84 : decode cX11_init 84 = .ok (.newarray .int, 2) := by decide +kernel
theorem dX11_init_86 : decode cX11_init 86 = .ok (.putfield 39, 3) := by decide +kernel
theorem dX11_init_89 : decode cX11_init 89 = .ok (.aload_n 0, 1) := by decide +kernel
theorem dX11_init_90 : decode cX11_init 90 = .ok (.sipush 200, 3) := by decide +kernel
theorem dX11_init_93 : decode cX11_init 93 = .ok (.newarray .int, 2) := by decide +kernel
theorem dX11_init_95 : decode cX11_init 95 = .ok (.putfield 42, 3) := by decide +kernel
theorem dX11_init_98 : decode cX11_init 98 = .ok (.aload_n 0, 1) := by decide +kernel
theorem dX11_init_99 : decode cX11_init 99 = .ok (.sipush 200, 3) := by decide +kernel
theorem dX11_init_102 : decode cX11_init 102 = .ok (.newarray .int, 2) := by decide +kernel
theorem dX11_init_104 : decode cX11_init 104 = .ok (.putfield 45, 3) := by decide +kernel
theorem dX11_init_107 : decode cX11_init 107 = .ok (.aload_n 0, 1) := by decide +kernel
theorem dX11_init_108 : decode cX11_init 108 = .ok (.sipush 20001, 3) := by decide +kernel
theorem dX11_init_111 : decode cX11_init 111 = .ok (.newarray .boolean, 2) := by decide +kernel
theorem dX11_init_113 : decode cX11_init 113 = .ok (.putfield 48, 3) := by decide +kernel
theorem dX11_init_116 : decode cX11_init 116 = .ok (.aload_n 0, 1) := by decide +kernel
theorem dX11_init_117 : decode cX11_init 117 = .ok (.bipush 60, 2) := by decide +kernel
theorem dX11_init_119 : decode cX11_init 119 = .ok (.newarray .int, 2) := by decide +kernel
theorem dX11_init_121 : decode cX11_init 121 = .ok (.putfield 52, 3) := by decide +kernel
theorem dX11_init_124 : decode cX11_init 124 = .ok (.aload_n 0, 1) := by decide +kernel
theorem dX11_init_125 : decode cX11_init 125 = .ok (.bipush 60, 2) := by decide +kernel
theorem dX11_init_127 : decode cX11_init 127 = .ok (.newarray .int, 2) := by decide +kernel
theorem dX11_init_129 : decode cX11_init 129 = .ok (.putfield 55, 3) := by decide +kernel
theorem dX11_init_132 : decode cX11_init 132 = .ok (.aload_n 0, 1) := by decide +kernel
theorem dX11_init_133 : decode cX11_init 133 = .ok (.bipush 60, 2) := by decide +kernel
theorem dX11_init_135 : decode cX11_init 135 = .ok (.newarray .int, 2) := by decide +kernel
theorem dX11_init_137 : decode cX11_init 137 = .ok (.putfield 58, 3) := by decide +kernel
theorem dX11_init_140 : decode cX11_init 140 = .ok (.aload_n 0, 1) := by decide +kernel
theorem dX11_init_141 : decode cX11_init 141 = .ok (.bipush 60, 2) := by decide +kernel
theorem dX11_init_143 : decode cX11_init 143 = .ok (.newarray .int, 2) := by decide +kernel
theorem dX11_init_145 : decode cX11_init 145 = .ok (.putfield 61, 3) := by decide +kernel
theorem dX11_init_148 : decode cX11_init 148 = .ok (.aload_n 0, 1) := by decide +kernel
theorem dX11_init_149 : decode cX11_init 149 = .ok (.bipush 60, 2) := by decide +kernel
theorem dX11_init_151 : decode cX11_init 151 = .ok (.newarray .int, 2) := by decide +kernel
theorem dX11_init_153 : decode cX11_init 153 = .ok (.putfield 64, 3) := by decide +kernel
theorem dX11_init_156 : decode cX11_init 156 = .ok (.aload_n 0, 1) := by decide +kernel
theorem dX11_init_157 : decode cX11_init 157 = .ok (.bipush 60, 2) := by decide +kernel
theorem dX11_init_159 : decode cX11_init 159 = .ok (.newarray .int, 2) := by decide +kernel
theorem dX11_init_161 : decode cX11_init 161 = .ok (.putfield 67, 3) := by decide +kernel
theorem dX11_init_164 : decode cX11_init 164 = .ok (.aload_n 0, 1) := by decide +kernel
theorem dX11_init_165 : decode cX11_init 165 = .ok (.bipush 60, 2) := by decide +kernel
theorem dX11_init_167 : decode cX11_init 167 = .ok (.newarray .int, 2) := by decide +kernel
theorem dX11_init_169 : decode cX11_init 169 = .ok (.putfield 70, 3) := by decide +kernel
theorem dX11_init_172 : decode cX11_init 172 = .ok (.aload_n 0, 1) := by decide +kernel
theorem dX11_init_173 : decode cX11_init 173 = .ok (.bipush 60, 2) := by decide +kernel
theorem dX11_init_175 : decode cX11_init 175 = .ok (.newarray .int, 2) := by decide +kernel
theorem dX11_init_177 : decode cX11_init 177 = .ok (.putfield 73, 3) := by decide +kernel
theorem dX11_init_180 : decode cX11_init 180 = .ok (.aload_n 0, 1) := by decide +kernel
theorem dX11_init_181 : decode cX11_init 181 = .ok (.bipush 6, 2) := by decide +kernel
theorem dX11_init_183 : decode cX11_init 183 = .ok (.newarray .int, 2) := by decide +kernel
theorem dX11_init_185 : decode cX11_init 185 = .ok (.putfield 76, 3) := by decide +kernel
theorem dX11_init_188 : decode cX11_init 188 = .ok (.aload_n 0, 1) := by decide +kernel
theorem dX11_init_189 : decode cX11_init 189 = .ok (.bipush 60, 2) := by decide +kernel
theorem dX11_init_191 : decode cX11_init 191 = .ok (.bipush 8, 2) := by decide +kernel
theorem dX11_init_193 : decode cX11_init 193 = .ok (.multianewarray 9 2, 4) := by decide +kernel
theorem dX11_init_197 : decode cX11_init 197 = .ok (.putfield 79, 3) := by decide +kernel
theorem dX11_init_200 : decode cX11_init 200 = .ok (.aload_n 0, 1) := by decide +kernel
theorem dX11_init_201 : decode cX11_init 201 = .ok (.bipush 100, 2) := by decide +kernel
theorem dX11_init_203 : decode cX11_init 203 = .ok (.newarray .int, 2) := by decide +kernel
theorem dX11_init_205 : decode cX11_init 205 = .ok (.putfield 82, 3) := by decide +kernel
theorem dX11_init_208 : decode cX11_init 208 = .ok (.aload_n 0, 1) := by decide +kernel
theorem dX11_init_209 : decode cX11_init 209 = .ok (.bipush 100, 2) := by decide +kernel
theorem dX11_init_211 : decode cX11_init 211 = .ok (.newarray .int, 2) := by decide +kernel
theorem dX11_init_213 : decode cX11_init 213 = .ok (.putfield 85, 3) := by decide +kernel
theorem dX11_init_216 : decode cX11_init 216 = .ok (.aload_n 0, 1) := by decide +kernel
theorem dX11_init_217 : decode cX11_init 217 = .ok (.bipush 100, 2) := by decide +kernel
theorem dX11_init_219 : decode cX11_init 219 = .ok (.newarray .int, 2) := by decide +kernel
theorem dX11_init_221 : decode cX11_init 221 = .ok (.putfield 88, 3) := by decide +kernel
theorem dX11_init_224 : decode cX11_init 224 = .ok (.aload_n 0, 1) := by decide +kernel
theorem dX11_init_225 : decode cX11_init 225 = .ok (.bipush 100, 2) := by decide +kernel
theorem dX11_init_227 : decode cX11_init 227 = .ok (.newarray .int, 2) := by decide +kernel
theorem dX11_init_229 : decode cX11_init 229 = .ok (.putfield 91, 3) := by decide +kernel
theorem dX11_init_232 : decode cX11_init 232 = .ok (.return_, 1) := by decide +kernel
theorem dX11_in_0 : decode cX11_in 0 = .ok (.iload_n 0, 1) := by decide +kernel
theorem dX11_in_1 : decode cX11_in 1 = .ok (.iload_n 1, 1) := by decide +kernel
theorem dX11_in_2 : decode cX11_in 2 = .ok (.if_icmp .lt 12, 3) := by decide +kernel
theorem dX11_in_5 : decode cX11_in 5 = .ok (.iload_n 0, 1) := by decide +kernel
theorem dX11_in_6 : decode cX11_in 6 = .ok (.iload_n 2, 1) := by decide +kernel
theorem dX11_in_7 : decode cX11_in 7 = .ok (.if_icmp .gt 7, 3) := by decide +kernel
theorem dX11_in_10 : decode cX11_in 10 = .ok (.iconst 1, 1) := by decide +kernel
theorem dX11_in_11 : decode cX11_in 11 = .ok (.goto 4, 3) := by decide +kernel
theorem dX11_in_14 : decode cX11_in 14 = .ok (.iconst 0, 1) := by decide +kernel
theorem dX11_in_15 : decode cX11_in 15 = .ok (.ireturn, 1) := by decide +kernel
theorem dX11_isPerson_0 : decode cX11_isPerson 0 = .ok (.iload_n 1, 1) := by decide +kernel
theorem dX11_isPerson_1 : decode cX11_isPerson 1 = .ok (.iconst 0, 1) := by decide +kernel
theorem dX11_isPerson_2 : decode cX11_isPerson 2 = .ok (.aload_n 0, 1) := by decide +kernel
theorem dX11_isPerson_3 : decode cX11_isPerson 3 = .ok (.getfield 94, 3) := by decide +kernel
theorem dX11_isPerson_6 : decode cX11_isPerson 6 = .ok (.iconst 1, 1) := by decide +kernel
theorem dX11_isPerson_7 : decode cX11_isPerson 7 = .ok (.isub, 1) := by decide +kernel
theorem dX11_isPerson_8 : decode cX11_isPerson 8 = .ok (.invokestatic 98, 3) := by decide +kernel
theorem dX11_isPerson_11 : decode cX11_isPerson 11 = .ok (.ireturn, 1) := by decide +kernel
theorem dX11_isNotice_0 : decode cX11_isNotice 0 = .ok (.iload_n 1, 1) := by decide +kernel
theorem dX11_isNotice_1 : decode cX11_isNotice 1 = .ok (.iconst 0, 1) := by decide +kernel
theorem dX11_isNotice_2 : decode cX11_isNotice 2 = .ok (.aload_n 0, 1) := by decide +kernel
theorem dX11_isNotice_3 : decode cX11_isNotice 3 = .ok (.getfield 102, 3) := by decide +kernel
theorem dX11_isNotice_6 : decode cX11_isNotice 6 = .ok (.iconst 1, 1) := by decide +kernel
theorem dX11_isNotice_7 : decode cX11_isNotice 7 = .ok (.isub, 1) := by decide +kernel
theorem dX11_isNotice_8 : decode cX11_isNotice 8 = .ok (.invokestatic 98, 3) := by decide +kernel
theorem dX11_isNotice_11 : decode cX11_isNotice 11 = .ok (.ireturn, 1) := by decide +kernel
theorem dX11_law_0 : decode cX11_law 0 = .ok (.iload_n 3, 1) := by decide +kernel
theorem dX11_law_1 : decode cX11_law 1 = .ok (.ldc 105, 2) := by decide +kernel
theorem dX11_law_3 : decode cX11_law 3 = .ok (.idiv, 1) := by decide +kernel
theorem dX11_law_4 : decode cX11_law 4 = .ok (.istore 5, 2) := by decide +kernel
theorem dX11_law_6 : decode cX11_law 6 = .ok (.iload_n 3, 1) := by decide +kernel
theorem dX11_law_7 : decode cX11_law 7 = .ok (.ldc 106, 2) := by decide +kernel
theorem dX11_law_9 : decode cX11_law 9 = .ok (.idiv, 1) := by decide +kernel
theorem dX11_law_10 : decode cX11_law 10 = .ok (.bipush 10, 2) := by decide +kernel
theorem dX11_law_12 : decode cX11_law 12 = .ok (.irem, 1) := by decide +kernel
theorem dX11_law_13 : decode cX11_law 13 = .ok (.istore 6, 2) := by decide +kernel
theorem dX11_law_15 : decode cX11_law 15 = .ok (.iload_n 3, 1) := by decide +kernel
theorem dX11_law_16 : decode cX11_law 16 = .ok (.sipush 10000, 3) := by decide +kernel
theorem dX11_law_19 : decode cX11_law 19 = .ok (.idiv, 1) := by decide +kernel
theorem dX11_law_20 : decode cX11_law 20 = .ok (.bipush 10, 2) := by decide +kernel
theorem dX11_law_22 : decode cX11_law 22 = .ok (.irem, 1) := by decide +kernel
theorem dX11_law_23 : decode cX11_law 23 = .ok (.istore 7, 2) := by decide +kernel
theorem dX11_law_25 : decode cX11_law 25 = .ok (.iload_n 3, 1) := by decide +kernel
theorem dX11_law_26 : decode cX11_law 26 = .ok (.sipush 1000, 3) := by decide +kernel
theorem dX11_law_29 : decode cX11_law 29 = .ok (.idiv, 1) := by decide +kernel
theorem dX11_law_30 : decode cX11_law 30 = .ok (.bipush 10, 2) := by decide +kernel
theorem dX11_law_32 : decode cX11_law 32 = .ok (.irem, 1) := by decide +kernel
theorem dX11_law_33 : decode cX11_law 33 = .ok (.istore 8, 2) := by decide +kernel
theorem dX11_law_35 : decode cX11_law 35 = .ok (.iload_n 3, 1) := by decide +kernel
theorem dX11_law_36 : decode cX11_law 36 = .ok (.sipush 1000, 3) := by decide +kernel
theorem dX11_law_39 : decode cX11_law 39 = .ok (.irem, 1) := by decide +kernel
theorem dX11_law_40 : decode cX11_law 40 = .ok (.istore 9, 2) := by decide +kernel
theorem dX11_law_42 : decode cX11_law 42 = .ok (.iload_n 1, 1) := by decide +kernel
theorem dX11_law_43 : decode cX11_law 43 = .ok (.iconst 0, 1) := by decide +kernel
theorem dX11_law_44 : decode cX11_law 44 = .ok (.iconst 5, 1) := by decide +kernel
theorem dX11_law_45 : decode cX11_law 45 = .ok (.invokestatic 98, 3) := by decide +kernel
theorem dX11_law_48 : decode cX11_law 48 = .ok (.ifCond .eq 76, 3) := by decide +kernel
theorem dX11_law_51 : decode cX11_law 51 = .ok (.iload_n 2, 1) := by decide +kernel
theorem dX11_law_52 : decode cX11_law 52 = .ok (.iconst 0, 1) := by decide +kernel
theorem dX11_law_53 : decode cX11_law 53 = .ok (.sipush 20000, 3) := by decide +kernel
theorem dX11_law_56 : decode cX11_law 56 = .ok (.invokestatic 98, 3) := by decide +kernel
theorem dX11_law_59 : decode cX11_law 59 = .ok (.ifCond .eq 65, 3) := by decide +kernel
theorem dX11_law_62 : decode cX11_law 62 = .ok (.iload_n 3, 1) := by decide +kernel
theorem dX11_law_63 : decode cX11_law 63 = .ok (.ifCond .lt 61, 3) := by decide +kernel
theorem dX11_law_66 : decode cX11_law 66 = .ok (.iload 5, 2) := by decide +kernel
theorem dX11_law_68 : decode cX11_law 68 = .ok (.bipush 30, 2) := by decide +kernel
theorem dX11_law_70 : decode cX11_law 70 = .ok (.if_icmp .gt 54, 3) := by decide +kernel
theorem dX11_law_73 : decode cX11_law 73 = .ok (.iload 6, 2) := by decide +kernel
theorem dX11_law_75 : decode cX11_law 75 = .ok (.iconst 3, 1) := by decide +kernel
theorem dX11_law_76 : decode cX11_law 76 = .ok (.if_icmp .gt 48, 3) := by decide +kernel
theorem dX11_law_79 : decode cX11_law 79 = .ok (.iload 7, 2) := by decide +kernel
theorem dX11_law_81 : decode cX11_law 81 = .ok (.bipush 7, 2) := by decide +kernel
theorem dX11_law_83 : decode cX11_law 83 = .ok (.if_icmp .gt 41, 3) := by decide +kernel
theorem dX11_law_86 : decode cX11_law 86 = .ok (.iload 8, 2) := by decide +kernel
theorem dX11_law_88 : decode cX11_law 88 = .ok (.iconst 2, 1) := by decide +kernel
theorem dX11_law_89 : decode cX11_law 89 = .ok (.if_icmp .gt 35, 3) := by decide +kernel
theorem dX11_law_92 : decode cX11_law 92 = .ok (.iload 9, 2) := by decide +kernel
theorem dX11_law_94 : decode cX11_law 94 = .ok (.iconst 1, 1) := by decide +kernel
theorem dX11_law_95 : decode cX11_law 95 = .ok (.sipush 400, 3) := by decide +kernel
theorem dX11_law_98 : decode cX11_law 98 = .ok (.invokestatic 98, 3) := by decide +kernel
theorem dX11_law_101 : decode cX11_law 101 = .ok (.ifCond .eq 23, 3) := by decide +kernel
theorem dX11_law_104 : decode cX11_law 104 = .ok (.iload 4, 2) := by decide +kernel
theorem dX11_law_106 : decode cX11_law 106 = .ok (.iconst 0, 1) := by decide +kernel
theorem dX11_law_107 : decode cX11_law 107 = .ok (.bipush 30, 2) := by decide +kernel
theorem dX11_law_109 : decode cX11_law 109 = .ok (.invokestatic 98, 3) := by decide +kernel
theorem dX11_law_112 : decode cX11_law 112 = .ok (.ifCond .eq 12, 3) := by decide +kernel
theorem dX11_law_115 : decode cX11_law 115 = .ok (.aload_n 0, 1) := by decide +kernel
theorem dX11_law_116 : decode cX11_law 116 = .ok (.getfield 107, 3) := by decide +kernel
theorem dX11_law_119 : decode cX11_law 119 = .ok (.bipush 60, 2) := by decide +kernel
theorem dX11_law_121 : decode cX11_law 121 = .ok (.if_icmp .ne 5, 3) := by decide +kernel
theorem dX11_law_124 : decode cX11_law 124 = .ok (.iconst 0, 1) := by decide +kernel
theorem dX11_law_125 : decode cX11_law 125 = .ok (.ireturn, 1) := by decide +kernel
theorem dX11_law_126 : decode cX11_law 126 = .ok (.aload_n 0, 1) := by decide +kernel
theorem dX11_law_127 : decode cX11_law 127 = .ok (.getfield 11, 3) := by decide +kernel
theorem dX11_law_130 : decode cX11_law 130 = .ok (.aload_n 0, 1) := by decide +kernel
theorem dX11_law_131 : decode cX11_law 131 = .ok (.getfield 107, 3) := by decide +kernel
theorem dX11_law_134 : decode cX11_law 134 = .ok (.aaload, 1) := by decide +kernel
theorem dX11_law_135 : decode cX11_law 135 = .ok (.astore 10, 2) := by decide +kernel
theorem dX11_law_137 : decode cX11_law 137 = .ok (.aload 10, 2) := by decide +kernel
theorem dX11_law_139 : decode cX11_law 139 = .ok (.iconst 0, 1) := by decide +kernel
theorem dX11_law_140 : decode cX11_law 140 = .ok (.iload_n 1, 1) := by decide +kernel
theorem dX11_law_141 : decode cX11_law 141 = .ok (.iastore, 1) := by decide +kernel
theorem dX11_law_142 : decode cX11_law 142 = .ok (.aload 10, 2) := by decide +kernel
theorem dX11_law_144 : decode cX11_law 144 = .ok (.iconst 1, 1) := by decide +kernel
theorem dX11_law_145 : decode cX11_law 145 = .ok (.iload_n 2, 1) := by decide +kernel
theorem dX11_law_146 : decode cX11_law 146 = .ok (.iastore, 1) := by decide +kernel
theorem dX11_law_147 : decode cX11_law 147 = .ok (.aload 10, 2) := by decide +kernel
theorem dX11_law_149 : decode cX11_law 149 = .ok (.iconst 2, 1) := by decide +kernel
theorem dX11_law_150 : decode cX11_law 150 = .ok (.iload 5, 2) := by decide +kernel
theorem dX11_law_152 : decode cX11_law 152 = .ok (.iastore, 1) := by decide +kernel
theorem dX11_law_153 : decode cX11_law 153 = .ok (.aload 10, 2) := by decide +kernel
theorem dX11_law_155 : decode cX11_law 155 = .ok (.iconst 3, 1) := by decide +kernel
theorem dX11_law_156 : decode cX11_law 156 = .ok (.iload 6, 2) := by decide +kernel
theorem dX11_law_158 : decode cX11_law 158 = .ok (.iastore, 1) := by decide +kernel
theorem dX11_law_159 : decode cX11_law 159 = .ok (.aload 10, 2) := by decide +kernel
theorem dX11_law_161 : decode cX11_law 161 = .ok (.iconst 4, 1) := by decide +kernel
theorem dX11_law_162 : decode cX11_law 162 = .ok (.iload 7, 2) := by decide +kernel
theorem dX11_law_164 : decode cX11_law 164 = .ok (.iastore, 1) := by decide +kernel
theorem dX11_law_165 : decode cX11_law 165 = .ok (.aload 10, 2) := by decide +kernel
theorem dX11_law_167 : decode cX11_law 167 = .ok (.iconst 5, 1) := by decide +kernel
theorem dX11_law_168 : decode cX11_law 168 = .ok (.iload 9, 2) := by decide +kernel
theorem dX11_law_170 : decode cX11_law 170 = .ok (.iastore, 1) := by decide +kernel
theorem dX11_law_171 : decode cX11_law 171 = .ok (.aload 10, 2) := by decide +kernel
theorem dX11_law_173 : decode cX11_law 173 = .ok (.bipush 6, 2) := by decide +kernel
theorem dX11_law_175 : decode cX11_law 175 = .ok (.iload 4, 2) := by decide +kernel
theorem dX11_law_177 : decode cX11_law 177 = .ok (.iastore, 1) := by decide +kernel
theorem dX11_law_178 : decode cX11_law 178 = .ok (.aload 10, 2) := by decide +kernel
theorem dX11_law_180 : decode cX11_law 180 = .ok (.bipush 7, 2) := by decide +kernel
theorem dX11_law_182 : decode cX11_law 182 = .ok (.iload 8, 2) := by decide +kernel
theorem dX11_law_184 : decode cX11_law 184 = .ok (.iastore, 1) := by decide +kernel
theorem dX11_law_185 : decode cX11_law 185 = .ok (.aload_n 0, 1) := by decide +kernel
theorem dX11_law_186 : decode cX11_law 186 = .ok (.dup, 1) := by decide +kernel
theorem dX11_law_187 : decode cX11_law 187 = .ok (.getfield 107, 3) := by decide +kernel
theorem dX11_law_190 : decode cX11_law 190 = .ok (.iconst 1, 1) := by decide +kernel
theorem dX11_law_191 : decode cX11_law 191 = .ok (.iadd, 1) := by decide +kernel
theorem dX11_law_192 : decode cX11_law 192 = .ok (.putfield 107, 3) := by decide +kernel
theorem dX11_law_195 : decode cX11_law 195 = .ok (.iconst 1, 1) := by decide +kernel
theorem dX11_law_196 : decode cX11_law 196 = .ok (.ireturn, 1) := by decide +kernel
theorem dX11_inForce_0 : decode cX11_inForce 0 = .ok (.iconst (-1), 1) := by decide +kernel
theorem dX11_inForce_1 : decode cX11_inForce 1 = .ok (.istore_n 3, 1) := by decide +kernel
theorem dX11_inForce_2 : decode cX11_inForce 2 = .ok (.iconst 0, 1) := by decide +kernel
theorem dX11_inForce_3 : decode cX11_inForce 3 = .ok (.istore 4, 2) := by decide +kernel
theorem dX11_inForce_5 : decode cX11_inForce 5 = .ok (.iload 4, 2) := by decide +kernel
theorem dX11_inForce_7 : decode cX11_inForce 7 = .ok (.aload_n 0, 1) := by decide +kernel
theorem dX11_inForce_8 : decode cX11_inForce 8 = .ok (.getfield 107, 3) := by decide +kernel
theorem dX11_inForce_11 : decode cX11_inForce 11 = .ok (.if_icmp .ge 63, 3) := by decide +kernel
theorem dX11_inForce_14 : decode cX11_inForce 14 = .ok (.aload_n 0, 1) := by decide +kernel
theorem dX11_inForce_15 : decode cX11_inForce 15 = .ok (.getfield 11, 3) := by decide +kernel
theorem dX11_inForce_18 : decode cX11_inForce 18 = .ok (.iload 4, 2) := by decide +kernel
theorem dX11_inForce_20 : decode cX11_inForce 20 = .ok (.aaload, 1) := by decide +kernel
theorem dX11_inForce_21 : decode cX11_inForce 21 = .ok (.iconst 0, 1) := by decide +kernel
theorem dX11_inForce_22 : decode cX11_inForce 22 = .ok (.iaload, 1) := by decide +kernel
theorem dX11_inForce_23 : decode cX11_inForce 23 = .ok (.iload_n 1, 1) := by decide +kernel
theorem dX11_inForce_24 : decode cX11_inForce 24 = .ok (.if_icmp .ne 44, 3) := by decide +kernel
theorem dX11_inForce_27 : decode cX11_inForce 27 = .ok (.aload_n 0, 1) := by decide +kernel
theorem dX11_inForce_28 : decode cX11_inForce 28 = .ok (.getfield 11, 3) := by decide +kernel
theorem dX11_inForce_31 : decode cX11_inForce 31 = .ok (.iload 4, 2) := by decide +kernel
theorem dX11_inForce_33 : decode cX11_inForce 33 = .ok (.aaload, 1) := by decide +kernel
theorem dX11_inForce_34 : decode cX11_inForce 34 = .ok (.iconst 1, 1) := by decide +kernel
theorem dX11_inForce_35 : decode cX11_inForce 35 = .ok (.iaload, 1) := by decide +kernel
theorem dX11_inForce_36 : decode cX11_inForce 36 = .ok (.iload_n 2, 1) := by decide +kernel
theorem dX11_inForce_37 : decode cX11_inForce 37 = .ok (.if_icmp .gt 31, 3) := by decide +kernel
theorem dX11_inForce_40 : decode cX11_inForce 40 = .ok (.iload_n 3, 1) := by decide +kernel
theorem dX11_inForce_41 : decode cX11_inForce 41 = .ok (.iconst (-1), 1) := by decide +kernel
theorem dX11_inForce_42 : decode cX11_inForce 42 = .ok (.if_icmp .eq 23, 3) := by decide +kernel
theorem dX11_inForce_45 : decode cX11_inForce 45 = .ok (.aload_n 0, 1) := by decide +kernel
theorem dX11_inForce_46 : decode cX11_inForce 46 = .ok (.getfield 11, 3) := by decide +kernel
theorem dX11_inForce_49 : decode cX11_inForce 49 = .ok (.iload 4, 2) := by decide +kernel
theorem dX11_inForce_51 : decode cX11_inForce 51 = .ok (.aaload, 1) := by decide +kernel
theorem dX11_inForce_52 : decode cX11_inForce 52 = .ok (.iconst 1, 1) := by decide +kernel
theorem dX11_inForce_53 : decode cX11_inForce 53 = .ok (.iaload, 1) := by decide +kernel
theorem dX11_inForce_54 : decode cX11_inForce 54 = .ok (.aload_n 0, 1) := by decide +kernel
theorem dX11_inForce_55 : decode cX11_inForce 55 = .ok (.getfield 11, 3) := by decide +kernel
theorem dX11_inForce_58 : decode cX11_inForce 58 = .ok (.iload_n 3, 1) := by decide +kernel
theorem dX11_inForce_59 : decode cX11_inForce 59 = .ok (.aaload, 1) := by decide +kernel
theorem dX11_inForce_60 : decode cX11_inForce 60 = .ok (.iconst 1, 1) := by decide +kernel
theorem dX11_inForce_61 : decode cX11_inForce 61 = .ok (.iaload, 1) := by decide +kernel
theorem dX11_inForce_62 : decode cX11_inForce 62 = .ok (.if_icmp .lt 6, 3) := by decide +kernel
theorem dX11_inForce_65 : decode cX11_inForce 65 = .ok (.iload 4, 2) := by decide +kernel
theorem dX11_inForce_67 : decode cX11_inForce 67 = .ok (.istore_n 3, 1) := by decide +kernel
theorem dX11_inForce_68 : decode cX11_inForce 68 = .ok (.iinc 4 1, 3) := by decide +kernel
theorem dX11_inForce_71 : decode cX11_inForce 71 = .ok (.goto (-66), 3) := by decide +kernel
theorem dX11_inForce_74 : decode cX11_inForce 74 = .ok (.iload_n 3, 1) := by decide +kernel
theorem dX11_inForce_75 : decode cX11_inForce 75 = .ok (.iconst (-1), 1) := by decide +kernel
theorem dX11_inForce_76 : decode cX11_inForce 76 = .ok (.if_icmp .eq 10, 3) := by decide +kernel
theorem dX11_inForce_79 : decode cX11_inForce 79 = .ok (.aload_n 0, 1) := by decide +kernel
theorem dX11_inForce_80 : decode cX11_inForce 80 = .ok (.getfield 11, 3) := by decide +kernel
theorem dX11_inForce_83 : decode cX11_inForce 83 = .ok (.iload_n 3, 1) := by decide +kernel
theorem dX11_inForce_84 : decode cX11_inForce 84 = .ok (.aaload, 1) := by decide +kernel
theorem dX11_inForce_85 : decode cX11_inForce 85 = .ok (.areturn, 1) := by decide +kernel
theorem dX11_inForce_86 : decode cX11_inForce 86 = .ok (.iconst 0, 1) := by decide +kernel
theorem dX11_inForce_87 : decode cX11_inForce 87 = .ok (.istore 4, 2) := by decide +kernel
theorem dX11_inForce_89 : decode cX11_inForce 89 = .ok (.iload 4, 2) := by decide +kernel
theorem dX11_inForce_91 : decode cX11_inForce 91 = .ok (.bipush 8, 2) := by decide +kernel
theorem dX11_inForce_93 : decode cX11_inForce 93 = .ok (.if_icmp .ge 27, 3) := by decide +kernel
theorem dX11_inForce_96 : decode cX11_inForce 96 = .ok (.aload_n 0, 1) := by decide +kernel
theorem dX11_inForce_97 : decode cX11_inForce 97 = .ok (.getfield 14, 3) := by decide +kernel
theorem dX11_inForce_100 : decode cX11_inForce 100 = .ok (.iload 4, 2) := by decide +kernel
theorem dX11_inForce_102 : decode cX11_inForce 102 = .ok (.iload 4, 2) := by decide +kernel
theorem dX11_inForce_104 : decode cX11_inForce 104 = .ok (.iconst 5, 1) := by decide +kernel
theorem dX11_inForce_105 : decode cX11_inForce 105 = .ok (.if_icmp .ne 7, 3) := by decide +kernel
theorem dX11_inForce_108 : decode cX11_inForce 108 = .ok (.iconst 1, 1) := by decide +kernel
theorem dX11_inForce_109 : decode cX11_inForce 109 = .ok (.goto 4, 3) := by decide +kernel
theorem dX11_inForce_112 : decode cX11_inForce 112 = .ok (.iconst 0, 1) := by decide +kernel
theorem dX11_inForce_113 : decode cX11_inForce 113 = .ok (.iastore, 1) := by decide +kernel
theorem dX11_inForce_114 : decode cX11_inForce 114 = .ok (.iinc 4 1, 3) := by decide +kernel
theorem dX11_inForce_117 : decode cX11_inForce 117 = .ok (.goto (-28), 3) := by decide +kernel
theorem dX11_inForce_120 : decode cX11_inForce 120 = .ok (.aload_n 0, 1) := by decide +kernel
theorem dX11_inForce_121 : decode cX11_inForce 121 = .ok (.getfield 14, 3) := by decide +kernel
theorem dX11_inForce_124 : decode cX11_inForce 124 = .ok (.areturn, 1) := by decide +kernel
theorem dX11_asks_0 : decode cX11_asks 0 = .ok (.aload_n 0, 1) := by decide +kernel
theorem dX11_asks_1 : decode cX11_asks 1 = .ok (.aload_n 0, 1) := by decide +kernel
theorem dX11_asks_2 : decode cX11_asks 2 = .ok (.getfield 18, 3) := by decide +kernel
theorem dX11_asks_5 : decode cX11_asks 5 = .ok (.iload_n 1, 1) := by decide +kernel
theorem dX11_asks_6 : decode cX11_asks 6 = .ok (.iaload, 1) := by decide +kernel
theorem dX11_asks_7 : decode cX11_asks 7 = .ok (.iload_n 2, 1) := by decide +kernel
theorem dX11_asks_8 : decode cX11_asks 8 = .ok (.invokevirtual 110, 3) := by decide +kernel
theorem dX11_asks_11 : decode cX11_asks 11 = .ok (.iload_n 3, 1) := by decide +kernel
theorem dX11_asks_12 : decode cX11_asks 12 = .ok (.iaload, 1) := by decide +kernel
theorem dX11_asks_13 : decode cX11_asks 13 = .ok (.ireturn, 1) := by decide +kernel
theorem dX11_person_0 : decode cX11_person 0 = .ok (.iload_n 1, 1) := by decide +kernel
theorem dX11_person_1 : decode cX11_person 1 = .ok (.ldc 105, 2) := by decide +kernel
theorem dX11_person_3 : decode cX11_person 3 = .ok (.idiv, 1) := by decide +kernel
theorem dX11_person_4 : decode cX11_person 4 = .ok (.istore 5, 2) := by decide +kernel
theorem dX11_person_6 : decode cX11_person 6 = .ok (.iload_n 1, 1) := by decide +kernel
theorem dX11_person_7 : decode cX11_person 7 = .ok (.sipush 10000, 3) := by decide +kernel
theorem dX11_person_10 : decode cX11_person 10 = .ok (.idiv, 1) := by decide +kernel
theorem dX11_person_11 : decode cX11_person 11 = .ok (.bipush 100, 2) := by decide +kernel
theorem dX11_person_13 : decode cX11_person 13 = .ok (.irem, 1) := by decide +kernel
theorem dX11_person_14 : decode cX11_person 14 = .ok (.istore 6, 2) := by decide +kernel
theorem dX11_person_16 : decode cX11_person 16 = .ok (.iload_n 1, 1) := by decide +kernel
theorem dX11_person_17 : decode cX11_person 17 = .ok (.sipush 10000, 3) := by decide +kernel
theorem dX11_person_20 : decode cX11_person 20 = .ok (.irem, 1) := by decide +kernel
theorem dX11_person_21 : decode cX11_person 21 = .ok (.istore 7, 2) := by decide +kernel
theorem dX11_person_23 : decode cX11_person 23 = .ok (.iload_n 1, 1) := by decide +kernel
theorem dX11_person_24 : decode cX11_person 24 = .ok (.ifCond .lt 65, 3) := by decide +kernel
theorem dX11_person_27 : decode cX11_person 27 = .ok (.iload 5, 2) := by decide +kernel
theorem dX11_person_29 : decode cX11_person 29 = .ok (.bipush 6, 2) := by decide +kernel
theorem dX11_person_31 : decode cX11_person 31 = .ok (.if_icmp .ge 58, 3) := by decide +kernel
theorem dX11_person_34 : decode cX11_person 34 = .ok (.iload 6, 2) := by decide +kernel
theorem dX11_person_36 : decode cX11_person 36 = .ok (.bipush 31, 2) := by decide +kernel
theorem dX11_person_38 : decode cX11_person 38 = .ok (.if_icmp .gt 51, 3) := by decide +kernel
theorem dX11_person_41 : decode cX11_person 41 = .ok (.iload 7, 2) := by decide +kernel
theorem dX11_person_43 : decode cX11_person 43 = .ok (.iconst 1, 1) := by decide +kernel
theorem dX11_person_44 : decode cX11_person 44 = .ok (.if_icmp .lt 45, 3) := by decide +kernel
theorem dX11_person_47 : decode cX11_person 47 = .ok (.iload_n 2, 1) := by decide +kernel
theorem dX11_person_48 : decode cX11_person 48 = .ok (.sipush (-30000), 3) := by decide +kernel
theorem dX11_person_51 : decode cX11_person 51 = .ok (.aload_n 0, 1) := by decide +kernel
theorem dX11_person_52 : decode cX11_person 52 = .ok (.getfield 114, 3) := by decide +kernel
theorem dX11_person_55 : decode cX11_person 55 = .ok (.invokestatic 98, 3) := by decide +kernel
theorem dX11_person_58 : decode cX11_person 58 = .ok (.ifCond .eq 31, 3) := by decide +kernel
theorem dX11_person_61 : decode cX11_person 61 = .ok (.iload_n 3, 1) := by decide +kernel
theorem dX11_person_62 : decode cX11_person 62 = .ok (.iconst (-1), 1) := by decide +kernel
theorem dX11_person_63 : decode cX11_person 63 = .ok (.if_icmp .eq 11, 3) := by decide +kernel
theorem dX11_person_66 : decode cX11_person 66 = .ok (.aload_n 0, 1) := by decide +kernel
theorem dX11_person_67 : decode cX11_person 67 = .ok (.iload_n 3, 1) := by decide +kernel
theorem dX11_person_68 : decode cX11_person 68 = .ok (.invokevirtual 117, 3) := by decide +kernel
theorem dX11_person_71 : decode cX11_person 71 = .ok (.ifCond .eq 18, 3) := by decide +kernel
theorem dX11_person_74 : decode cX11_person 74 = .ok (.iload 4, 2) := by decide +kernel
theorem dX11_person_76 : decode cX11_person 76 = .ok (.iconst (-1), 1) := by decide +kernel
theorem dX11_person_77 : decode cX11_person 77 = .ok (.if_icmp .eq 14, 3) := by decide +kernel
theorem dX11_person_80 : decode cX11_person 80 = .ok (.aload_n 0, 1) := by decide +kernel
theorem dX11_person_81 : decode cX11_person 81 = .ok (.iload 4, 2) := by decide +kernel
theorem dX11_person_83 : decode cX11_person 83 = .ok (.invokevirtual 117, 3) := by decide +kernel
theorem dX11_person_86 : decode cX11_person 86 = .ok (.ifCond .ne 5, 3) := by decide +kernel
theorem dX11_person_89 : decode cX11_person 89 = .ok (.iconst (-1), 1) := by decide +kernel
theorem dX11_person_90 : decode cX11_person 90 = .ok (.ireturn, 1) := by decide +kernel
theorem dX11_person_91 : decode cX11_person 91 = .ok (.iload_n 3, 1) := by decide +kernel
theorem dX11_person_92 : decode cX11_person 92 = .ok (.iconst (-1), 1) := by decide +kernel
theorem dX11_person_93 : decode cX11_person 93 = .ok (.if_icmp .eq 9, 3) := by decide +kernel
theorem dX11_person_96 : decode cX11_person 96 = .ok (.iload_n 3, 1) := by decide +kernel
theorem dX11_person_97 : decode cX11_person 97 = .ok (.iload 4, 2) := by decide +kernel
theorem dX11_person_99 : decode cX11_person 99 = .ok (.if_icmp .eq 12, 3) := by decide +kernel
theorem dX11_person_102 : decode cX11_person 102 = .ok (.aload_n 0, 1) := by decide +kernel
theorem dX11_person_103 : decode cX11_person 103 = .ok (.getfield 94, 3) := by decide +kernel
theorem dX11_person_106 : decode cX11_person 106 = .ok (.bipush 40, 2) := by decide +kernel
theorem dX11_person_108 : decode cX11_person 108 = .ok (.if_icmp .ne 5, 3) := by decide +kernel
theorem dX11_person_111 : decode cX11_person 111 = .ok (.iconst (-1), 1) := by decide +kernel
theorem dX11_person_112 : decode cX11_person 112 = .ok (.ireturn, 1) := by decide +kernel
theorem dX11_person_113 : decode cX11_person 113 = .ok (.aload_n 0, 1) := by decide +kernel
theorem dX11_person_114 : decode cX11_person 114 = .ok (.getfield 18, 3) := by decide +kernel
theorem dX11_person_117 : decode cX11_person 117 = .ok (.aload_n 0, 1) := by decide +kernel
theorem dX11_person_118 : decode cX11_person 118 = .ok (.getfield 94, 3) := by decide +kernel
theorem dX11_person_121 : decode cX11_person 121 = .ok (.iload 5, 2) := by decide +kernel
theorem dX11_person_123 : decode cX11_person 123 = .ok (.iastore, 1) := by decide +kernel
theorem dX11_person_124 : decode cX11_person 124 = .ok (.aload_n 0, 1) := by decide +kernel
theorem dX11_person_125 : decode cX11_person 125 = .ok (.getfield 30, 3) := by decide +kernel
theorem dX11_person_128 : decode cX11_person 128 = .ok (.aload_n 0, 1) := by decide +kernel
theorem dX11_person_129 : decode cX11_person 129 = .ok (.getfield 94, 3) := by decide +kernel
theorem dX11_person_132 : decode cX11_person 132 = .ok (.iload 6, 2) := by decide +kernel
theorem dX11_person_134 : decode cX11_person 134 = .ok (.iastore, 1) := by decide +kernel
theorem dX11_person_135 : decode cX11_person 135 = .ok (.aload_n 0, 1) := by decide +kernel
theorem dX11_person_136 : decode cX11_person 136 = .ok (.getfield 33, 3) := by decide +kernel
theorem dX11_person_139 : decode cX11_person 139 = .ok (.aload_n 0, 1) := by decide +kernel
theorem dX11_person_140 : decode cX11_person 140 = .ok (.getfield 94, 3) := by decide +kernel
theorem dX11_person_143 : decode cX11_person 143 = .ok (.iload 7, 2) := by decide +kernel
theorem dX11_person_145 : decode cX11_person 145 = .ok (.iastore, 1) := by decide +kernel
theorem dX11_person_146 : decode cX11_person 146 = .ok (.aload_n 0, 1) := by decide +kernel
theorem dX11_person_147 : decode cX11_person 147 = .ok (.getfield 21, 3) := by decide +kernel
theorem dX11_person_150 : decode cX11_person 150 = .ok (.aload_n 0, 1) := by decide +kernel
theorem dX11_person_151 : decode cX11_person 151 = .ok (.getfield 94, 3) := by decide +kernel
theorem dX11_person_154 : decode cX11_person 154 = .ok (.iload_n 2, 1) := by decide +kernel
theorem dX11_person_155 : decode cX11_person 155 = .ok (.iastore, 1) := by decide +kernel
theorem dX11_person_156 : decode cX11_person 156 = .ok (.aload_n 0, 1) := by decide +kernel
theorem dX11_person_157 : decode cX11_person 157 = .ok (.getfield 24, 3) := by decide +kernel
theorem dX11_person_160 : decode cX11_person 160 = .ok (.aload_n 0, 1) := by decide +kernel
theorem dX11_person_161 : decode cX11_person 161 = .ok (.getfield 94, 3) := by decide +kernel
theorem dX11_person_164 : decode cX11_person 164 = .ok (.iload_n 3, 1) := by decide +kernel
theorem dX11_person_165 : decode cX11_person 165 = .ok (.iastore, 1) := by decide +kernel
theorem dX11_person_166 : decode cX11_person 166 = .ok (.aload_n 0, 1) := by decide +kernel
theorem dX11_person_167 : decode cX11_person 167 = .ok (.getfield 27, 3) := by decide +kernel
theorem dX11_person_170 : decode cX11_person 170 = .ok (.aload_n 0, 1) := by decide +kernel
theorem dX11_person_171 : decode cX11_person 171 = .ok (.getfield 94, 3) := by decide +kernel
theorem dX11_person_174 : decode cX11_person 174 = .ok (.iload 4, 2) := by decide +kernel
theorem dX11_person_176 : decode cX11_person 176 = .ok (.iastore, 1) := by decide +kernel
theorem dX11_person_177 : decode cX11_person 177 = .ok (.aload_n 0, 1) := by decide +kernel
theorem dX11_person_178 : decode cX11_person 178 = .ok (.getfield 36, 3) := by decide +kernel
theorem dX11_person_181 : decode cX11_person 181 = .ok (.aload_n 0, 1) := by decide +kernel
theorem dX11_person_182 : decode cX11_person 182 = .ok (.getfield 94, 3) := by decide +kernel
theorem dX11_person_185 : decode cX11_person 185 = .ok (.iconst (-1), 1) := by decide +kernel
theorem dX11_person_186 : decode cX11_person 186 = .ok (.iastore, 1) := by decide +kernel
theorem dX11_person_187 : decode cX11_person 187 = .ok (.aload_n 0, 1) := by decide +kernel
theorem dX11_person_188 : decode cX11_person 188 = .ok (.dup, 1) := by decide +kernel
theorem dX11_person_189 : decode cX11_person 189 = .ok (.getfield 94, 3) := by decide +kernel
theorem dX11_person_192 : decode cX11_person 192 = .ok (.iconst 1, 1) := by decide +kernel
theorem dX11_person_193 : decode cX11_person 193 = .ok (.iadd, 1) := by decide +kernel
theorem dX11_person_194 : decode cX11_person 194 = .ok (.putfield 94, 3) := by decide +kernel
theorem dX11_person_197 : decode cX11_person 197 = .ok (.aload_n 0, 1) := by decide +kernel
theorem dX11_person_198 : decode cX11_person 198 = .ok (.getfield 94, 3) := by decide +kernel
theorem dX11_person_201 : decode cX11_person 201 = .ok (.iconst 1, 1) := by decide +kernel
theorem dX11_person_202 : decode cX11_person 202 = .ok (.isub, 1) := by decide +kernel
theorem dX11_person_203 : decode cX11_person 203 = .ok (.ireturn, 1) := by decide +kernel
theorem dX11_paper_0 : decode cX11_paper 0 = .ok (.aload_n 0, 1) := by decide +kernel
theorem dX11_paper_1 : decode cX11_paper 1 = .ok (.iload_n 1, 1) := by decide +kernel
theorem dX11_paper_2 : decode cX11_paper 2 = .ok (.invokevirtual 117, 3) := by decide +kernel
theorem dX11_paper_5 : decode cX11_paper 5 = .ok (.ifCond .eq 34, 3) := by decide +kernel
theorem dX11_paper_8 : decode cX11_paper 8 = .ok (.iload_n 2, 1) := by decide +kernel
theorem dX11_paper_9 : decode cX11_paper 9 = .ok (.iconst 0, 1) := by decide +kernel
theorem dX11_paper_10 : decode cX11_paper 10 = .ok (.iconst 2, 1) := by decide +kernel
theorem dX11_paper_11 : decode cX11_paper 11 = .ok (.invokestatic 98, 3) := by decide +kernel
theorem dX11_paper_14 : decode cX11_paper 14 = .ok (.ifCond .eq 25, 3) := by decide +kernel
theorem dX11_paper_17 : decode cX11_paper 17 = .ok (.iload_n 3, 1) := by decide +kernel
theorem dX11_paper_18 : decode cX11_paper 18 = .ok (.iconst 0, 1) := by decide +kernel
theorem dX11_paper_19 : decode cX11_paper 19 = .ok (.aload_n 0, 1) := by decide +kernel
theorem dX11_paper_20 : decode cX11_paper 20 = .ok (.getfield 114, 3) := by decide +kernel
theorem dX11_paper_23 : decode cX11_paper 23 = .ok (.invokestatic 98, 3) := by decide +kernel
theorem dX11_paper_26 : decode cX11_paper 26 = .ok (.ifCond .eq 13, 3) := by decide +kernel
theorem dX11_paper_29 : decode cX11_paper 29 = .ok (.aload_n 0, 1) := by decide +kernel
theorem dX11_paper_30 : decode cX11_paper 30 = .ok (.getfield 121, 3) := by decide +kernel
theorem dX11_paper_33 : decode cX11_paper 33 = .ok (.sipush 200, 3) := by decide +kernel
theorem dX11_paper_36 : decode cX11_paper 36 = .ok (.if_icmp .ne 5, 3) := by decide +kernel
theorem dX11_paper_39 : decode cX11_paper 39 = .ok (.iconst 0, 1) := by decide +kernel
theorem dX11_paper_40 : decode cX11_paper 40 = .ok (.ireturn, 1) := by decide +kernel
theorem dX11_paper_41 : decode cX11_paper 41 = .ok (.aload_n 0, 1) := by decide +kernel
theorem dX11_paper_42 : decode cX11_paper 42 = .ok (.getfield 39, 3) := by decide +kernel
theorem dX11_paper_45 : decode cX11_paper 45 = .ok (.aload_n 0, 1) := by decide +kernel
theorem dX11_paper_46 : decode cX11_paper 46 = .ok (.getfield 121, 3) := by decide +kernel
theorem dX11_paper_49 : decode cX11_paper 49 = .ok (.iload_n 1, 1) := by decide +kernel
theorem dX11_paper_50 : decode cX11_paper 50 = .ok (.iastore, 1) := by decide +kernel
theorem dX11_paper_51 : decode cX11_paper 51 = .ok (.aload_n 0, 1) := by decide +kernel
theorem dX11_paper_52 : decode cX11_paper 52 = .ok (.getfield 42, 3) := by decide +kernel
theorem dX11_paper_55 : decode cX11_paper 55 = .ok (.aload_n 0, 1) := by decide +kernel
theorem dX11_paper_56 : decode cX11_paper 56 = .ok (.getfield 121, 3) := by decide +kernel
theorem dX11_paper_59 : decode cX11_paper 59 = .ok (.iload_n 2, 1) := by decide +kernel
theorem dX11_paper_60 : decode cX11_paper 60 = .ok (.iastore, 1) := by decide +kernel
theorem dX11_paper_61 : decode cX11_paper 61 = .ok (.aload_n 0, 1) := by decide +kernel
theorem dX11_paper_62 : decode cX11_paper 62 = .ok (.getfield 45, 3) := by decide +kernel
theorem dX11_paper_65 : decode cX11_paper 65 = .ok (.aload_n 0, 1) := by decide +kernel
theorem dX11_paper_66 : decode cX11_paper 66 = .ok (.getfield 121, 3) := by decide +kernel
theorem dX11_paper_69 : decode cX11_paper 69 = .ok (.iload_n 3, 1) := by decide +kernel
theorem dX11_paper_70 : decode cX11_paper 70 = .ok (.iastore, 1) := by decide +kernel
theorem dX11_paper_71 : decode cX11_paper 71 = .ok (.aload_n 0, 1) := by decide +kernel
theorem dX11_paper_72 : decode cX11_paper 72 = .ok (.dup, 1) := by decide +kernel
theorem dX11_paper_73 : decode cX11_paper 73 = .ok (.getfield 121, 3) := by decide +kernel
theorem dX11_paper_76 : decode cX11_paper 76 = .ok (.iconst 1, 1) := by decide +kernel
theorem dX11_paper_77 : decode cX11_paper 77 = .ok (.iadd, 1) := by decide +kernel
theorem dX11_paper_78 : decode cX11_paper 78 = .ok (.putfield 121, 3) := by decide +kernel
theorem dX11_paper_81 : decode cX11_paper 81 = .ok (.iconst 1, 1) := by decide +kernel
theorem dX11_paper_82 : decode cX11_paper 82 = .ok (.ireturn, 1) := by decide +kernel
theorem dX11_hasPaper_0 : decode cX11_hasPaper 0 = .ok (.iconst 0, 1) := by decide +kernel
theorem dX11_hasPaper_1 : decode cX11_hasPaper 1 = .ok (.istore 4, 2) := by decide +kernel
theorem dX11_hasPaper_3 : decode cX11_hasPaper 3 = .ok (.iload 4, 2) := by decide +kernel
theorem dX11_hasPaper_5 : decode cX11_hasPaper 5 = .ok (.aload_n 0, 1) := by decide +kernel
theorem dX11_hasPaper_6 : decode cX11_hasPaper 6 = .ok (.getfield 121, 3) := by decide +kernel
theorem dX11_hasPaper_9 : decode cX11_hasPaper 9 = .ok (.if_icmp .ge 63, 3) := by decide +kernel
theorem dX11_hasPaper_12 : decode cX11_hasPaper 12 = .ok (.aload_n 0, 1) := by decide +kernel
theorem dX11_hasPaper_13 : decode cX11_hasPaper 13 = .ok (.getfield 39, 3) := by decide +kernel
theorem dX11_hasPaper_16 : decode cX11_hasPaper 16 = .ok (.iload 4, 2) := by decide +kernel
theorem dX11_hasPaper_18 : decode cX11_hasPaper 18 = .ok (.iaload, 1) := by decide +kernel
theorem dX11_hasPaper_19 : decode cX11_hasPaper 19 = .ok (.iload_n 1, 1) := by decide +kernel
theorem dX11_hasPaper_20 : decode cX11_hasPaper 20 = .ok (.if_icmp .ne 46, 3) := by decide +kernel
theorem dX11_hasPaper_23 : decode cX11_hasPaper 23 = .ok (.aload_n 0, 1) := by decide +kernel
theorem dX11_hasPaper_24 : decode cX11_hasPaper 24 = .ok (.getfield 42, 3) := by decide +kernel
theorem dX11_hasPaper_27 : decode cX11_hasPaper 27 = .ok (.iload 4, 2) := by decide +kernel
theorem dX11_hasPaper_29 : decode cX11_hasPaper 29 = .ok (.iaload, 1) := by decide +kernel
theorem dX11_hasPaper_30 : decode cX11_hasPaper 30 = .ok (.iload_n 2, 1) := by decide +kernel
theorem dX11_hasPaper_31 : decode cX11_hasPaper 31 = .ok (.if_icmp .ne 35, 3) := by decide +kernel
theorem dX11_hasPaper_34 : decode cX11_hasPaper 34 = .ok (.aload_n 0, 1) := by decide +kernel
theorem dX11_hasPaper_35 : decode cX11_hasPaper 35 = .ok (.getfield 45, 3) := by decide +kernel
theorem dX11_hasPaper_38 : decode cX11_hasPaper 38 = .ok (.iload 4, 2) := by decide +kernel
theorem dX11_hasPaper_40 : decode cX11_hasPaper 40 = .ok (.iaload, 1) := by decide +kernel
theorem dX11_hasPaper_41 : decode cX11_hasPaper 41 = .ok (.iload_n 3, 1) := by decide +kernel
theorem dX11_hasPaper_42 : decode cX11_hasPaper 42 = .ok (.if_icmp .gt 24, 3) := by decide +kernel
theorem dX11_hasPaper_45 : decode cX11_hasPaper 45 = .ok (.aload_n 0, 1) := by decide +kernel
theorem dX11_hasPaper_46 : decode cX11_hasPaper 46 = .ok (.iload_n 1, 1) := by decide +kernel
theorem dX11_hasPaper_47 : decode cX11_hasPaper 47 = .ok (.iload_n 3, 1) := by decide +kernel
theorem dX11_hasPaper_48 : decode cX11_hasPaper 48 = .ok (.iconst 5, 1) := by decide +kernel
theorem dX11_hasPaper_49 : decode cX11_hasPaper 49 = .ok (.invokevirtual 124, 3) := by decide +kernel
theorem dX11_hasPaper_52 : decode cX11_hasPaper 52 = .ok (.iload_n 3, 1) := by decide +kernel
theorem dX11_hasPaper_53 : decode cX11_hasPaper 53 = .ok (.aload_n 0, 1) := by decide +kernel
theorem dX11_hasPaper_54 : decode cX11_hasPaper 54 = .ok (.getfield 45, 3) := by decide +kernel
theorem dX11_hasPaper_57 : decode cX11_hasPaper 57 = .ok (.iload 4, 2) := by decide +kernel
theorem dX11_hasPaper_59 : decode cX11_hasPaper 59 = .ok (.iaload, 1) := by decide +kernel
theorem dX11_hasPaper_60 : decode cX11_hasPaper 60 = .ok (.isub, 1) := by decide +kernel
theorem dX11_hasPaper_61 : decode cX11_hasPaper 61 = .ok (.if_icmp .le 5, 3) := by decide +kernel
theorem dX11_hasPaper_64 : decode cX11_hasPaper 64 = .ok (.iconst 1, 1) := by decide +kernel
theorem dX11_hasPaper_65 : decode cX11_hasPaper 65 = .ok (.ireturn, 1) := by decide +kernel
theorem dX11_hasPaper_66 : decode cX11_hasPaper 66 = .ok (.iinc 4 1, 3) := by decide +kernel
theorem dX11_hasPaper_69 : decode cX11_hasPaper 69 = .ok (.goto (-66), 3) := by decide +kernel
theorem dX11_hasPaper_72 : decode cX11_hasPaper 72 = .ok (.iconst 0, 1) := by decide +kernel
theorem dX11_hasPaper_73 : decode cX11_hasPaper 73 = .ok (.ireturn, 1) := by decide +kernel
theorem dX11_isFree_0 : decode cX11_isFree 0 = .ok (.iload_n 1, 1) := by decide +kernel
theorem dX11_isFree_1 : decode cX11_isFree 1 = .ok (.bipush 7, 2) := by decide +kernel
theorem dX11_isFree_3 : decode cX11_isFree 3 = .ok (.irem, 1) := by decide +kernel
theorem dX11_isFree_4 : decode cX11_isFree 4 = .ok (.bipush 6, 2) := by decide +kernel
theorem dX11_isFree_6 : decode cX11_isFree 6 = .ok (.if_icmp .eq 16, 3) := by decide +kernel
theorem dX11_isFree_9 : decode cX11_isFree 9 = .ok (.aload_n 0, 1) := by decide +kernel
theorem dX11_isFree_10 : decode cX11_isFree 10 = .ok (.getfield 48, 3) := by decide +kernel
theorem dX11_isFree_13 : decode cX11_isFree 13 = .ok (.iload_n 1, 1) := by decide +kernel
theorem dX11_isFree_14 : decode cX11_isFree 14 = .ok (.baload, 1) := by decide +kernel
theorem dX11_isFree_15 : decode cX11_isFree 15 = .ok (.ifCond .ne 7, 3) := by decide +kernel
theorem dX11_isFree_18 : decode cX11_isFree 18 = .ok (.iconst 1, 1) := by decide +kernel
theorem dX11_isFree_19 : decode cX11_isFree 19 = .ok (.goto 4, 3) := by decide +kernel
theorem dX11_isFree_22 : decode cX11_isFree 22 = .ok (.iconst 0, 1) := by decide +kernel
theorem dX11_isFree_23 : decode cX11_isFree 23 = .ok (.ireturn, 1) := by decide +kernel
theorem dX11_feast_0 : decode cX11_feast 0 = .ok (.iload_n 1, 1) := by decide +kernel
theorem dX11_feast_1 : decode cX11_feast 1 = .ok (.iconst 0, 1) := by decide +kernel
theorem dX11_feast_2 : decode cX11_feast 2 = .ok (.sipush 20000, 3) := by decide +kernel
theorem dX11_feast_5 : decode cX11_feast 5 = .ok (.invokestatic 98, 3) := by decide +kernel
theorem dX11_feast_8 : decode cX11_feast 8 = .ok (.ifCond .eq 11, 3) := by decide +kernel
theorem dX11_feast_11 : decode cX11_feast 11 = .ok (.aload_n 0, 1) := by decide +kernel
theorem dX11_feast_12 : decode cX11_feast 12 = .ok (.iload_n 1, 1) := by decide +kernel
theorem dX11_feast_13 : decode cX11_feast 13 = .ok (.invokevirtual 128, 3) := by decide +kernel
theorem dX11_feast_16 : decode cX11_feast 16 = .ok (.ifCond .ne 5, 3) := by decide +kernel
theorem dX11_feast_19 : decode cX11_feast 19 = .ok (.iconst 0, 1) := by decide +kernel
theorem dX11_feast_20 : decode cX11_feast 20 = .ok (.ireturn, 1) := by decide +kernel
theorem dX11_feast_21 : decode cX11_feast 21 = .ok (.aload_n 0, 1) := by decide +kernel
theorem dX11_feast_22 : decode cX11_feast 22 = .ok (.getfield 48, 3) := by decide +kernel
theorem dX11_feast_25 : decode cX11_feast 25 = .ok (.iload_n 1, 1) := by decide +kernel
theorem dX11_feast_26 : decode cX11_feast 26 = .ok (.iconst 1, 1) := by decide +kernel
theorem dX11_feast_27 : decode cX11_feast 27 = .ok (.bastore, 1) := by decide +kernel
theorem dX11_feast_28 : decode cX11_feast 28 = .ok (.iconst 1, 1) := by decide +kernel
theorem dX11_feast_29 : decode cX11_feast 29 = .ok (.ireturn, 1) := by decide +kernel
theorem dX11_go_0 : decode cX11_go 0 = .ok (.iload_n 1, 1) := by decide +kernel
theorem dX11_go_1 : decode cX11_go 1 = .ok (.iconst 0, 1) := by decide +kernel
theorem dX11_go_2 : decode cX11_go 2 = .ok (.sipush 400, 3) := by decide +kernel
theorem dX11_go_5 : decode cX11_go 5 = .ok (.invokestatic 98, 3) := by decide +kernel
theorem dX11_go_8 : decode cX11_go 8 = .ok (.ifCond .ne 5, 3) := by decide +kernel
theorem dX11_go_11 : decode cX11_go 11 = .ok (.iconst (-1), 1) := by decide +kernel
theorem dX11_go_12 : decode cX11_go 12 = .ok (.ireturn, 1) := by decide +kernel
theorem dX11_go_13 : decode cX11_go 13 = .ok (.aload_n 0, 1) := by decide +kernel
theorem dX11_go_14 : decode cX11_go 14 = .ok (.sipush 20000, 3) := by decide +kernel
theorem dX11_go_17 : decode cX11_go 17 = .ok (.aload_n 0, 1) := by decide +kernel
theorem dX11_go_18 : decode cX11_go 18 = .ok (.getfield 114, 3) := by decide +kernel
theorem dX11_go_21 : decode cX11_go 21 = .ok (.iload_n 1, 1) := by decide +kernel
theorem dX11_go_22 : decode cX11_go 22 = .ok (.iadd, 1) := by decide +kernel
theorem dX11_go_23 : decode cX11_go 23 = .ok (.invokestatic 131, 3) := by decide +kernel
theorem dX11_go_26 : decode cX11_go 26 = .ok (.putfield 114, 3) := by decide +kernel
theorem dX11_go_29 : decode cX11_go 29 = .ok (.aload_n 0, 1) := by decide +kernel
theorem dX11_go_30 : decode cX11_go 30 = .ok (.getfield 114, 3) := by decide +kernel
theorem dX11_go_33 : decode cX11_go 33 = .ok (.ireturn, 1) := by decide +kernel
theorem dX11_isParent_0 : decode cX11_isParent 0 = .ok (.iload_n 1, 1) := by decide +kernel
theorem dX11_isParent_1 : decode cX11_isParent 1 = .ok (.iconst (-1), 1) := by decide +kernel
theorem dX11_isParent_2 : decode cX11_isParent 2 = .ok (.if_icmp .eq 27, 3) := by decide +kernel
theorem dX11_isParent_5 : decode cX11_isParent 5 = .ok (.aload_n 0, 1) := by decide +kernel
theorem dX11_isParent_6 : decode cX11_isParent 6 = .ok (.getfield 24, 3) := by decide +kernel
theorem dX11_isParent_9 : decode cX11_isParent 9 = .ok (.iload_n 2, 1) := by decide +kernel
theorem dX11_isParent_10 : decode cX11_isParent 10 = .ok (.iaload, 1) := by decide +kernel
theorem dX11_isParent_11 : decode cX11_isParent 11 = .ok (.iload_n 1, 1) := by decide +kernel
theorem dX11_isParent_12 : decode cX11_isParent 12 = .ok (.if_icmp .eq 13, 3) := by decide +kernel
theorem dX11_isParent_15 : decode cX11_isParent 15 = .ok (.aload_n 0, 1) := by decide +kernel
theorem dX11_isParent_16 : decode cX11_isParent 16 = .ok (.getfield 27, 3) := by decide +kernel
theorem dX11_isParent_19 : decode cX11_isParent 19 = .ok (.iload_n 2, 1) := by decide +kernel
theorem dX11_isParent_20 : decode cX11_isParent 20 = .ok (.iaload, 1) := by decide +kernel
theorem dX11_isParent_21 : decode cX11_isParent 21 = .ok (.iload_n 1, 1) := by decide +kernel
theorem dX11_isParent_22 : decode cX11_isParent 22 = .ok (.if_icmp .ne 7, 3) := by decide +kernel
theorem dX11_isParent_25 : decode cX11_isParent 25 = .ok (.iconst 1, 1) := by decide +kernel
theorem dX11_isParent_26 : decode cX11_isParent 26 = .ok (.goto 4, 3) := by decide +kernel
theorem dX11_isParent_29 : decode cX11_isParent 29 = .ok (.iconst 0, 1) := by decide +kernel
theorem dX11_isParent_30 : decode cX11_isParent 30 = .ok (.ireturn, 1) := by decide +kernel
theorem dX11_share_0 : decode cX11_share 0 = .ok (.iload_n 1, 1) := by decide +kernel
theorem dX11_share_1 : decode cX11_share 1 = .ok (.iload_n 2, 1) := by decide +kernel
theorem dX11_share_2 : decode cX11_share 2 = .ok (.if_icmp .eq 57, 3) := by decide +kernel
theorem dX11_share_5 : decode cX11_share 5 = .ok (.aload_n 0, 1) := by decide +kernel
theorem dX11_share_6 : decode cX11_share 6 = .ok (.getfield 24, 3) := by decide +kernel
theorem dX11_share_9 : decode cX11_share 9 = .ok (.iload_n 1, 1) := by decide +kernel
theorem dX11_share_10 : decode cX11_share 10 = .ok (.iaload, 1) := by decide +kernel
theorem dX11_share_11 : decode cX11_share 11 = .ok (.iconst (-1), 1) := by decide +kernel
theorem dX11_share_12 : decode cX11_share 12 = .ok (.if_icmp .eq 18, 3) := by decide +kernel
theorem dX11_share_15 : decode cX11_share 15 = .ok (.aload_n 0, 1) := by decide +kernel
theorem dX11_share_16 : decode cX11_share 16 = .ok (.getfield 24, 3) := by decide +kernel
theorem dX11_share_19 : decode cX11_share 19 = .ok (.iload_n 1, 1) := by decide +kernel
theorem dX11_share_20 : decode cX11_share 20 = .ok (.iaload, 1) := by decide +kernel
theorem dX11_share_21 : decode cX11_share 21 = .ok (.aload_n 0, 1) := by decide +kernel
theorem dX11_share_22 : decode cX11_share 22 = .ok (.getfield 24, 3) := by decide +kernel
theorem dX11_share_25 : decode cX11_share 25 = .ok (.iload_n 2, 1) := by decide +kernel
theorem dX11_share_26 : decode cX11_share 26 = .ok (.iaload, 1) := by decide +kernel
theorem dX11_share_27 : decode cX11_share 27 = .ok (.if_icmp .eq 28, 3) := by decide +kernel
theorem dX11_share_30 : decode cX11_share 30 = .ok (.aload_n 0, 1) := by decide +kernel
theorem dX11_share_31 : decode cX11_share 31 = .ok (.getfield 27, 3) := by decide +kernel
theorem dX11_share_34 : decode cX11_share 34 = .ok (.iload_n 1, 1) := by decide +kernel
theorem dX11_share_35 : decode cX11_share 35 = .ok (.iaload, 1) := by decide +kernel
theorem dX11_share_36 : decode cX11_share 36 = .ok (.iconst (-1), 1) := by decide +kernel
theorem dX11_share_37 : decode cX11_share 37 = .ok (.if_icmp .eq 22, 3) := by decide +kernel
theorem dX11_share_40 : decode cX11_share 40 = .ok (.aload_n 0, 1) := by decide +kernel
theorem dX11_share_41 : decode cX11_share 41 = .ok (.getfield 27, 3) := by decide +kernel
theorem dX11_share_44 : decode cX11_share 44 = .ok (.iload_n 1, 1) := by decide +kernel
theorem dX11_share_45 : decode cX11_share 45 = .ok (.iaload, 1) := by decide +kernel
theorem dX11_share_46 : decode cX11_share 46 = .ok (.aload_n 0, 1) := by decide +kernel
theorem dX11_share_47 : decode cX11_share 47 = .ok (.getfield 27, 3) := by decide +kernel
theorem dX11_share_50 : decode cX11_share 50 = .ok (.iload_n 2, 1) := by decide +kernel
theorem dX11_share_51 : decode cX11_share 51 = .ok (.iaload, 1) := by decide +kernel
theorem dX11_share_52 : decode cX11_share 52 = .ok (.if_icmp .ne 7, 3) := by decide +kernel
theorem dX11_share_55 : decode cX11_share 55 = .ok (.iconst 1, 1) := by decide +kernel
theorem dX11_share_56 : decode cX11_share 56 = .ok (.goto 4, 3) := by decide +kernel
theorem dX11_share_59 : decode cX11_share 59 = .ok (.iconst 0, 1) := by decide +kernel
theorem dX11_share_60 : decode cX11_share 60 = .ok (.ireturn, 1) := by decide +kernel
theorem dX11_parent_0 : decode cX11_parent 0 = .ok (.iload_n 2, 1) := by decide +kernel
theorem dX11_parent_1 : decode cX11_parent 1 = .ok (.ifCond .ne 12, 3) := by decide +kernel
theorem dX11_parent_4 : decode cX11_parent 4 = .ok (.aload_n 0, 1) := by decide +kernel
theorem dX11_parent_5 : decode cX11_parent 5 = .ok (.getfield 24, 3) := by decide +kernel
theorem dX11_parent_8 : decode cX11_parent 8 = .ok (.iload_n 1, 1) := by decide +kernel
theorem dX11_parent_9 : decode cX11_parent 9 = .ok (.iaload, 1) := by decide +kernel
theorem dX11_parent_10 : decode cX11_parent 10 = .ok (.goto 9, 3) := by decide +kernel
theorem dX11_parent_13 : decode cX11_parent 13 = .ok (.aload_n 0, 1) := by decide +kernel
theorem dX11_parent_14 : decode cX11_parent 14 = .ok (.getfield 27, 3) := by decide +kernel
theorem dX11_parent_17 : decode cX11_parent 17 = .ok (.iload_n 1, 1) := by decide +kernel
theorem dX11_parent_18 : decode cX11_parent 18 = .ok (.iaload, 1) := by decide +kernel
theorem dX11_parent_19 : decode cX11_parent 19 = .ok (.ireturn, 1) := by decide +kernel
theorem dX11_kinOf_0 : decode cX11_kinOf 0 = .ok (.aload_n 0, 1) := by decide +kernel
theorem dX11_kinOf_1 : decode cX11_kinOf 1 = .ok (.iload_n 1, 1) := by decide +kernel
theorem dX11_kinOf_2 : decode cX11_kinOf 2 = .ok (.iload_n 2, 1) := by decide +kernel
theorem dX11_kinOf_3 : decode cX11_kinOf 3 = .ok (.invokevirtual 137, 3) := by decide +kernel
theorem dX11_kinOf_6 : decode cX11_kinOf 6 = .ok (.ifCond .ne 21, 3) := by decide +kernel
theorem dX11_kinOf_9 : decode cX11_kinOf 9 = .ok (.aload_n 0, 1) := by decide +kernel
theorem dX11_kinOf_10 : decode cX11_kinOf 10 = .ok (.iload_n 2, 1) := by decide +kernel
theorem dX11_kinOf_11 : decode cX11_kinOf 11 = .ok (.iload_n 1, 1) := by decide +kernel
theorem dX11_kinOf_12 : decode cX11_kinOf 12 = .ok (.invokevirtual 137, 3) := by decide +kernel
theorem dX11_kinOf_15 : decode cX11_kinOf 15 = .ok (.ifCond .ne 12, 3) := by decide +kernel
theorem dX11_kinOf_18 : decode cX11_kinOf 18 = .ok (.aload_n 0, 1) := by decide +kernel
theorem dX11_kinOf_19 : decode cX11_kinOf 19 = .ok (.iload_n 1, 1) := by decide +kernel
theorem dX11_kinOf_20 : decode cX11_kinOf 20 = .ok (.iload_n 2, 1) := by decide +kernel
theorem dX11_kinOf_21 : decode cX11_kinOf 21 = .ok (.invokevirtual 141, 3) := by decide +kernel
theorem dX11_kinOf_24 : decode cX11_kinOf 24 = .ok (.ifCond .eq 5, 3) := by decide +kernel
theorem dX11_kinOf_27 : decode cX11_kinOf 27 = .ok (.iconst 1, 1) := by decide +kernel
theorem dX11_kinOf_28 : decode cX11_kinOf 28 = .ok (.ireturn, 1) := by decide +kernel
theorem dX11_kinOf_29 : decode cX11_kinOf 29 = .ok (.iconst 0, 1) := by decide +kernel
theorem dX11_kinOf_30 : decode cX11_kinOf 30 = .ok (.istore_n 3, 1) := by decide +kernel
theorem dX11_kinOf_31 : decode cX11_kinOf 31 = .ok (.iconst 0, 1) := by decide +kernel
theorem dX11_kinOf_32 : decode cX11_kinOf 32 = .ok (.istore 4, 2) := by decide +kernel
theorem dX11_kinOf_34 : decode cX11_kinOf 34 = .ok (.iload 4, 2) := by decide +kernel
theorem dX11_kinOf_36 : decode cX11_kinOf 36 = .ok (.iconst 2, 1) := by decide +kernel
theorem dX11_kinOf_37 : decode cX11_kinOf 37 = .ok (.if_icmp .ge 133, 3) := by decide +kernel
theorem dX11_kinOf_40 : decode cX11_kinOf 40 = .ok (.aload_n 0, 1) := by decide +kernel
theorem dX11_kinOf_41 : decode cX11_kinOf 41 = .ok (.iload_n 1, 1) := by decide +kernel
theorem dX11_kinOf_42 : decode cX11_kinOf 42 = .ok (.iload 4, 2) := by decide +kernel
theorem dX11_kinOf_44 : decode cX11_kinOf 44 = .ok (.invokevirtual 144, 3) := by decide +kernel
theorem dX11_kinOf_47 : decode cX11_kinOf 47 = .ok (.istore 5, 2) := by decide +kernel
theorem dX11_kinOf_49 : decode cX11_kinOf 49 = .ok (.aload_n 0, 1) := by decide +kernel
theorem dX11_kinOf_50 : decode cX11_kinOf 50 = .ok (.iload_n 2, 1) := by decide +kernel
theorem dX11_kinOf_51 : decode cX11_kinOf 51 = .ok (.iload 4, 2) := by decide +kernel
theorem dX11_kinOf_53 : decode cX11_kinOf 53 = .ok (.invokevirtual 144, 3) := by decide +kernel
theorem dX11_kinOf_56 : decode cX11_kinOf 56 = .ok (.istore 6, 2) := by decide +kernel
theorem dX11_kinOf_58 : decode cX11_kinOf 58 = .ok (.iload 5, 2) := by decide +kernel
theorem dX11_kinOf_60 : decode cX11_kinOf 60 = .ok (.iconst (-1), 1) := by decide +kernel
theorem dX11_kinOf_61 : decode cX11_kinOf 61 = .ok (.if_icmp .eq 25, 3) := by decide +kernel
theorem dX11_kinOf_64 : decode cX11_kinOf 64 = .ok (.aload_n 0, 1) := by decide +kernel
theorem dX11_kinOf_65 : decode cX11_kinOf 65 = .ok (.iload 5, 2) := by decide +kernel
theorem dX11_kinOf_67 : decode cX11_kinOf 67 = .ok (.iload_n 2, 1) := by decide +kernel
theorem dX11_kinOf_68 : decode cX11_kinOf 68 = .ok (.invokevirtual 141, 3) := by decide +kernel
theorem dX11_kinOf_71 : decode cX11_kinOf 71 = .ok (.ifCond .ne 13, 3) := by decide +kernel
theorem dX11_kinOf_74 : decode cX11_kinOf 74 = .ok (.aload_n 0, 1) := by decide +kernel
theorem dX11_kinOf_75 : decode cX11_kinOf 75 = .ok (.iload_n 2, 1) := by decide +kernel
theorem dX11_kinOf_76 : decode cX11_kinOf 76 = .ok (.iload 5, 2) := by decide +kernel
theorem dX11_kinOf_78 : decode cX11_kinOf 78 = .ok (.invokevirtual 137, 3) := by decide +kernel
theorem dX11_kinOf_81 : decode cX11_kinOf 81 = .ok (.ifCond .eq 5, 3) := by decide +kernel
theorem dX11_kinOf_84 : decode cX11_kinOf 84 = .ok (.iconst 2, 1) := by decide +kernel
theorem dX11_kinOf_85 : decode cX11_kinOf 85 = .ok (.ireturn, 1) := by decide +kernel
theorem dX11_kinOf_86 : decode cX11_kinOf 86 = .ok (.iload 6, 2) := by decide +kernel
theorem dX11_kinOf_88 : decode cX11_kinOf 88 = .ok (.iconst (-1), 1) := by decide +kernel
theorem dX11_kinOf_89 : decode cX11_kinOf 89 = .ok (.if_icmp .eq 25, 3) := by decide +kernel
theorem dX11_kinOf_92 : decode cX11_kinOf 92 = .ok (.aload_n 0, 1) := by decide +kernel
theorem dX11_kinOf_93 : decode cX11_kinOf 93 = .ok (.iload 6, 2) := by decide +kernel
theorem dX11_kinOf_95 : decode cX11_kinOf 95 = .ok (.iload_n 1, 1) := by decide +kernel
theorem dX11_kinOf_96 : decode cX11_kinOf 96 = .ok (.invokevirtual 141, 3) := by decide +kernel
theorem dX11_kinOf_99 : decode cX11_kinOf 99 = .ok (.ifCond .ne 13, 3) := by decide +kernel
theorem dX11_kinOf_102 : decode cX11_kinOf 102 = .ok (.aload_n 0, 1) := by decide +kernel
theorem dX11_kinOf_103 : decode cX11_kinOf 103 = .ok (.iload_n 1, 1) := by decide +kernel
theorem dX11_kinOf_104 : decode cX11_kinOf 104 = .ok (.iload 6, 2) := by decide +kernel
theorem dX11_kinOf_106 : decode cX11_kinOf 106 = .ok (.invokevirtual 137, 3) := by decide +kernel
theorem dX11_kinOf_109 : decode cX11_kinOf 109 = .ok (.ifCond .eq 5, 3) := by decide +kernel
theorem dX11_kinOf_112 : decode cX11_kinOf 112 = .ok (.iconst 2, 1) := by decide +kernel
theorem dX11_kinOf_113 : decode cX11_kinOf 113 = .ok (.ireturn, 1) := by decide +kernel
theorem dX11_kinOf_114 : decode cX11_kinOf 114 = .ok (.iconst 0, 1) := by decide +kernel
theorem dX11_kinOf_115 : decode cX11_kinOf 115 = .ok (.istore 7, 2) := by decide +kernel
theorem dX11_kinOf_117 : decode cX11_kinOf 117 = .ok (.iload 7, 2) := by decide +kernel
theorem dX11_kinOf_119 : decode cX11_kinOf 119 = .ok (.iconst 2, 1) := by decide +kernel
theorem dX11_kinOf_120 : decode cX11_kinOf 120 = .ok (.if_icmp .ge 44, 3) := by decide +kernel
theorem dX11_kinOf_123 : decode cX11_kinOf 123 = .ok (.iload 5, 2) := by decide +kernel
theorem dX11_kinOf_125 : decode cX11_kinOf 125 = .ok (.iconst (-1), 1) := by decide +kernel
theorem dX11_kinOf_126 : decode cX11_kinOf 126 = .ok (.if_icmp .eq 38, 3) := by decide +kernel
theorem dX11_kinOf_129 : decode cX11_kinOf 129 = .ok (.aload_n 0, 1) := by decide +kernel
theorem dX11_kinOf_130 : decode cX11_kinOf 130 = .ok (.iload_n 2, 1) := by decide +kernel
theorem dX11_kinOf_131 : decode cX11_kinOf 131 = .ok (.iload 7, 2) := by decide +kernel
theorem dX11_kinOf_133 : decode cX11_kinOf 133 = .ok (.invokevirtual 144, 3) := by decide +kernel
theorem dX11_kinOf_136 : decode cX11_kinOf 136 = .ok (.iconst (-1), 1) := by decide +kernel
theorem dX11_kinOf_137 : decode cX11_kinOf 137 = .ok (.if_icmp .eq 21, 3) := by decide +kernel
theorem dX11_kinOf_140 : decode cX11_kinOf 140 = .ok (.aload_n 0, 1) := by decide +kernel
theorem dX11_kinOf_141 : decode cX11_kinOf 141 = .ok (.iload 5, 2) := by decide +kernel
theorem dX11_kinOf_143 : decode cX11_kinOf 143 = .ok (.aload_n 0, 1) := by decide +kernel
theorem dX11_kinOf_144 : decode cX11_kinOf 144 = .ok (.iload_n 2, 1) := by decide +kernel
theorem dX11_kinOf_145 : decode cX11_kinOf 145 = .ok (.iload 7, 2) := by decide +kernel
theorem dX11_kinOf_147 : decode cX11_kinOf 147 = .ok (.invokevirtual 144, 3) := by decide +kernel
theorem dX11_kinOf_150 : decode cX11_kinOf 150 = .ok (.invokevirtual 141, 3) := by decide +kernel
theorem dX11_kinOf_153 : decode cX11_kinOf 153 = .ok (.ifCond .eq 5, 3) := by decide +kernel
theorem dX11_kinOf_156 : decode cX11_kinOf 156 = .ok (.iconst 3, 1) := by decide +kernel
theorem dX11_kinOf_157 : decode cX11_kinOf 157 = .ok (.istore_n 3, 1) := by decide +kernel
theorem dX11_kinOf_158 : decode cX11_kinOf 158 = .ok (.iinc 7 1, 3) := by decide +kernel
theorem dX11_kinOf_161 : decode cX11_kinOf 161 = .ok (.goto (-44), 3) := by decide +kernel
theorem dX11_kinOf_164 : decode cX11_kinOf 164 = .ok (.iinc 4 1, 3) := by decide +kernel
theorem dX11_kinOf_167 : decode cX11_kinOf 167 = .ok (.goto (-133), 3) := by decide +kernel
theorem dX11_kinOf_170 : decode cX11_kinOf 170 = .ok (.iload_n 3, 1) := by decide +kernel
theorem dX11_kinOf_171 : decode cX11_kinOf 171 = .ok (.ireturn, 1) := by decide +kernel
theorem dX11_kin_0 : decode cX11_kin 0 = .ok (.aload_n 0, 1) := by decide +kernel
theorem dX11_kin_1 : decode cX11_kin 1 = .ok (.iload_n 1, 1) := by decide +kernel
theorem dX11_kin_2 : decode cX11_kin 2 = .ok (.invokevirtual 117, 3) := by decide +kernel
theorem dX11_kin_5 : decode cX11_kin 5 = .ok (.ifCond .eq 25, 3) := by decide +kernel
theorem dX11_kin_8 : decode cX11_kin 8 = .ok (.aload_n 0, 1) := by decide +kernel
theorem dX11_kin_9 : decode cX11_kin 9 = .ok (.iload_n 2, 1) := by decide +kernel
theorem dX11_kin_10 : decode cX11_kin 10 = .ok (.invokevirtual 117, 3) := by decide +kernel
theorem dX11_kin_13 : decode cX11_kin 13 = .ok (.ifCond .eq 17, 3) := by decide +kernel
theorem dX11_kin_16 : decode cX11_kin 16 = .ok (.iload_n 1, 1) := by decide +kernel
theorem dX11_kin_17 : decode cX11_kin 17 = .ok (.iload_n 2, 1) := by decide +kernel
theorem dX11_kin_18 : decode cX11_kin 18 = .ok (.if_icmp .eq 12, 3) := by decide +kernel
theorem dX11_kin_21 : decode cX11_kin 21 = .ok (.aload_n 0, 1) := by decide +kernel
theorem dX11_kin_22 : decode cX11_kin 22 = .ok (.iload_n 1, 1) := by decide +kernel
theorem dX11_kin_23 : decode cX11_kin 23 = .ok (.iload_n 2, 1) := by decide +kernel
theorem dX11_kin_24 : decode cX11_kin 24 = .ok (.invokevirtual 147, 3) := by decide +kernel
theorem dX11_kin_27 : decode cX11_kin 27 = .ok (.goto 4, 3) := by decide +kernel
theorem dX11_kin_30 : decode cX11_kin 30 = .ok (.iconst (-1), 1) := by decide +kernel
theorem dX11_kin_31 : decode cX11_kin 31 = .ok (.ireturn, 1) := by decide +kernel
theorem dX11_isYoung_0 : decode cX11_isYoung 0 = .ok (.iload_n 2, 1) := by decide +kernel
theorem dX11_isYoung_1 : decode cX11_isYoung 1 = .ok (.aload_n 0, 1) := by decide +kernel
theorem dX11_isYoung_2 : decode cX11_isYoung 2 = .ok (.getfield 21, 3) := by decide +kernel
theorem dX11_isYoung_5 : decode cX11_isYoung 5 = .ok (.iload_n 1, 1) := by decide +kernel
theorem dX11_isYoung_6 : decode cX11_isYoung 6 = .ok (.iaload, 1) := by decide +kernel
theorem dX11_isYoung_7 : decode cX11_isYoung 7 = .ok (.isub, 1) := by decide +kernel
theorem dX11_isYoung_8 : decode cX11_isYoung 8 = .ok (.sipush 365, 3) := by decide +kernel
theorem dX11_isYoung_11 : decode cX11_isYoung 11 = .ok (.aload_n 0, 1) := by decide +kernel
theorem dX11_isYoung_12 : decode cX11_isYoung 12 = .ok (.iload_n 1, 1) := by decide +kernel
theorem dX11_isYoung_13 : decode cX11_isYoung 13 = .ok (.iload_n 2, 1) := by decide +kernel
theorem dX11_isYoung_14 : decode cX11_isYoung 14 = .ok (.iconst 2, 1) := by decide +kernel
theorem dX11_isYoung_15 : decode cX11_isYoung 15 = .ok (.invokevirtual 124, 3) := by decide +kernel
theorem dX11_isYoung_18 : decode cX11_isYoung 18 = .ok (.imul, 1) := by decide +kernel
theorem dX11_isYoung_19 : decode cX11_isYoung 19 = .ok (.if_icmp .ge 7, 3) := by decide +kernel
theorem dX11_isYoung_22 : decode cX11_isYoung 22 = .ok (.iconst 1, 1) := by decide +kernel
theorem dX11_isYoung_23 : decode cX11_isYoung 23 = .ok (.goto 4, 3) := by decide +kernel
theorem dX11_isYoung_26 : decode cX11_isYoung 26 = .ok (.iconst 0, 1) := by decide +kernel
theorem dX11_isYoung_27 : decode cX11_isYoung 27 = .ok (.ireturn, 1) := by decide +kernel
theorem dX11_lacks_0 : decode cX11_lacks 0 = .ok (.iconst 0, 1) := by decide +kernel
theorem dX11_lacks_1 : decode cX11_lacks 1 = .ok (.istore_n 3, 1) := by decide +kernel
theorem dX11_lacks_2 : decode cX11_lacks 2 = .ok (.iload_n 3, 1) := by decide +kernel
theorem dX11_lacks_3 : decode cX11_lacks 3 = .ok (.iconst 3, 1) := by decide +kernel
theorem dX11_lacks_4 : decode cX11_lacks 4 = .ok (.if_icmp .ge 36, 3) := by decide +kernel
theorem dX11_lacks_7 : decode cX11_lacks 7 = .ok (.aload_n 0, 1) := by decide +kernel
theorem dX11_lacks_8 : decode cX11_lacks 8 = .ok (.iload_n 1, 1) := by decide +kernel
theorem dX11_lacks_9 : decode cX11_lacks 9 = .ok (.iload_n 2, 1) := by decide +kernel
theorem dX11_lacks_10 : decode cX11_lacks 10 = .ok (.iconst 4, 1) := by decide +kernel
theorem dX11_lacks_11 : decode cX11_lacks 11 = .ok (.invokevirtual 124, 3) := by decide +kernel
theorem dX11_lacks_14 : decode cX11_lacks 14 = .ok (.iload_n 3, 1) := by decide +kernel
theorem dX11_lacks_15 : decode cX11_lacks 15 = .ok (.ishr, 1) := by decide +kernel
theorem dX11_lacks_16 : decode cX11_lacks 16 = .ok (.iconst 1, 1) := by decide +kernel
theorem dX11_lacks_17 : decode cX11_lacks 17 = .ok (.iand, 1) := by decide +kernel
theorem dX11_lacks_18 : decode cX11_lacks 18 = .ok (.iconst 1, 1) := by decide +kernel
theorem dX11_lacks_19 : decode cX11_lacks 19 = .ok (.if_icmp .ne 15, 3) := by decide +kernel
theorem dX11_lacks_22 : decode cX11_lacks 22 = .ok (.aload_n 0, 1) := by decide +kernel
theorem dX11_lacks_23 : decode cX11_lacks 23 = .ok (.iload_n 1, 1) := by decide +kernel
theorem dX11_lacks_24 : decode cX11_lacks 24 = .ok (.iload_n 3, 1) := by decide +kernel
theorem dX11_lacks_25 : decode cX11_lacks 25 = .ok (.iload_n 2, 1) := by decide +kernel
theorem dX11_lacks_26 : decode cX11_lacks 26 = .ok (.invokevirtual 150, 3) := by decide +kernel
theorem dX11_lacks_29 : decode cX11_lacks 29 = .ok (.ifCond .ne 5, 3) := by decide +kernel
theorem dX11_lacks_32 : decode cX11_lacks 32 = .ok (.iconst 1, 1) := by decide +kernel
theorem dX11_lacks_33 : decode cX11_lacks 33 = .ok (.ireturn, 1) := by decide +kernel
theorem dX11_lacks_34 : decode cX11_lacks 34 = .ok (.iinc 3 1, 3) := by decide +kernel
theorem dX11_lacks_37 : decode cX11_lacks 37 = .ok (.goto (-35), 3) := by decide +kernel
theorem dX11_lacks_40 : decode cX11_lacks 40 = .ok (.iconst 0, 1) := by decide +kernel
theorem dX11_lacks_41 : decode cX11_lacks 41 = .ok (.ireturn, 1) := by decide +kernel
theorem dX11_stands_0 : decode cX11_stands 0 = .ok (.aload_n 0, 1) := by decide +kernel
theorem dX11_stands_1 : decode cX11_stands 1 = .ok (.getfield 36, 3) := by decide +kernel
theorem dX11_stands_4 : decode cX11_stands 4 = .ok (.iload_n 1, 1) := by decide +kernel
theorem dX11_stands_5 : decode cX11_stands 5 = .ok (.iaload, 1) := by decide +kernel
theorem dX11_stands_6 : decode cX11_stands 6 = .ok (.iconst (-1), 1) := by decide +kernel
theorem dX11_stands_7 : decode cX11_stands 7 = .ok (.if_icmp .ne 13, 3) := by decide +kernel
theorem dX11_stands_10 : decode cX11_stands 10 = .ok (.aload_n 0, 1) := by decide +kernel
theorem dX11_stands_11 : decode cX11_stands 11 = .ok (.getfield 36, 3) := by decide +kernel
theorem dX11_stands_14 : decode cX11_stands 14 = .ok (.iload_n 2, 1) := by decide +kernel
theorem dX11_stands_15 : decode cX11_stands 15 = .ok (.iaload, 1) := by decide +kernel
theorem dX11_stands_16 : decode cX11_stands 16 = .ok (.iconst (-1), 1) := by decide +kernel
theorem dX11_stands_17 : decode cX11_stands 17 = .ok (.if_icmp .eq 5, 3) := by decide +kernel
theorem dX11_stands_20 : decode cX11_stands 20 = .ok (.iconst 1, 1) := by decide +kernel
theorem dX11_stands_21 : decode cX11_stands 21 = .ok (.ireturn, 1) := by decide +kernel
theorem dX11_stands_22 : decode cX11_stands 22 = .ok (.aload_n 0, 1) := by decide +kernel
theorem dX11_stands_23 : decode cX11_stands 23 = .ok (.iload_n 1, 1) := by decide +kernel
theorem dX11_stands_24 : decode cX11_stands 24 = .ok (.iload_n 3, 1) := by decide +kernel
theorem dX11_stands_25 : decode cX11_stands 25 = .ok (.invokevirtual 153, 3) := by decide +kernel
theorem dX11_stands_28 : decode cX11_stands 28 = .ok (.ifCond .ne 12, 3) := by decide +kernel
theorem dX11_stands_31 : decode cX11_stands 31 = .ok (.aload_n 0, 1) := by decide +kernel
theorem dX11_stands_32 : decode cX11_stands 32 = .ok (.iload_n 2, 1) := by decide +kernel
theorem dX11_stands_33 : decode cX11_stands 33 = .ok (.iload_n 3, 1) := by decide +kernel
theorem dX11_stands_34 : decode cX11_stands 34 = .ok (.invokevirtual 153, 3) := by decide +kernel
theorem dX11_stands_37 : decode cX11_stands 37 = .ok (.ifCond .eq 5, 3) := by decide +kernel
theorem dX11_stands_40 : decode cX11_stands 40 = .ok (.iconst 2, 1) := by decide +kernel
theorem dX11_stands_41 : decode cX11_stands 41 = .ok (.ireturn, 1) := by decide +kernel
theorem dX11_stands_42 : decode cX11_stands 42 = .ok (.aload_n 0, 1) := by decide +kernel
theorem dX11_stands_43 : decode cX11_stands 43 = .ok (.iload_n 1, 1) := by decide +kernel
theorem dX11_stands_44 : decode cX11_stands 44 = .ok (.iload_n 2, 1) := by decide +kernel
theorem dX11_stands_45 : decode cX11_stands 45 = .ok (.invokevirtual 147, 3) := by decide +kernel
theorem dX11_stands_48 : decode cX11_stands 48 = .ok (.istore 4, 2) := by decide +kernel
theorem dX11_stands_50 : decode cX11_stands 50 = .ok (.iload 4, 2) := by decide +kernel
theorem dX11_stands_52 : decode cX11_stands 52 = .ok (.ifCond .le 29, 3) := by decide +kernel
theorem dX11_stands_55 : decode cX11_stands 55 = .ok (.iload 4, 2) := by decide +kernel
theorem dX11_stands_57 : decode cX11_stands 57 = .ok (.aload_n 0, 1) := by decide +kernel
theorem dX11_stands_58 : decode cX11_stands 58 = .ok (.iload_n 1, 1) := by decide +kernel
theorem dX11_stands_59 : decode cX11_stands 59 = .ok (.iload_n 3, 1) := by decide +kernel
theorem dX11_stands_60 : decode cX11_stands 60 = .ok (.iconst 3, 1) := by decide +kernel
theorem dX11_stands_61 : decode cX11_stands 61 = .ok (.invokevirtual 124, 3) := by decide +kernel
theorem dX11_stands_64 : decode cX11_stands 64 = .ok (.if_icmp .le 15, 3) := by decide +kernel
theorem dX11_stands_67 : decode cX11_stands 67 = .ok (.iload 4, 2) := by decide +kernel
theorem dX11_stands_69 : decode cX11_stands 69 = .ok (.aload_n 0, 1) := by decide +kernel
theorem dX11_stands_70 : decode cX11_stands 70 = .ok (.iload_n 2, 1) := by decide +kernel
theorem dX11_stands_71 : decode cX11_stands 71 = .ok (.iload_n 3, 1) := by decide +kernel
theorem dX11_stands_72 : decode cX11_stands 72 = .ok (.iconst 3, 1) := by decide +kernel
theorem dX11_stands_73 : decode cX11_stands 73 = .ok (.invokevirtual 124, 3) := by decide +kernel
theorem dX11_stands_76 : decode cX11_stands 76 = .ok (.if_icmp .gt 5, 3) := by decide +kernel
theorem dX11_stands_79 : decode cX11_stands 79 = .ok (.iconst 3, 1) := by decide +kernel
theorem dX11_stands_80 : decode cX11_stands 80 = .ok (.ireturn, 1) := by decide +kernel
theorem dX11_stands_81 : decode cX11_stands 81 = .ok (.aload_n 0, 1) := by decide +kernel
theorem dX11_stands_82 : decode cX11_stands 82 = .ok (.iload_n 1, 1) := by decide +kernel
theorem dX11_stands_83 : decode cX11_stands 83 = .ok (.iload_n 3, 1) := by decide +kernel
theorem dX11_stands_84 : decode cX11_stands 84 = .ok (.invokevirtual 156, 3) := by decide +kernel
theorem dX11_stands_87 : decode cX11_stands 87 = .ok (.ifCond .ne 12, 3) := by decide +kernel
theorem dX11_stands_90 : decode cX11_stands 90 = .ok (.aload_n 0, 1) := by decide +kernel
theorem dX11_stands_91 : decode cX11_stands 91 = .ok (.iload_n 2, 1) := by decide +kernel
theorem dX11_stands_92 : decode cX11_stands 92 = .ok (.iload_n 3, 1) := by decide +kernel
theorem dX11_stands_93 : decode cX11_stands 93 = .ok (.invokevirtual 156, 3) := by decide +kernel
theorem dX11_stands_96 : decode cX11_stands 96 = .ok (.ifCond .eq 7, 3) := by decide +kernel
theorem dX11_stands_99 : decode cX11_stands 99 = .ok (.iconst 4, 1) := by decide +kernel
theorem dX11_stands_100 : decode cX11_stands 100 = .ok (.goto 4, 3) := by decide +kernel
theorem dX11_stands_103 : decode cX11_stands 103 = .ok (.iconst 0, 1) := by decide +kernel
theorem dX11_stands_104 : decode cX11_stands 104 = .ok (.ireturn, 1) := by decide +kernel
theorem dX11_against_0 : decode cX11_against 0 = .ok (.aload_n 0, 1) := by decide +kernel
theorem dX11_against_1 : decode cX11_against 1 = .ok (.iload_n 1, 1) := by decide +kernel
theorem dX11_against_2 : decode cX11_against 2 = .ok (.invokevirtual 117, 3) := by decide +kernel
theorem dX11_against_5 : decode cX11_against 5 = .ok (.ifCond .eq 37, 3) := by decide +kernel
theorem dX11_against_8 : decode cX11_against 8 = .ok (.aload_n 0, 1) := by decide +kernel
theorem dX11_against_9 : decode cX11_against 9 = .ok (.iload_n 2, 1) := by decide +kernel
theorem dX11_against_10 : decode cX11_against 10 = .ok (.invokevirtual 117, 3) := by decide +kernel
theorem dX11_against_13 : decode cX11_against 13 = .ok (.ifCond .eq 29, 3) := by decide +kernel
theorem dX11_against_16 : decode cX11_against 16 = .ok (.iload_n 1, 1) := by decide +kernel
theorem dX11_against_17 : decode cX11_against 17 = .ok (.iload_n 2, 1) := by decide +kernel
theorem dX11_against_18 : decode cX11_against 18 = .ok (.if_icmp .eq 24, 3) := by decide +kernel
theorem dX11_against_21 : decode cX11_against 21 = .ok (.iload_n 3, 1) := by decide +kernel
theorem dX11_against_22 : decode cX11_against 22 = .ok (.iconst 0, 1) := by decide +kernel
theorem dX11_against_23 : decode cX11_against 23 = .ok (.sipush 20000, 3) := by decide +kernel
theorem dX11_against_26 : decode cX11_against 26 = .ok (.invokestatic 98, 3) := by decide +kernel
theorem dX11_against_29 : decode cX11_against 29 = .ok (.ifCond .eq 13, 3) := by decide +kernel
theorem dX11_against_32 : decode cX11_against 32 = .ok (.aload_n 0, 1) := by decide +kernel
theorem dX11_against_33 : decode cX11_against 33 = .ok (.iload_n 1, 1) := by decide +kernel
theorem dX11_against_34 : decode cX11_against 34 = .ok (.iload_n 2, 1) := by decide +kernel
theorem dX11_against_35 : decode cX11_against 35 = .ok (.iload_n 3, 1) := by decide +kernel
theorem dX11_against_36 : decode cX11_against 36 = .ok (.invokevirtual 159, 3) := by decide +kernel
theorem dX11_against_39 : decode cX11_against 39 = .ok (.goto 4, 3) := by decide +kernel
theorem dX11_against_42 : decode cX11_against 42 = .ok (.iconst (-1), 1) := by decide +kernel
theorem dX11_against_43 : decode cX11_against 43 = .ok (.ireturn, 1) := by decide +kernel
theorem dX11_post_0 : decode cX11_post 0 = .ok (.aload_n 0, 1) := by decide +kernel
theorem dX11_post_1 : decode cX11_post 1 = .ok (.iload_n 1, 1) := by decide +kernel
theorem dX11_post_2 : decode cX11_post 2 = .ok (.invokevirtual 117, 3) := by decide +kernel
theorem dX11_post_5 : decode cX11_post 5 = .ok (.ifCond .eq 45, 3) := by decide +kernel
theorem dX11_post_8 : decode cX11_post 8 = .ok (.aload_n 0, 1) := by decide +kernel
theorem dX11_post_9 : decode cX11_post 9 = .ok (.iload_n 2, 1) := by decide +kernel
theorem dX11_post_10 : decode cX11_post 10 = .ok (.invokevirtual 117, 3) := by decide +kernel
theorem dX11_post_13 : decode cX11_post 13 = .ok (.ifCond .eq 37, 3) := by decide +kernel
theorem dX11_post_16 : decode cX11_post 16 = .ok (.iload_n 1, 1) := by decide +kernel
theorem dX11_post_17 : decode cX11_post 17 = .ok (.iload_n 2, 1) := by decide +kernel
theorem dX11_post_18 : decode cX11_post 18 = .ok (.if_icmp .eq 32, 3) := by decide +kernel
theorem dX11_post_21 : decode cX11_post 21 = .ok (.aload_n 0, 1) := by decide +kernel
theorem dX11_post_22 : decode cX11_post 22 = .ok (.getfield 36, 3) := by decide +kernel
theorem dX11_post_25 : decode cX11_post 25 = .ok (.iload_n 1, 1) := by decide +kernel
theorem dX11_post_26 : decode cX11_post 26 = .ok (.iaload, 1) := by decide +kernel
theorem dX11_post_27 : decode cX11_post 27 = .ok (.iconst (-1), 1) := by decide +kernel
theorem dX11_post_28 : decode cX11_post 28 = .ok (.if_icmp .ne 22, 3) := by decide +kernel
theorem dX11_post_31 : decode cX11_post 31 = .ok (.aload_n 0, 1) := by decide +kernel
theorem dX11_post_32 : decode cX11_post 32 = .ok (.getfield 36, 3) := by decide +kernel
theorem dX11_post_35 : decode cX11_post 35 = .ok (.iload_n 2, 1) := by decide +kernel
theorem dX11_post_36 : decode cX11_post 36 = .ok (.iaload, 1) := by decide +kernel
theorem dX11_post_37 : decode cX11_post 37 = .ok (.iconst (-1), 1) := by decide +kernel
theorem dX11_post_38 : decode cX11_post 38 = .ok (.if_icmp .ne 12, 3) := by decide +kernel
theorem dX11_post_41 : decode cX11_post 41 = .ok (.aload_n 0, 1) := by decide +kernel
theorem dX11_post_42 : decode cX11_post 42 = .ok (.getfield 102, 3) := by decide +kernel
theorem dX11_post_45 : decode cX11_post 45 = .ok (.bipush 60, 2) := by decide +kernel
theorem dX11_post_47 : decode cX11_post 47 = .ok (.if_icmp .ne 5, 3) := by decide +kernel
theorem dX11_post_50 : decode cX11_post 50 = .ok (.iconst (-1), 1) := by decide +kernel
theorem dX11_post_51 : decode cX11_post 51 = .ok (.ireturn, 1) := by decide +kernel
theorem dX11_post_52 : decode cX11_post 52 = .ok (.iconst 0, 1) := by decide +kernel
theorem dX11_post_53 : decode cX11_post 53 = .ok (.istore_n 3, 1) := by decide +kernel
theorem dX11_post_54 : decode cX11_post 54 = .ok (.iload_n 3, 1) := by decide +kernel
theorem dX11_post_55 : decode cX11_post 55 = .ok (.aload_n 0, 1) := by decide +kernel
theorem dX11_post_56 : decode cX11_post 56 = .ok (.getfield 102, 3) := by decide +kernel
theorem dX11_post_59 : decode cX11_post 59 = .ok (.if_icmp .ge 60, 3) := by decide +kernel
theorem dX11_post_62 : decode cX11_post 62 = .ok (.aload_n 0, 1) := by decide +kernel
theorem dX11_post_63 : decode cX11_post 63 = .ok (.getfield 61, 3) := by decide +kernel
theorem dX11_post_66 : decode cX11_post 66 = .ok (.iload_n 3, 1) := by decide +kernel
theorem dX11_post_67 : decode cX11_post 67 = .ok (.iaload, 1) := by decide +kernel
theorem dX11_post_68 : decode cX11_post 68 = .ok (.ifCond .ne 45, 3) := by decide +kernel
theorem dX11_post_71 : decode cX11_post 71 = .ok (.aload_n 0, 1) := by decide +kernel
theorem dX11_post_72 : decode cX11_post 72 = .ok (.getfield 52, 3) := by decide +kernel
theorem dX11_post_75 : decode cX11_post 75 = .ok (.iload_n 3, 1) := by decide +kernel
theorem dX11_post_76 : decode cX11_post 76 = .ok (.iaload, 1) := by decide +kernel
theorem dX11_post_77 : decode cX11_post 77 = .ok (.iload_n 1, 1) := by decide +kernel
theorem dX11_post_78 : decode cX11_post 78 = .ok (.if_icmp .ne 13, 3) := by decide +kernel
theorem dX11_post_81 : decode cX11_post 81 = .ok (.aload_n 0, 1) := by decide +kernel
theorem dX11_post_82 : decode cX11_post 82 = .ok (.getfield 55, 3) := by decide +kernel
theorem dX11_post_85 : decode cX11_post 85 = .ok (.iload_n 3, 1) := by decide +kernel
theorem dX11_post_86 : decode cX11_post 86 = .ok (.iaload, 1) := by decide +kernel
theorem dX11_post_87 : decode cX11_post 87 = .ok (.iload_n 2, 1) := by decide +kernel
theorem dX11_post_88 : decode cX11_post 88 = .ok (.if_icmp .eq 23, 3) := by decide +kernel
theorem dX11_post_91 : decode cX11_post 91 = .ok (.aload_n 0, 1) := by decide +kernel
theorem dX11_post_92 : decode cX11_post 92 = .ok (.getfield 52, 3) := by decide +kernel
theorem dX11_post_95 : decode cX11_post 95 = .ok (.iload_n 3, 1) := by decide +kernel
theorem dX11_post_96 : decode cX11_post 96 = .ok (.iaload, 1) := by decide +kernel
theorem dX11_post_97 : decode cX11_post 97 = .ok (.iload_n 2, 1) := by decide +kernel
theorem dX11_post_98 : decode cX11_post 98 = .ok (.if_icmp .ne 15, 3) := by decide +kernel
theorem dX11_post_101 : decode cX11_post 101 = .ok (.aload_n 0, 1) := by decide +kernel
theorem dX11_post_102 : decode cX11_post 102 = .ok (.getfield 55, 3) := by decide +kernel
theorem dX11_post_105 : decode cX11_post 105 = .ok (.iload_n 3, 1) := by decide +kernel
theorem dX11_post_106 : decode cX11_post 106 = .ok (.iaload, 1) := by decide +kernel
theorem dX11_post_107 : decode cX11_post 107 = .ok (.iload_n 1, 1) := by decide +kernel
theorem dX11_post_108 : decode cX11_post 108 = .ok (.if_icmp .ne 5, 3) := by decide +kernel
theorem dX11_post_111 : decode cX11_post 111 = .ok (.iconst (-1), 1) := by decide +kernel
theorem dX11_post_112 : decode cX11_post 112 = .ok (.ireturn, 1) := by decide +kernel
theorem dX11_post_113 : decode cX11_post 113 = .ok (.iinc 3 1, 3) := by decide +kernel
theorem dX11_post_116 : decode cX11_post 116 = .ok (.goto (-62), 3) := by decide +kernel
theorem dX11_post_119 : decode cX11_post 119 = .ok (.aload_n 0, 1) := by decide +kernel
theorem dX11_post_120 : decode cX11_post 120 = .ok (.getfield 52, 3) := by decide +kernel
theorem dX11_post_123 : decode cX11_post 123 = .ok (.aload_n 0, 1) := by decide +kernel
theorem dX11_post_124 : decode cX11_post 124 = .ok (.getfield 102, 3) := by decide +kernel
theorem dX11_post_127 : decode cX11_post 127 = .ok (.iload_n 1, 1) := by decide +kernel
theorem dX11_post_128 : decode cX11_post 128 = .ok (.iastore, 1) := by decide +kernel
theorem dX11_post_129 : decode cX11_post 129 = .ok (.aload_n 0, 1) := by decide +kernel
theorem dX11_post_130 : decode cX11_post 130 = .ok (.getfield 55, 3) := by decide +kernel
theorem dX11_post_133 : decode cX11_post 133 = .ok (.aload_n 0, 1) := by decide +kernel
theorem dX11_post_134 : decode cX11_post 134 = .ok (.getfield 102, 3) := by decide +kernel
theorem dX11_post_137 : decode cX11_post 137 = .ok (.iload_n 2, 1) := by decide +kernel
theorem dX11_post_138 : decode cX11_post 138 = .ok (.iastore, 1) := by decide +kernel
theorem dX11_post_139 : decode cX11_post 139 = .ok (.aload_n 0, 1) := by decide +kernel
theorem dX11_post_140 : decode cX11_post 140 = .ok (.getfield 58, 3) := by decide +kernel
theorem dX11_post_143 : decode cX11_post 143 = .ok (.aload_n 0, 1) := by decide +kernel
theorem dX11_post_144 : decode cX11_post 144 = .ok (.getfield 102, 3) := by decide +kernel
theorem dX11_post_147 : decode cX11_post 147 = .ok (.aload_n 0, 1) := by decide +kernel
theorem dX11_post_148 : decode cX11_post 148 = .ok (.getfield 114, 3) := by decide +kernel
theorem dX11_post_151 : decode cX11_post 151 = .ok (.iastore, 1) := by decide +kernel
theorem dX11_post_152 : decode cX11_post 152 = .ok (.aload_n 0, 1) := by decide +kernel
theorem dX11_post_153 : decode cX11_post 153 = .ok (.getfield 64, 3) := by decide +kernel
theorem dX11_post_156 : decode cX11_post 156 = .ok (.aload_n 0, 1) := by decide +kernel
theorem dX11_post_157 : decode cX11_post 157 = .ok (.getfield 102, 3) := by decide +kernel
theorem dX11_post_160 : decode cX11_post 160 = .ok (.iconst (-1), 1) := by decide +kernel
theorem dX11_post_161 : decode cX11_post 161 = .ok (.iastore, 1) := by decide +kernel
theorem dX11_post_162 : decode cX11_post 162 = .ok (.aload_n 0, 1) := by decide +kernel
theorem dX11_post_163 : decode cX11_post 163 = .ok (.getfield 67, 3) := by decide +kernel
theorem dX11_post_166 : decode cX11_post 166 = .ok (.aload_n 0, 1) := by decide +kernel
theorem dX11_post_167 : decode cX11_post 167 = .ok (.getfield 102, 3) := by decide +kernel
theorem dX11_post_170 : decode cX11_post 170 = .ok (.iconst (-1), 1) := by decide +kernel
theorem dX11_post_171 : decode cX11_post 171 = .ok (.iastore, 1) := by decide +kernel
theorem dX11_post_172 : decode cX11_post 172 = .ok (.aload_n 0, 1) := by decide +kernel
theorem dX11_post_173 : decode cX11_post 173 = .ok (.dup, 1) := by decide +kernel
theorem dX11_post_174 : decode cX11_post 174 = .ok (.getfield 102, 3) := by decide +kernel
theorem dX11_post_177 : decode cX11_post 177 = .ok (.iconst 1, 1) := by decide +kernel
theorem dX11_post_178 : decode cX11_post 178 = .ok (.iadd, 1) := by decide +kernel
theorem dX11_post_179 : decode cX11_post 179 = .ok (.putfield 102, 3) := by decide +kernel
theorem dX11_post_182 : decode cX11_post 182 = .ok (.aload_n 0, 1) := by decide +kernel
theorem dX11_post_183 : decode cX11_post 183 = .ok (.getfield 102, 3) := by decide +kernel
theorem dX11_post_186 : decode cX11_post 186 = .ok (.iconst 1, 1) := by decide +kernel
theorem dX11_post_187 : decode cX11_post 187 = .ok (.isub, 1) := by decide +kernel
theorem dX11_post_188 : decode cX11_post 188 = .ok (.ireturn, 1) := by decide +kernel
theorem dX11_withdraw_0 : decode cX11_withdraw 0 = .ok (.aload_n 0, 1) := by decide +kernel
theorem dX11_withdraw_1 : decode cX11_withdraw 1 = .ok (.iload_n 1, 1) := by decide +kernel
theorem dX11_withdraw_2 : decode cX11_withdraw 2 = .ok (.invokevirtual 162, 3) := by decide +kernel
theorem dX11_withdraw_5 : decode cX11_withdraw 5 = .ok (.ifCond .eq 12, 3) := by decide +kernel
theorem dX11_withdraw_8 : decode cX11_withdraw 8 = .ok (.aload_n 0, 1) := by decide +kernel
theorem dX11_withdraw_9 : decode cX11_withdraw 9 = .ok (.getfield 61, 3) := by decide +kernel
theorem dX11_withdraw_12 : decode cX11_withdraw 12 = .ok (.iload_n 1, 1) := by decide +kernel
theorem dX11_withdraw_13 : decode cX11_withdraw 13 = .ok (.iaload, 1) := by decide +kernel
theorem dX11_withdraw_14 : decode cX11_withdraw 14 = .ok (.ifCond .eq 5, 3) := by decide +kernel
theorem dX11_withdraw_17 : decode cX11_withdraw 17 = .ok (.iconst 0, 1) := by decide +kernel
theorem dX11_withdraw_18 : decode cX11_withdraw 18 = .ok (.ireturn, 1) := by decide +kernel
theorem dX11_withdraw_19 : decode cX11_withdraw 19 = .ok (.aload_n 0, 1) := by decide +kernel
theorem dX11_withdraw_20 : decode cX11_withdraw 20 = .ok (.getfield 61, 3) := by decide +kernel
theorem dX11_withdraw_23 : decode cX11_withdraw 23 = .ok (.iload_n 1, 1) := by decide +kernel
theorem dX11_withdraw_24 : decode cX11_withdraw 24 = .ok (.iconst 2, 1) := by decide +kernel
theorem dX11_withdraw_25 : decode cX11_withdraw 25 = .ok (.iastore, 1) := by decide +kernel
theorem dX11_withdraw_26 : decode cX11_withdraw 26 = .ok (.aload_n 0, 1) := by decide +kernel
theorem dX11_withdraw_27 : decode cX11_withdraw 27 = .ok (.getfield 64, 3) := by decide +kernel
theorem dX11_withdraw_30 : decode cX11_withdraw 30 = .ok (.iload_n 1, 1) := by decide +kernel
theorem dX11_withdraw_31 : decode cX11_withdraw 31 = .ok (.iconst (-1), 1) := by decide +kernel
theorem dX11_withdraw_32 : decode cX11_withdraw 32 = .ok (.iastore, 1) := by decide +kernel
theorem dX11_withdraw_33 : decode cX11_withdraw 33 = .ok (.aload_n 0, 1) := by decide +kernel
theorem dX11_withdraw_34 : decode cX11_withdraw 34 = .ok (.getfield 67, 3) := by decide +kernel
theorem dX11_withdraw_37 : decode cX11_withdraw 37 = .ok (.iload_n 1, 1) := by decide +kernel
theorem dX11_withdraw_38 : decode cX11_withdraw 38 = .ok (.iconst (-1), 1) := by decide +kernel
theorem dX11_withdraw_39 : decode cX11_withdraw 39 = .ok (.iastore, 1) := by decide +kernel
theorem dX11_withdraw_40 : decode cX11_withdraw 40 = .ok (.iconst 1, 1) := by decide +kernel
theorem dX11_withdraw_41 : decode cX11_withdraw 41 = .ok (.ireturn, 1) := by decide +kernel
theorem dX11_hungOf_0 : decode cX11_hungOf 0 = .ok (.iconst 0, 1) := by decide +kernel
theorem dX11_hungOf_1 : decode cX11_hungOf 1 = .ok (.istore_n 3, 1) := by decide +kernel
theorem dX11_hungOf_2 : decode cX11_hungOf 2 = .ok (.aload_n 0, 1) := by decide +kernel
theorem dX11_hungOf_3 : decode cX11_hungOf 3 = .ok (.getfield 58, 3) := by decide +kernel
theorem dX11_hungOf_6 : decode cX11_hungOf 6 = .ok (.iload_n 1, 1) := by decide +kernel
theorem dX11_hungOf_7 : decode cX11_hungOf 7 = .ok (.iaload, 1) := by decide +kernel
theorem dX11_hungOf_8 : decode cX11_hungOf 8 = .ok (.iconst 1, 1) := by decide +kernel
theorem dX11_hungOf_9 : decode cX11_hungOf 9 = .ok (.iadd, 1) := by decide +kernel
theorem dX11_hungOf_10 : decode cX11_hungOf 10 = .ok (.istore 4, 2) := by decide +kernel
theorem dX11_hungOf_12 : decode cX11_hungOf 12 = .ok (.iload 4, 2) := by decide +kernel
theorem dX11_hungOf_14 : decode cX11_hungOf 14 = .ok (.iload_n 2, 1) := by decide +kernel
theorem dX11_hungOf_15 : decode cX11_hungOf 15 = .ok (.if_icmp .ge 26, 3) := by decide +kernel
theorem dX11_hungOf_18 : decode cX11_hungOf 18 = .ok (.iload_n 3, 1) := by decide +kernel
theorem dX11_hungOf_19 : decode cX11_hungOf 19 = .ok (.aload_n 0, 1) := by decide +kernel
theorem dX11_hungOf_20 : decode cX11_hungOf 20 = .ok (.iload 4, 2) := by decide +kernel
theorem dX11_hungOf_22 : decode cX11_hungOf 22 = .ok (.invokevirtual 128, 3) := by decide +kernel
theorem dX11_hungOf_25 : decode cX11_hungOf 25 = .ok (.ifCond .eq 7, 3) := by decide +kernel
theorem dX11_hungOf_28 : decode cX11_hungOf 28 = .ok (.iconst 1, 1) := by decide +kernel
theorem dX11_hungOf_29 : decode cX11_hungOf 29 = .ok (.goto 4, 3) := by decide +kernel
theorem dX11_hungOf_32 : decode cX11_hungOf 32 = .ok (.iconst 0, 1) := by decide +kernel
theorem dX11_hungOf_33 : decode cX11_hungOf 33 = .ok (.iadd, 1) := by decide +kernel
theorem dX11_hungOf_34 : decode cX11_hungOf 34 = .ok (.istore_n 3, 1) := by decide +kernel
theorem dX11_hungOf_35 : decode cX11_hungOf 35 = .ok (.iinc 4 1, 3) := by decide +kernel
theorem dX11_hungOf_38 : decode cX11_hungOf 38 = .ok (.goto (-26), 3) := by decide +kernel
theorem dX11_hungOf_41 : decode cX11_hungOf 41 = .ok (.iload_n 3, 1) := by decide +kernel
theorem dX11_hungOf_42 : decode cX11_hungOf 42 = .ok (.ireturn, 1) := by decide +kernel
theorem dX11_hung_0 : decode cX11_hung 0 = .ok (.aload_n 0, 1) := by decide +kernel
theorem dX11_hung_1 : decode cX11_hung 1 = .ok (.iload_n 1, 1) := by decide +kernel
theorem dX11_hung_2 : decode cX11_hung 2 = .ok (.invokevirtual 162, 3) := by decide +kernel
theorem dX11_hung_5 : decode cX11_hung 5 = .ok (.ifCond .eq 23, 3) := by decide +kernel
theorem dX11_hung_8 : decode cX11_hung 8 = .ok (.iload_n 2, 1) := by decide +kernel
theorem dX11_hung_9 : decode cX11_hung 9 = .ok (.iconst 0, 1) := by decide +kernel
theorem dX11_hung_10 : decode cX11_hung 10 = .ok (.sipush 20000, 3) := by decide +kernel
theorem dX11_hung_13 : decode cX11_hung 13 = .ok (.invokestatic 98, 3) := by decide +kernel
theorem dX11_hung_16 : decode cX11_hung 16 = .ok (.ifCond .eq 12, 3) := by decide +kernel
theorem dX11_hung_19 : decode cX11_hung 19 = .ok (.aload_n 0, 1) := by decide +kernel
theorem dX11_hung_20 : decode cX11_hung 20 = .ok (.iload_n 1, 1) := by decide +kernel
theorem dX11_hung_21 : decode cX11_hung 21 = .ok (.iload_n 2, 1) := by decide +kernel
theorem dX11_hung_22 : decode cX11_hung 22 = .ok (.invokevirtual 165, 3) := by decide +kernel
theorem dX11_hung_25 : decode cX11_hung 25 = .ok (.goto 4, 3) := by decide +kernel
theorem dX11_hung_28 : decode cX11_hung 28 = .ok (.iconst (-1), 1) := by decide +kernel
theorem dX11_hung_29 : decode cX11_hung 29 = .ok (.ireturn, 1) := by decide +kernel
theorem dX11_wanted_0 : decode cX11_wanted 0 = .ok (.aload_n 0, 1) := by decide +kernel
theorem dX11_wanted_1 : decode cX11_wanted 1 = .ok (.aload_n 0, 1) := by decide +kernel
theorem dX11_wanted_2 : decode cX11_wanted 2 = .ok (.getfield 52, 3) := by decide +kernel
theorem dX11_wanted_5 : decode cX11_wanted 5 = .ok (.iload_n 1, 1) := by decide +kernel
theorem dX11_wanted_6 : decode cX11_wanted 6 = .ok (.iaload, 1) := by decide +kernel
theorem dX11_wanted_7 : decode cX11_wanted 7 = .ok (.iload_n 2, 1) := by decide +kernel
theorem dX11_wanted_8 : decode cX11_wanted 8 = .ok (.bipush 6, 2) := by decide +kernel
theorem dX11_wanted_10 : decode cX11_wanted 10 = .ok (.invokevirtual 124, 3) := by decide +kernel
theorem dX11_wanted_13 : decode cX11_wanted 13 = .ok (.aload_n 0, 1) := by decide +kernel
theorem dX11_wanted_14 : decode cX11_wanted 14 = .ok (.aload_n 0, 1) := by decide +kernel
theorem dX11_wanted_15 : decode cX11_wanted 15 = .ok (.getfield 55, 3) := by decide +kernel
theorem dX11_wanted_18 : decode cX11_wanted 18 = .ok (.iload_n 1, 1) := by decide +kernel
theorem dX11_wanted_19 : decode cX11_wanted 19 = .ok (.iaload, 1) := by decide +kernel
theorem dX11_wanted_20 : decode cX11_wanted 20 = .ok (.iload_n 2, 1) := by decide +kernel
theorem dX11_wanted_21 : decode cX11_wanted 21 = .ok (.bipush 6, 2) := by decide +kernel
theorem dX11_wanted_23 : decode cX11_wanted 23 = .ok (.invokevirtual 124, 3) := by decide +kernel
theorem dX11_wanted_26 : decode cX11_wanted 26 = .ok (.invokestatic 168, 3) := by decide +kernel
theorem dX11_wanted_29 : decode cX11_wanted 29 = .ok (.ireturn, 1) := by decide +kernel
theorem dX11_ripeOf_0 : decode cX11_ripeOf 0 = .ok (.iconst 0, 1) := by decide +kernel
theorem dX11_ripeOf_1 : decode cX11_ripeOf 1 = .ok (.istore_n 2, 1) := by decide +kernel
theorem dX11_ripeOf_2 : decode cX11_ripeOf 2 = .ok (.aload_n 0, 1) := by decide +kernel
theorem dX11_ripeOf_3 : decode cX11_ripeOf 3 = .ok (.getfield 58, 3) := by decide +kernel
theorem dX11_ripeOf_6 : decode cX11_ripeOf 6 = .ok (.iload_n 1, 1) := by decide +kernel
theorem dX11_ripeOf_7 : decode cX11_ripeOf 7 = .ok (.iaload, 1) := by decide +kernel
theorem dX11_ripeOf_8 : decode cX11_ripeOf 8 = .ok (.istore_n 3, 1) := by decide +kernel
theorem dX11_ripeOf_9 : decode cX11_ripeOf 9 = .ok (.iload_n 3, 1) := by decide +kernel
theorem dX11_ripeOf_10 : decode cX11_ripeOf 10 = .ok (.sipush 20000, 3) := by decide +kernel
theorem dX11_ripeOf_13 : decode cX11_ripeOf 13 = .ok (.if_icmp .gt 42, 3) := by decide +kernel
theorem dX11_ripeOf_16 : decode cX11_ripeOf 16 = .ok (.iload_n 2, 1) := by decide +kernel
theorem dX11_ripeOf_17 : decode cX11_ripeOf 17 = .ok (.aload_n 0, 1) := by decide +kernel
theorem dX11_ripeOf_18 : decode cX11_ripeOf 18 = .ok (.iload_n 1, 1) := by decide +kernel
theorem dX11_ripeOf_19 : decode cX11_ripeOf 19 = .ok (.iload_n 3, 1) := by decide +kernel
theorem dX11_ripeOf_20 : decode cX11_ripeOf 20 = .ok (.invokevirtual 171, 3) := by decide +kernel
theorem dX11_ripeOf_23 : decode cX11_ripeOf 23 = .ok (.if_icmp .lt 5, 3) := by decide +kernel
theorem dX11_ripeOf_26 : decode cX11_ripeOf 26 = .ok (.iload_n 3, 1) := by decide +kernel
theorem dX11_ripeOf_27 : decode cX11_ripeOf 27 = .ok (.ireturn, 1) := by decide +kernel
theorem dX11_ripeOf_28 : decode cX11_ripeOf 28 = .ok (.iload_n 3, 1) := by decide +kernel
theorem dX11_ripeOf_29 : decode cX11_ripeOf 29 = .ok (.aload_n 0, 1) := by decide +kernel
theorem dX11_ripeOf_30 : decode cX11_ripeOf 30 = .ok (.getfield 58, 3) := by decide +kernel
theorem dX11_ripeOf_33 : decode cX11_ripeOf 33 = .ok (.iload_n 1, 1) := by decide +kernel
theorem dX11_ripeOf_34 : decode cX11_ripeOf 34 = .ok (.iaload, 1) := by decide +kernel
theorem dX11_ripeOf_35 : decode cX11_ripeOf 35 = .ok (.if_icmp .le 14, 3) := by decide +kernel
theorem dX11_ripeOf_38 : decode cX11_ripeOf 38 = .ok (.aload_n 0, 1) := by decide +kernel
theorem dX11_ripeOf_39 : decode cX11_ripeOf 39 = .ok (.iload_n 3, 1) := by decide +kernel
theorem dX11_ripeOf_40 : decode cX11_ripeOf 40 = .ok (.invokevirtual 128, 3) := by decide +kernel
theorem dX11_ripeOf_43 : decode cX11_ripeOf 43 = .ok (.ifCond .eq 6, 3) := by decide +kernel
theorem dX11_ripeOf_46 : decode cX11_ripeOf 46 = .ok (.iinc 2 1, 3) := by decide +kernel
theorem dX11_ripeOf_49 : decode cX11_ripeOf 49 = .ok (.iinc 3 1, 3) := by decide +kernel
theorem dX11_ripeOf_52 : decode cX11_ripeOf 52 = .ok (.goto (-43), 3) := by decide +kernel
theorem dX11_ripeOf_55 : decode cX11_ripeOf 55 = .ok (.iconst (-1), 1) := by decide +kernel
theorem dX11_ripeOf_56 : decode cX11_ripeOf 56 = .ok (.ireturn, 1) := by decide +kernel
theorem dX11_ripe_0 : decode cX11_ripe 0 = .ok (.aload_n 0, 1) := by decide +kernel
theorem dX11_ripe_1 : decode cX11_ripe 1 = .ok (.iload_n 1, 1) := by decide +kernel
theorem dX11_ripe_2 : decode cX11_ripe 2 = .ok (.invokevirtual 162, 3) := by decide +kernel
theorem dX11_ripe_5 : decode cX11_ripe 5 = .ok (.ifCond .eq 11, 3) := by decide +kernel
theorem dX11_ripe_8 : decode cX11_ripe 8 = .ok (.aload_n 0, 1) := by decide +kernel
theorem dX11_ripe_9 : decode cX11_ripe 9 = .ok (.iload_n 1, 1) := by decide +kernel
theorem dX11_ripe_10 : decode cX11_ripe 10 = .ok (.invokevirtual 174, 3) := by decide +kernel
theorem dX11_ripe_13 : decode cX11_ripe 13 = .ok (.goto 4, 3) := by decide +kernel
theorem dX11_ripe_16 : decode cX11_ripe 16 = .ok (.iconst (-1), 1) := by decide +kernel
theorem dX11_ripe_17 : decode cX11_ripe 17 = .ok (.ireturn, 1) := by decide +kernel
theorem dX11_objected_0 : decode cX11_objected 0 = .ok (.iconst 0, 1) := by decide +kernel
theorem dX11_objected_1 : decode cX11_objected 1 = .ok (.istore_n 2, 1) := by decide +kernel
theorem dX11_objected_2 : decode cX11_objected 2 = .ok (.iconst 0, 1) := by decide +kernel
theorem dX11_objected_3 : decode cX11_objected 3 = .ok (.istore_n 3, 1) := by decide +kernel
theorem dX11_objected_4 : decode cX11_objected 4 = .ok (.iload_n 3, 1) := by decide +kernel
theorem dX11_objected_5 : decode cX11_objected 5 = .ok (.aload_n 0, 1) := by decide +kernel
theorem dX11_objected_6 : decode cX11_objected 6 = .ok (.getfield 178, 3) := by decide +kernel
theorem dX11_objected_9 : decode cX11_objected 9 = .ok (.if_icmp .ge 37, 3) := by decide +kernel
theorem dX11_objected_12 : decode cX11_objected 12 = .ok (.iload_n 2, 1) := by decide +kernel
theorem dX11_objected_13 : decode cX11_objected 13 = .ok (.aload_n 0, 1) := by decide +kernel
theorem dX11_objected_14 : decode cX11_objected 14 = .ok (.getfield 70, 3) := by decide +kernel
theorem dX11_objected_17 : decode cX11_objected 17 = .ok (.iload_n 3, 1) := by decide +kernel
theorem dX11_objected_18 : decode cX11_objected 18 = .ok (.iaload, 1) := by decide +kernel
theorem dX11_objected_19 : decode cX11_objected 19 = .ok (.iload_n 1, 1) := by decide +kernel
theorem dX11_objected_20 : decode cX11_objected 20 = .ok (.if_icmp .ne 17, 3) := by decide +kernel
theorem dX11_objected_23 : decode cX11_objected 23 = .ok (.aload_n 0, 1) := by decide +kernel
theorem dX11_objected_24 : decode cX11_objected 24 = .ok (.getfield 73, 3) := by decide +kernel
theorem dX11_objected_27 : decode cX11_objected 27 = .ok (.iload_n 3, 1) := by decide +kernel
theorem dX11_objected_28 : decode cX11_objected 28 = .ok (.iaload, 1) := by decide +kernel
theorem dX11_objected_29 : decode cX11_objected 29 = .ok (.iconst 2, 1) := by decide +kernel
theorem dX11_objected_30 : decode cX11_objected 30 = .ok (.if_icmp .ge 7, 3) := by decide +kernel
theorem dX11_objected_33 : decode cX11_objected 33 = .ok (.iconst 1, 1) := by decide +kernel
theorem dX11_objected_34 : decode cX11_objected 34 = .ok (.goto 4, 3) := by decide +kernel
theorem dX11_objected_37 : decode cX11_objected 37 = .ok (.iconst 0, 1) := by decide +kernel
theorem dX11_objected_38 : decode cX11_objected 38 = .ok (.iadd, 1) := by decide +kernel
theorem dX11_objected_39 : decode cX11_objected 39 = .ok (.istore_n 2, 1) := by decide +kernel
theorem dX11_objected_40 : decode cX11_objected 40 = .ok (.iinc 3 1, 3) := by decide +kernel
theorem dX11_objected_43 : decode cX11_objected 43 = .ok (.goto (-39), 3) := by decide +kernel
theorem dX11_objected_46 : decode cX11_objected 46 = .ok (.iload_n 2, 1) := by decide +kernel
theorem dX11_objected_47 : decode cX11_objected 47 = .ok (.ireturn, 1) := by decide +kernel
theorem dX11_isRipe_0 : decode cX11_isRipe 0 = .ok (.aload_n 0, 1) := by decide +kernel
theorem dX11_isRipe_1 : decode cX11_isRipe 1 = .ok (.iload_n 1, 1) := by decide +kernel
theorem dX11_isRipe_2 : decode cX11_isRipe 2 = .ok (.iload_n 2, 1) := by decide +kernel
theorem dX11_isRipe_3 : decode cX11_isRipe 3 = .ok (.invokevirtual 165, 3) := by decide +kernel
theorem dX11_isRipe_6 : decode cX11_isRipe 6 = .ok (.aload_n 0, 1) := by decide +kernel
theorem dX11_isRipe_7 : decode cX11_isRipe 7 = .ok (.iload_n 1, 1) := by decide +kernel
theorem dX11_isRipe_8 : decode cX11_isRipe 8 = .ok (.iload_n 2, 1) := by decide +kernel
theorem dX11_isRipe_9 : decode cX11_isRipe 9 = .ok (.invokevirtual 171, 3) := by decide +kernel
theorem dX11_isRipe_12 : decode cX11_isRipe 12 = .ok (.if_icmp .lt 15, 3) := by decide +kernel
theorem dX11_isRipe_15 : decode cX11_isRipe 15 = .ok (.aload_n 0, 1) := by decide +kernel
theorem dX11_isRipe_16 : decode cX11_isRipe 16 = .ok (.iload_n 1, 1) := by decide +kernel
theorem dX11_isRipe_17 : decode cX11_isRipe 17 = .ok (.invokevirtual 181, 3) := by decide +kernel
theorem dX11_isRipe_20 : decode cX11_isRipe 20 = .ok (.ifCond .ne 7, 3) := by decide +kernel
theorem dX11_isRipe_23 : decode cX11_isRipe 23 = .ok (.iconst 1, 1) := by decide +kernel
theorem dX11_isRipe_24 : decode cX11_isRipe 24 = .ok (.goto 4, 3) := by decide +kernel
theorem dX11_isRipe_27 : decode cX11_isRipe 27 = .ok (.iconst 0, 1) := by decide +kernel
theorem dX11_isRipe_28 : decode cX11_isRipe 28 = .ok (.ireturn, 1) := by decide +kernel
theorem dX11_object_0 : decode cX11_object 0 = .ok (.aload_n 0, 1) := by decide +kernel
theorem dX11_object_1 : decode cX11_object 1 = .ok (.iload_n 1, 1) := by decide +kernel
theorem dX11_object_2 : decode cX11_object 2 = .ok (.invokevirtual 162, 3) := by decide +kernel
theorem dX11_object_5 : decode cX11_object 5 = .ok (.ifCond .eq 21, 3) := by decide +kernel
theorem dX11_object_8 : decode cX11_object 8 = .ok (.aload_n 0, 1) := by decide +kernel
theorem dX11_object_9 : decode cX11_object 9 = .ok (.getfield 61, 3) := by decide +kernel
theorem dX11_object_12 : decode cX11_object 12 = .ok (.iload_n 1, 1) := by decide +kernel
theorem dX11_object_13 : decode cX11_object 13 = .ok (.iaload, 1) := by decide +kernel
theorem dX11_object_14 : decode cX11_object 14 = .ok (.ifCond .ne 12, 3) := by decide +kernel
theorem dX11_object_17 : decode cX11_object 17 = .ok (.aload_n 0, 1) := by decide +kernel
theorem dX11_object_18 : decode cX11_object 18 = .ok (.getfield 178, 3) := by decide +kernel
theorem dX11_object_21 : decode cX11_object 21 = .ok (.bipush 60, 2) := by decide +kernel
theorem dX11_object_23 : decode cX11_object 23 = .ok (.if_icmp .ne 5, 3) := by decide +kernel
theorem dX11_object_26 : decode cX11_object 26 = .ok (.iconst (-1), 1) := by decide +kernel
theorem dX11_object_27 : decode cX11_object 27 = .ok (.ireturn, 1) := by decide +kernel
theorem dX11_object_28 : decode cX11_object 28 = .ok (.aload_n 0, 1) := by decide +kernel
theorem dX11_object_29 : decode cX11_object 29 = .ok (.iload_n 1, 1) := by decide +kernel
theorem dX11_object_30 : decode cX11_object 30 = .ok (.invokevirtual 174, 3) := by decide +kernel
theorem dX11_object_33 : decode cX11_object 33 = .ok (.istore_n 2, 1) := by decide +kernel
theorem dX11_object_34 : decode cX11_object 34 = .ok (.iload_n 2, 1) := by decide +kernel
theorem dX11_object_35 : decode cX11_object 35 = .ok (.iconst (-1), 1) := by decide +kernel
theorem dX11_object_36 : decode cX11_object 36 = .ok (.if_icmp .eq 13, 3) := by decide +kernel
theorem dX11_object_39 : decode cX11_object 39 = .ok (.aload_n 0, 1) := by decide +kernel
theorem dX11_object_40 : decode cX11_object 40 = .ok (.getfield 114, 3) := by decide +kernel
theorem dX11_object_43 : decode cX11_object 43 = .ok (.iload_n 2, 1) := by decide +kernel
theorem dX11_object_44 : decode cX11_object 44 = .ok (.if_icmp .lt 5, 3) := by decide +kernel
theorem dX11_object_47 : decode cX11_object 47 = .ok (.iconst (-1), 1) := by decide +kernel
theorem dX11_object_48 : decode cX11_object 48 = .ok (.ireturn, 1) := by decide +kernel
theorem dX11_object_49 : decode cX11_object 49 = .ok (.aload_n 0, 1) := by decide +kernel
theorem dX11_object_50 : decode cX11_object 50 = .ok (.getfield 70, 3) := by decide +kernel
theorem dX11_object_53 : decode cX11_object 53 = .ok (.aload_n 0, 1) := by decide +kernel
theorem dX11_object_54 : decode cX11_object 54 = .ok (.getfield 178, 3) := by decide +kernel
theorem dX11_object_57 : decode cX11_object 57 = .ok (.iload_n 1, 1) := by decide +kernel
theorem dX11_object_58 : decode cX11_object 58 = .ok (.iastore, 1) := by decide +kernel
theorem dX11_object_59 : decode cX11_object 59 = .ok (.aload_n 0, 1) := by decide +kernel
theorem dX11_object_60 : decode cX11_object 60 = .ok (.dup, 1) := by decide +kernel
theorem dX11_object_61 : decode cX11_object 61 = .ok (.getfield 178, 3) := by decide +kernel
theorem dX11_object_64 : decode cX11_object 64 = .ok (.iconst 1, 1) := by decide +kernel
theorem dX11_object_65 : decode cX11_object 65 = .ok (.iadd, 1) := by decide +kernel
theorem dX11_object_66 : decode cX11_object 66 = .ok (.putfield 178, 3) := by decide +kernel
theorem dX11_object_69 : decode cX11_object 69 = .ok (.aload_n 0, 1) := by decide +kernel
theorem dX11_object_70 : decode cX11_object 70 = .ok (.getfield 178, 3) := by decide +kernel
theorem dX11_object_73 : decode cX11_object 73 = .ok (.iconst 1, 1) := by decide +kernel
theorem dX11_object_74 : decode cX11_object 74 = .ok (.isub, 1) := by decide +kernel
theorem dX11_object_75 : decode cX11_object 75 = .ok (.ireturn, 1) := by decide +kernel
theorem dX11_judge_0 : decode cX11_judge 0 = .ok (.iload_n 1, 1) := by decide +kernel
theorem dX11_judge_1 : decode cX11_judge 1 = .ok (.iconst 0, 1) := by decide +kernel
theorem dX11_judge_2 : decode cX11_judge 2 = .ok (.aload_n 0, 1) := by decide +kernel
theorem dX11_judge_3 : decode cX11_judge 3 = .ok (.getfield 178, 3) := by decide +kernel
theorem dX11_judge_6 : decode cX11_judge 6 = .ok (.iconst 1, 1) := by decide +kernel
theorem dX11_judge_7 : decode cX11_judge 7 = .ok (.isub, 1) := by decide +kernel
theorem dX11_judge_8 : decode cX11_judge 8 = .ok (.invokestatic 98, 3) := by decide +kernel
theorem dX11_judge_11 : decode cX11_judge 11 = .ok (.ifCond .eq 12, 3) := by decide +kernel
theorem dX11_judge_14 : decode cX11_judge 14 = .ok (.aload_n 0, 1) := by decide +kernel
theorem dX11_judge_15 : decode cX11_judge 15 = .ok (.getfield 73, 3) := by decide +kernel
theorem dX11_judge_18 : decode cX11_judge 18 = .ok (.iload_n 1, 1) := by decide +kernel
theorem dX11_judge_19 : decode cX11_judge 19 = .ok (.iaload, 1) := by decide +kernel
theorem dX11_judge_20 : decode cX11_judge 20 = .ok (.ifCond .eq 5, 3) := by decide +kernel
theorem dX11_judge_23 : decode cX11_judge 23 = .ok (.iconst 0, 1) := by decide +kernel
theorem dX11_judge_24 : decode cX11_judge 24 = .ok (.ireturn, 1) := by decide +kernel
theorem dX11_judge_25 : decode cX11_judge 25 = .ok (.aload_n 0, 1) := by decide +kernel
theorem dX11_judge_26 : decode cX11_judge 26 = .ok (.getfield 73, 3) := by decide +kernel
theorem dX11_judge_29 : decode cX11_judge 29 = .ok (.iload_n 1, 1) := by decide +kernel
theorem dX11_judge_30 : decode cX11_judge 30 = .ok (.iload_n 2, 1) := by decide +kernel
theorem dX11_judge_31 : decode cX11_judge 31 = .ok (.ifCond .eq 7, 3) := by decide +kernel
theorem dX11_judge_34 : decode cX11_judge 34 = .ok (.iconst 1, 1) := by decide +kernel
theorem dX11_judge_35 : decode cX11_judge 35 = .ok (.goto 4, 3) := by decide +kernel
theorem dX11_judge_38 : decode cX11_judge 38 = .ok (.iconst 2, 1) := by decide +kernel
theorem dX11_judge_39 : decode cX11_judge 39 = .ok (.iastore, 1) := by decide +kernel
theorem dX11_judge_40 : decode cX11_judge 40 = .ok (.iconst 1, 1) := by decide +kernel
theorem dX11_judge_41 : decode cX11_judge 41 = .ok (.ireturn, 1) := by decide +kernel
theorem dX11_registrar_0 : decode cX11_registrar 0 = .ok (.iload_n 1, 1) := by decide +kernel
theorem dX11_registrar_1 : decode cX11_registrar 1 = .ok (.iconst 0, 1) := by decide +kernel
theorem dX11_registrar_2 : decode cX11_registrar 2 = .ok (.bipush 31, 2) := by decide +kernel
theorem dX11_registrar_4 : decode cX11_registrar 4 = .ok (.invokestatic 98, 3) := by decide +kernel
theorem dX11_registrar_7 : decode cX11_registrar 7 = .ok (.ifCond .eq 12, 3) := by decide +kernel
theorem dX11_registrar_10 : decode cX11_registrar 10 = .ok (.aload_n 0, 1) := by decide +kernel
theorem dX11_registrar_11 : decode cX11_registrar 11 = .ok (.getfield 184, 3) := by decide +kernel
theorem dX11_registrar_14 : decode cX11_registrar 14 = .ok (.bipush 6, 2) := by decide +kernel
theorem dX11_registrar_16 : decode cX11_registrar 16 = .ok (.if_icmp .ne 5, 3) := by decide +kernel
theorem dX11_registrar_19 : decode cX11_registrar 19 = .ok (.iconst (-1), 1) := by decide +kernel
theorem dX11_registrar_20 : decode cX11_registrar 20 = .ok (.ireturn, 1) := by decide +kernel
theorem dX11_registrar_21 : decode cX11_registrar 21 = .ok (.aload_n 0, 1) := by decide +kernel
theorem dX11_registrar_22 : decode cX11_registrar 22 = .ok (.getfield 76, 3) := by decide +kernel
theorem dX11_registrar_25 : decode cX11_registrar 25 = .ok (.aload_n 0, 1) := by decide +kernel
theorem dX11_registrar_26 : decode cX11_registrar 26 = .ok (.getfield 184, 3) := by decide +kernel
theorem dX11_registrar_29 : decode cX11_registrar 29 = .ok (.iload_n 1, 1) := by decide +kernel
theorem dX11_registrar_30 : decode cX11_registrar 30 = .ok (.iastore, 1) := by decide +kernel
theorem dX11_registrar_31 : decode cX11_registrar 31 = .ok (.aload_n 0, 1) := by decide +kernel
theorem dX11_registrar_32 : decode cX11_registrar 32 = .ok (.dup, 1) := by decide +kernel
theorem dX11_registrar_33 : decode cX11_registrar 33 = .ok (.getfield 184, 3) := by decide +kernel
theorem dX11_registrar_36 : decode cX11_registrar 36 = .ok (.iconst 1, 1) := by decide +kernel
theorem dX11_registrar_37 : decode cX11_registrar 37 = .ok (.iadd, 1) := by decide +kernel
theorem dX11_registrar_38 : decode cX11_registrar 38 = .ok (.putfield 184, 3) := by decide +kernel
theorem dX11_registrar_41 : decode cX11_registrar 41 = .ok (.aload_n 0, 1) := by decide +kernel
theorem dX11_registrar_42 : decode cX11_registrar 42 = .ok (.getfield 184, 3) := by decide +kernel
theorem dX11_registrar_45 : decode cX11_registrar 45 = .ok (.iconst 1, 1) := by decide +kernel
theorem dX11_registrar_46 : decode cX11_registrar 46 = .ok (.isub, 1) := by decide +kernel
theorem dX11_registrar_47 : decode cX11_registrar 47 = .ok (.ireturn, 1) := by decide +kernel
theorem dX11_bars_0 : decode cX11_bars 0 = .ok (.aload_n 0, 1) := by decide +kernel
theorem dX11_bars_1 : decode cX11_bars 1 = .ok (.getfield 61, 3) := by decide +kernel
theorem dX11_bars_4 : decode cX11_bars 4 = .ok (.iload_n 1, 1) := by decide +kernel
theorem dX11_bars_5 : decode cX11_bars 5 = .ok (.iaload, 1) := by decide +kernel
theorem dX11_bars_6 : decode cX11_bars 6 = .ok (.ifCond .eq 5, 3) := by decide +kernel
theorem dX11_bars_9 : decode cX11_bars 9 = .ok (.iconst 1, 1) := by decide +kernel
theorem dX11_bars_10 : decode cX11_bars 10 = .ok (.ireturn, 1) := by decide +kernel
theorem dX11_bars_11 : decode cX11_bars 11 = .ok (.aload_n 0, 1) := by decide +kernel
theorem dX11_bars_12 : decode cX11_bars 12 = .ok (.iload_n 2, 1) := by decide +kernel
theorem dX11_bars_13 : decode cX11_bars 13 = .ok (.invokevirtual 128, 3) := by decide +kernel
theorem dX11_bars_16 : decode cX11_bars 16 = .ok (.ifCond .ne 5, 3) := by decide +kernel
theorem dX11_bars_19 : decode cX11_bars 19 = .ok (.iconst 2, 1) := by decide +kernel
theorem dX11_bars_20 : decode cX11_bars 20 = .ok (.ireturn, 1) := by decide +kernel
theorem dX11_bars_21 : decode cX11_bars 21 = .ok (.aload_n 0, 1) := by decide +kernel
theorem dX11_bars_22 : decode cX11_bars 22 = .ok (.iload_n 1, 1) := by decide +kernel
theorem dX11_bars_23 : decode cX11_bars 23 = .ok (.iload_n 2, 1) := by decide +kernel
theorem dX11_bars_24 : decode cX11_bars 24 = .ok (.invokevirtual 187, 3) := by decide +kernel
theorem dX11_bars_27 : decode cX11_bars 27 = .ok (.ifCond .ne 5, 3) := by decide +kernel
theorem dX11_bars_30 : decode cX11_bars 30 = .ok (.iconst 3, 1) := by decide +kernel
theorem dX11_bars_31 : decode cX11_bars 31 = .ok (.ireturn, 1) := by decide +kernel
theorem dX11_bars_32 : decode cX11_bars 32 = .ok (.bipush 8, 2) := by decide +kernel
theorem dX11_bars_34 : decode cX11_bars 34 = .ok (.istore 6, 2) := by decide +kernel
theorem dX11_bars_36 : decode cX11_bars 36 = .ok (.iconst 0, 1) := by decide +kernel
theorem dX11_bars_37 : decode cX11_bars 37 = .ok (.istore 7, 2) := by decide +kernel
theorem dX11_bars_39 : decode cX11_bars 39 = .ok (.iload 7, 2) := by decide +kernel
theorem dX11_bars_41 : decode cX11_bars 41 = .ok (.aload_n 0, 1) := by decide +kernel
theorem dX11_bars_42 : decode cX11_bars 42 = .ok (.getfield 102, 3) := by decide +kernel
theorem dX11_bars_45 : decode cX11_bars 45 = .ok (.if_icmp .ge 149, 3) := by decide +kernel
theorem dX11_bars_48 : decode cX11_bars 48 = .ok (.iload 7, 2) := by decide +kernel
theorem dX11_bars_50 : decode cX11_bars 50 = .ok (.iload_n 1, 1) := by decide +kernel
theorem dX11_bars_51 : decode cX11_bars 51 = .ok (.if_icmp .eq 137, 3) := by decide +kernel
theorem dX11_bars_54 : decode cX11_bars 54 = .ok (.aload_n 0, 1) := by decide +kernel
theorem dX11_bars_55 : decode cX11_bars 55 = .ok (.getfield 64, 3) := by decide +kernel
theorem dX11_bars_58 : decode cX11_bars 58 = .ok (.iload 7, 2) := by decide +kernel
theorem dX11_bars_60 : decode cX11_bars 60 = .ok (.iaload, 1) := by decide +kernel
theorem dX11_bars_61 : decode cX11_bars 61 = .ok (.iload_n 2, 1) := by decide +kernel
theorem dX11_bars_62 : decode cX11_bars 62 = .ok (.if_icmp .eq 6, 3) := by decide +kernel
theorem dX11_bars_65 : decode cX11_bars 65 = .ok (.goto 123, 3) := by decide +kernel
theorem dX11_bars_68 : decode cX11_bars 68 = .ok (.aload_n 0, 1) := by decide +kernel
theorem dX11_bars_69 : decode cX11_bars 69 = .ok (.getfield 67, 3) := by decide +kernel
theorem dX11_bars_72 : decode cX11_bars 72 = .ok (.iload 7, 2) := by decide +kernel
theorem dX11_bars_74 : decode cX11_bars 74 = .ok (.iaload, 1) := by decide +kernel
theorem dX11_bars_75 : decode cX11_bars 75 = .ok (.bipush 100, 2) := by decide +kernel
theorem dX11_bars_77 : decode cX11_bars 77 = .ok (.idiv, 1) := by decide +kernel
theorem dX11_bars_78 : decode cX11_bars 78 = .ok (.istore 8, 2) := by decide +kernel
theorem dX11_bars_80 : decode cX11_bars 80 = .ok (.aload_n 0, 1) := by decide +kernel
theorem dX11_bars_81 : decode cX11_bars 81 = .ok (.getfield 67, 3) := by decide +kernel
theorem dX11_bars_84 : decode cX11_bars 84 = .ok (.iload 7, 2) := by decide +kernel
theorem dX11_bars_86 : decode cX11_bars 86 = .ok (.iaload, 1) := by decide +kernel
theorem dX11_bars_87 : decode cX11_bars 87 = .ok (.bipush 10, 2) := by decide +kernel
theorem dX11_bars_89 : decode cX11_bars 89 = .ok (.idiv, 1) := by decide +kernel
theorem dX11_bars_90 : decode cX11_bars 90 = .ok (.bipush 10, 2) := by decide +kernel
theorem dX11_bars_92 : decode cX11_bars 92 = .ok (.irem, 1) := by decide +kernel
theorem dX11_bars_93 : decode cX11_bars 93 = .ok (.istore 9, 2) := by decide +kernel
theorem dX11_bars_95 : decode cX11_bars 95 = .ok (.aload_n 0, 1) := by decide +kernel
theorem dX11_bars_96 : decode cX11_bars 96 = .ok (.getfield 67, 3) := by decide +kernel
theorem dX11_bars_99 : decode cX11_bars 99 = .ok (.iload 7, 2) := by decide +kernel
theorem dX11_bars_101 : decode cX11_bars 101 = .ok (.iaload, 1) := by decide +kernel
theorem dX11_bars_102 : decode cX11_bars 102 = .ok (.bipush 10, 2) := by decide +kernel
theorem dX11_bars_104 : decode cX11_bars 104 = .ok (.irem, 1) := by decide +kernel
theorem dX11_bars_105 : decode cX11_bars 105 = .ok (.istore 10, 2) := by decide +kernel
theorem dX11_bars_107 : decode cX11_bars 107 = .ok (.iload 8, 2) := by decide +kernel
theorem dX11_bars_109 : decode cX11_bars 109 = .ok (.iload_n 3, 1) := by decide +kernel
theorem dX11_bars_110 : decode cX11_bars 110 = .ok (.if_icmp .ne 18, 3) := by decide +kernel
theorem dX11_bars_113 : decode cX11_bars 113 = .ok (.iload 9, 2) := by decide +kernel
theorem dX11_bars_115 : decode cX11_bars 115 = .ok (.iload 4, 2) := by decide +kernel
theorem dX11_bars_117 : decode cX11_bars 117 = .ok (.if_icmp .ne 11, 3) := by decide +kernel
theorem dX11_bars_120 : decode cX11_bars 120 = .ok (.iload 6, 2) := by decide +kernel
theorem dX11_bars_122 : decode cX11_bars 122 = .ok (.iconst 4, 1) := by decide +kernel
theorem dX11_bars_123 : decode cX11_bars 123 = .ok (.invokestatic 131, 3) := by decide +kernel
theorem dX11_bars_126 : decode cX11_bars 126 = .ok (.istore 6, 2) := by decide +kernel
theorem dX11_bars_128 : decode cX11_bars 128 = .ok (.iload 8, 2) := by decide +kernel
theorem dX11_bars_130 : decode cX11_bars 130 = .ok (.iload_n 3, 1) := by decide +kernel
theorem dX11_bars_131 : decode cX11_bars 131 = .ok (.if_icmp .ne 18, 3) := by decide +kernel
theorem dX11_bars_134 : decode cX11_bars 134 = .ok (.iload 10, 2) := by decide +kernel
theorem dX11_bars_136 : decode cX11_bars 136 = .ok (.iload 5, 2) := by decide +kernel
theorem dX11_bars_138 : decode cX11_bars 138 = .ok (.if_icmp .ne 11, 3) := by decide +kernel
theorem dX11_bars_141 : decode cX11_bars 141 = .ok (.iload 6, 2) := by decide +kernel
theorem dX11_bars_143 : decode cX11_bars 143 = .ok (.iconst 5, 1) := by decide +kernel
theorem dX11_bars_144 : decode cX11_bars 144 = .ok (.invokestatic 131, 3) := by decide +kernel
theorem dX11_bars_147 : decode cX11_bars 147 = .ok (.istore 6, 2) := by decide +kernel
theorem dX11_bars_149 : decode cX11_bars 149 = .ok (.iload 8, 2) := by decide +kernel
theorem dX11_bars_151 : decode cX11_bars 151 = .ok (.iload_n 3, 1) := by decide +kernel
theorem dX11_bars_152 : decode cX11_bars 152 = .ok (.iconst 1, 1) := by decide +kernel
theorem dX11_bars_153 : decode cX11_bars 153 = .ok (.isub, 1) := by decide +kernel
theorem dX11_bars_154 : decode cX11_bars 154 = .ok (.if_icmp .eq 11, 3) := by decide +kernel
theorem dX11_bars_157 : decode cX11_bars 157 = .ok (.iload 8, 2) := by decide +kernel
theorem dX11_bars_159 : decode cX11_bars 159 = .ok (.iload_n 3, 1) := by decide +kernel
theorem dX11_bars_160 : decode cX11_bars 160 = .ok (.iconst 1, 1) := by decide +kernel
theorem dX11_bars_161 : decode cX11_bars 161 = .ok (.iadd, 1) := by decide +kernel
theorem dX11_bars_162 : decode cX11_bars 162 = .ok (.if_icmp .ne 26, 3) := by decide +kernel
theorem dX11_bars_165 : decode cX11_bars 165 = .ok (.iload 10, 2) := by decide +kernel
theorem dX11_bars_167 : decode cX11_bars 167 = .ok (.iload 5, 2) := by decide +kernel
theorem dX11_bars_169 : decode cX11_bars 169 = .ok (.if_icmp .ne 19, 3) := by decide +kernel
theorem dX11_bars_172 : decode cX11_bars 172 = .ok (.iload 9, 2) := by decide +kernel
theorem dX11_bars_174 : decode cX11_bars 174 = .ok (.iload 4, 2) := by decide +kernel
theorem dX11_bars_176 : decode cX11_bars 176 = .ok (.if_icmp .eq 12, 3) := by decide +kernel
theorem dX11_bars_179 : decode cX11_bars 179 = .ok (.iload 6, 2) := by decide +kernel
theorem dX11_bars_181 : decode cX11_bars 181 = .ok (.bipush 6, 2) := by decide +kernel
theorem dX11_bars_183 : decode cX11_bars 183 = .ok (.invokestatic 131, 3) := by decide +kernel
theorem dX11_bars_186 : decode cX11_bars 186 = .ok (.istore 6, 2) := by decide +kernel
theorem dX11_bars_188 : decode cX11_bars 188 = .ok (.iinc 7 1, 3) := by decide +kernel
theorem dX11_bars_191 : decode cX11_bars 191 = .ok (.goto (-152), 3) := by decide +kernel
theorem dX11_bars_194 : decode cX11_bars 194 = .ok (.aload_n 0, 1) := by decide +kernel
theorem dX11_bars_195 : decode cX11_bars 195 = .ok (.getfield 76, 3) := by decide +kernel
theorem dX11_bars_198 : decode cX11_bars 198 = .ok (.iload 5, 2) := by decide +kernel
theorem dX11_bars_200 : decode cX11_bars 200 = .ok (.iaload, 1) := by decide +kernel
theorem dX11_bars_201 : decode cX11_bars 201 = .ok (.aload_n 0, 1) := by decide +kernel
theorem dX11_bars_202 : decode cX11_bars 202 = .ok (.getfield 30, 3) := by decide +kernel
theorem dX11_bars_205 : decode cX11_bars 205 = .ok (.aload_n 0, 1) := by decide +kernel
theorem dX11_bars_206 : decode cX11_bars 206 = .ok (.getfield 52, 3) := by decide +kernel
theorem dX11_bars_209 : decode cX11_bars 209 = .ok (.iload_n 1, 1) := by decide +kernel
theorem dX11_bars_210 : decode cX11_bars 210 = .ok (.iaload, 1) := by decide +kernel
theorem dX11_bars_211 : decode cX11_bars 211 = .ok (.iaload, 1) := by decide +kernel
theorem dX11_bars_212 : decode cX11_bars 212 = .ok (.iand, 1) := by decide +kernel
theorem dX11_bars_213 : decode cX11_bars 213 = .ok (.ifCond .eq 25, 3) := by decide +kernel
theorem dX11_bars_216 : decode cX11_bars 216 = .ok (.aload_n 0, 1) := by decide +kernel
theorem dX11_bars_217 : decode cX11_bars 217 = .ok (.getfield 76, 3) := by decide +kernel
theorem dX11_bars_220 : decode cX11_bars 220 = .ok (.iload 5, 2) := by decide +kernel
theorem dX11_bars_222 : decode cX11_bars 222 = .ok (.iaload, 1) := by decide +kernel
theorem dX11_bars_223 : decode cX11_bars 223 = .ok (.aload_n 0, 1) := by decide +kernel
theorem dX11_bars_224 : decode cX11_bars 224 = .ok (.getfield 30, 3) := by decide +kernel
theorem dX11_bars_227 : decode cX11_bars 227 = .ok (.aload_n 0, 1) := by decide +kernel
theorem dX11_bars_228 : decode cX11_bars 228 = .ok (.getfield 55, 3) := by decide +kernel
theorem dX11_bars_231 : decode cX11_bars 231 = .ok (.iload_n 1, 1) := by decide +kernel
theorem dX11_bars_232 : decode cX11_bars 232 = .ok (.iaload, 1) := by decide +kernel
theorem dX11_bars_233 : decode cX11_bars 233 = .ok (.iaload, 1) := by decide +kernel
theorem dX11_bars_234 : decode cX11_bars 234 = .ok (.iand, 1) := by decide +kernel
theorem dX11_bars_235 : decode cX11_bars 235 = .ok (.ifCond .ne 12, 3) := by decide +kernel
theorem dX11_bars_238 : decode cX11_bars 238 = .ok (.iload 6, 2) := by decide +kernel
theorem dX11_bars_240 : decode cX11_bars 240 = .ok (.bipush 7, 2) := by decide +kernel
theorem dX11_bars_242 : decode cX11_bars 242 = .ok (.invokestatic 131, 3) := by decide +kernel
theorem dX11_bars_245 : decode cX11_bars 245 = .ok (.istore 6, 2) := by decide +kernel
theorem dX11_bars_247 : decode cX11_bars 247 = .ok (.iload 6, 2) := by decide +kernel
theorem dX11_bars_249 : decode cX11_bars 249 = .ok (.bipush 8, 2) := by decide +kernel
theorem dX11_bars_251 : decode cX11_bars 251 = .ok (.if_icmp .ne 7, 3) := by decide +kernel
theorem dX11_bars_254 : decode cX11_bars 254 = .ok (.iconst 0, 1) := by decide +kernel
theorem dX11_bars_255 : decode cX11_bars 255 = .ok (.goto 5, 3) := by decide +kernel
theorem dX11_bars_258 : decode cX11_bars 258 = .ok (.iload 6, 2) := by decide +kernel
theorem dX11_bars_260 : decode cX11_bars 260 = .ok (.ireturn, 1) := by decide +kernel
theorem dX11_book_0 : decode cX11_book 0 = .ok (.iload_n 3, 1) := by decide +kernel
theorem dX11_book_1 : decode cX11_book 1 = .ok (.bipush 100, 2) := by decide +kernel
theorem dX11_book_3 : decode cX11_book 3 = .ok (.idiv, 1) := by decide +kernel
theorem dX11_book_4 : decode cX11_book 4 = .ok (.istore 4, 2) := by decide +kernel
theorem dX11_book_6 : decode cX11_book 6 = .ok (.iload_n 3, 1) := by decide +kernel
theorem dX11_book_7 : decode cX11_book 7 = .ok (.bipush 10, 2) := by decide +kernel
theorem dX11_book_9 : decode cX11_book 9 = .ok (.idiv, 1) := by decide +kernel
theorem dX11_book_10 : decode cX11_book 10 = .ok (.bipush 10, 2) := by decide +kernel
theorem dX11_book_12 : decode cX11_book 12 = .ok (.irem, 1) := by decide +kernel
theorem dX11_book_13 : decode cX11_book 13 = .ok (.istore 5, 2) := by decide +kernel
theorem dX11_book_15 : decode cX11_book 15 = .ok (.iload_n 3, 1) := by decide +kernel
theorem dX11_book_16 : decode cX11_book 16 = .ok (.bipush 10, 2) := by decide +kernel
theorem dX11_book_18 : decode cX11_book 18 = .ok (.irem, 1) := by decide +kernel
theorem dX11_book_19 : decode cX11_book 19 = .ok (.istore 6, 2) := by decide +kernel
theorem dX11_book_21 : decode cX11_book 21 = .ok (.aload_n 0, 1) := by decide +kernel
theorem dX11_book_22 : decode cX11_book 22 = .ok (.iload_n 1, 1) := by decide +kernel
theorem dX11_book_23 : decode cX11_book 23 = .ok (.invokevirtual 162, 3) := by decide +kernel
theorem dX11_book_26 : decode cX11_book 26 = .ok (.ifCond .eq 48, 3) := by decide +kernel
theorem dX11_book_29 : decode cX11_book 29 = .ok (.iload_n 3, 1) := by decide +kernel
theorem dX11_book_30 : decode cX11_book 30 = .ok (.ifCond .lt 44, 3) := by decide +kernel
theorem dX11_book_33 : decode cX11_book 33 = .ok (.iload 4, 2) := by decide +kernel
theorem dX11_book_35 : decode cX11_book 35 = .ok (.bipush 8, 2) := by decide +kernel
theorem dX11_book_37 : decode cX11_book 37 = .ok (.bipush 17, 2) := by decide +kernel
theorem dX11_book_39 : decode cX11_book 39 = .ok (.invokestatic 98, 3) := by decide +kernel
theorem dX11_book_42 : decode cX11_book 42 = .ok (.ifCond .eq 32, 3) := by decide +kernel
theorem dX11_book_45 : decode cX11_book 45 = .ok (.iload 5, 2) := by decide +kernel
theorem dX11_book_47 : decode cX11_book 47 = .ok (.iconst 3, 1) := by decide +kernel
theorem dX11_book_48 : decode cX11_book 48 = .ok (.if_icmp .gt 26, 3) := by decide +kernel
theorem dX11_book_51 : decode cX11_book 51 = .ok (.iload 6, 2) := by decide +kernel
theorem dX11_book_53 : decode cX11_book 53 = .ok (.aload_n 0, 1) := by decide +kernel
theorem dX11_book_54 : decode cX11_book 54 = .ok (.getfield 184, 3) := by decide +kernel
theorem dX11_book_57 : decode cX11_book 57 = .ok (.if_icmp .ge 17, 3) := by decide +kernel
theorem dX11_book_60 : decode cX11_book 60 = .ok (.iload_n 2, 1) := by decide +kernel
theorem dX11_book_61 : decode cX11_book 61 = .ok (.aload_n 0, 1) := by decide +kernel
theorem dX11_book_62 : decode cX11_book 62 = .ok (.getfield 114, 3) := by decide +kernel
theorem dX11_book_65 : decode cX11_book 65 = .ok (.sipush 20000, 3) := by decide +kernel
theorem dX11_book_68 : decode cX11_book 68 = .ok (.invokestatic 98, 3) := by decide +kernel
theorem dX11_book_71 : decode cX11_book 71 = .ok (.ifCond .ne 5, 3) := by decide +kernel
theorem dX11_book_74 : decode cX11_book 74 = .ok (.iconst (-1), 1) := by decide +kernel
theorem dX11_book_75 : decode cX11_book 75 = .ok (.ireturn, 1) := by decide +kernel
theorem dX11_book_76 : decode cX11_book 76 = .ok (.aload_n 0, 1) := by decide +kernel
theorem dX11_book_77 : decode cX11_book 77 = .ok (.iload_n 1, 1) := by decide +kernel
theorem dX11_book_78 : decode cX11_book 78 = .ok (.iload_n 2, 1) := by decide +kernel
theorem dX11_book_79 : decode cX11_book 79 = .ok (.iload 4, 2) := by decide +kernel
theorem dX11_book_81 : decode cX11_book 81 = .ok (.iload 5, 2) := by decide +kernel
theorem dX11_book_83 : decode cX11_book 83 = .ok (.iload 6, 2) := by decide +kernel
theorem dX11_book_85 : decode cX11_book 85 = .ok (.invokevirtual 190, 3) := by decide +kernel
theorem dX11_book_88 : decode cX11_book 88 = .ok (.istore 7, 2) := by decide +kernel
theorem dX11_book_90 : decode cX11_book 90 = .ok (.iload 7, 2) := by decide +kernel
theorem dX11_book_92 : decode cX11_book 92 = .ok (.ifCond .le 6, 3) := by decide +kernel
theorem dX11_book_95 : decode cX11_book 95 = .ok (.iload 7, 2) := by decide +kernel
theorem dX11_book_97 : decode cX11_book 97 = .ok (.ireturn, 1) := by decide +kernel
theorem dX11_book_98 : decode cX11_book 98 = .ok (.aload_n 0, 1) := by decide +kernel
theorem dX11_book_99 : decode cX11_book 99 = .ok (.getfield 64, 3) := by decide +kernel
theorem dX11_book_102 : decode cX11_book 102 = .ok (.iload_n 1, 1) := by decide +kernel
theorem dX11_book_103 : decode cX11_book 103 = .ok (.iload_n 2, 1) := by decide +kernel
theorem dX11_book_104 : decode cX11_book 104 = .ok (.iastore, 1) := by decide +kernel
theorem dX11_book_105 : decode cX11_book 105 = .ok (.aload_n 0, 1) := by decide +kernel
theorem dX11_book_106 : decode cX11_book 106 = .ok (.getfield 67, 3) := by decide +kernel
theorem dX11_book_109 : decode cX11_book 109 = .ok (.iload_n 1, 1) := by decide +kernel
theorem dX11_book_110 : decode cX11_book 110 = .ok (.iload_n 3, 1) := by decide +kernel
theorem dX11_book_111 : decode cX11_book 111 = .ok (.iastore, 1) := by decide +kernel
theorem dX11_book_112 : decode cX11_book 112 = .ok (.iconst 0, 1) := by decide +kernel
theorem dX11_book_113 : decode cX11_book 113 = .ok (.ireturn, 1) := by decide +kernel
theorem dX11_finds_0 : decode cX11_finds 0 = .ok (.bipush 8, 2) := by decide +kernel
theorem dX11_finds_2 : decode cX11_finds 2 = .ok (.istore_n 3, 1) := by decide +kernel
theorem dX11_finds_3 : decode cX11_finds 3 = .ok (.iload_n 3, 1) := by decide +kernel
theorem dX11_finds_4 : decode cX11_finds 4 = .ok (.bipush 17, 2) := by decide +kernel
theorem dX11_finds_6 : decode cX11_finds 6 = .ok (.if_icmp .gt 87, 3) := by decide +kernel
theorem dX11_finds_9 : decode cX11_finds 9 = .ok (.iconst 0, 1) := by decide +kernel
theorem dX11_finds_10 : decode cX11_finds 10 = .ok (.istore 4, 2) := by decide +kernel
theorem dX11_finds_12 : decode cX11_finds 12 = .ok (.iload 4, 2) := by decide +kernel
theorem dX11_finds_14 : decode cX11_finds 14 = .ok (.iconst 4, 1) := by decide +kernel
theorem dX11_finds_15 : decode cX11_finds 15 = .ok (.if_icmp .ge 72, 3) := by decide +kernel
theorem dX11_finds_18 : decode cX11_finds 18 = .ok (.iconst 0, 1) := by decide +kernel
theorem dX11_finds_19 : decode cX11_finds 19 = .ok (.istore 5, 2) := by decide +kernel
theorem dX11_finds_21 : decode cX11_finds 21 = .ok (.iload 5, 2) := by decide +kernel
theorem dX11_finds_23 : decode cX11_finds 23 = .ok (.aload_n 0, 1) := by decide +kernel
theorem dX11_finds_24 : decode cX11_finds 24 = .ok (.getfield 184, 3) := by decide +kernel
theorem dX11_finds_27 : decode cX11_finds 27 = .ok (.if_icmp .ge 54, 3) := by decide +kernel
theorem dX11_finds_30 : decode cX11_finds 30 = .ok (.aload_n 0, 1) := by decide +kernel
theorem dX11_finds_31 : decode cX11_finds 31 = .ok (.iload_n 1, 1) := by decide +kernel
theorem dX11_finds_32 : decode cX11_finds 32 = .ok (.iload_n 2, 1) := by decide +kernel
theorem dX11_finds_33 : decode cX11_finds 33 = .ok (.iload_n 3, 1) := by decide +kernel
theorem dX11_finds_34 : decode cX11_finds 34 = .ok (.iload 4, 2) := by decide +kernel
theorem dX11_finds_36 : decode cX11_finds 36 = .ok (.iload 5, 2) := by decide +kernel
theorem dX11_finds_38 : decode cX11_finds 38 = .ok (.invokevirtual 190, 3) := by decide +kernel
theorem dX11_finds_41 : decode cX11_finds 41 = .ok (.ifCond .le 6, 3) := by decide +kernel
theorem dX11_finds_44 : decode cX11_finds 44 = .ok (.goto 31, 3) := by decide +kernel
theorem dX11_finds_47 : decode cX11_finds 47 = .ok (.aload_n 0, 1) := by decide +kernel
theorem dX11_finds_48 : decode cX11_finds 48 = .ok (.getfield 64, 3) := by decide +kernel
theorem dX11_finds_51 : decode cX11_finds 51 = .ok (.iload_n 1, 1) := by decide +kernel
theorem dX11_finds_52 : decode cX11_finds 52 = .ok (.iload_n 2, 1) := by decide +kernel
theorem dX11_finds_53 : decode cX11_finds 53 = .ok (.iastore, 1) := by decide +kernel
theorem dX11_finds_54 : decode cX11_finds 54 = .ok (.aload_n 0, 1) := by decide +kernel
theorem dX11_finds_55 : decode cX11_finds 55 = .ok (.getfield 67, 3) := by decide +kernel
theorem dX11_finds_58 : decode cX11_finds 58 = .ok (.iload_n 1, 1) := by decide +kernel
theorem dX11_finds_59 : decode cX11_finds 59 = .ok (.bipush 100, 2) := by decide +kernel
theorem dX11_finds_61 : decode cX11_finds 61 = .ok (.iload_n 3, 1) := by decide +kernel
theorem dX11_finds_62 : decode cX11_finds 62 = .ok (.imul, 1) := by decide +kernel
theorem dX11_finds_63 : decode cX11_finds 63 = .ok (.bipush 10, 2) := by decide +kernel
theorem dX11_finds_65 : decode cX11_finds 65 = .ok (.iload 4, 2) := by decide +kernel
theorem dX11_finds_67 : decode cX11_finds 67 = .ok (.imul, 1) := by decide +kernel
theorem dX11_finds_68 : decode cX11_finds 68 = .ok (.iadd, 1) := by decide +kernel
theorem dX11_finds_69 : decode cX11_finds 69 = .ok (.iload 5, 2) := by decide +kernel
theorem dX11_finds_71 : decode cX11_finds 71 = .ok (.iadd, 1) := by decide +kernel
theorem dX11_finds_72 : decode cX11_finds 72 = .ok (.iastore, 1) := by decide +kernel
theorem dX11_finds_73 : decode cX11_finds 73 = .ok (.iconst 1, 1) := by decide +kernel
theorem dX11_finds_74 : decode cX11_finds 74 = .ok (.ireturn, 1) := by decide +kernel
theorem dX11_finds_75 : decode cX11_finds 75 = .ok (.iinc 5 1, 3) := by decide +kernel
theorem dX11_finds_78 : decode cX11_finds 78 = .ok (.goto (-57), 3) := by decide +kernel
theorem dX11_finds_81 : decode cX11_finds 81 = .ok (.iinc 4 1, 3) := by decide +kernel
theorem dX11_finds_84 : decode cX11_finds 84 = .ok (.goto (-72), 3) := by decide +kernel
theorem dX11_finds_87 : decode cX11_finds 87 = .ok (.iinc 3 1, 3) := by decide +kernel
theorem dX11_finds_90 : decode cX11_finds 90 = .ok (.goto (-87), 3) := by decide +kernel
theorem dX11_finds_93 : decode cX11_finds 93 = .ok (.iconst 0, 1) := by decide +kernel
theorem dX11_finds_94 : decode cX11_finds 94 = .ok (.ireturn, 1) := by decide +kernel
theorem dX11_order_0 : decode cX11_order 0 = .ok (.iload_n 1, 1) := by decide +kernel
theorem dX11_order_1 : decode cX11_order 1 = .ok (.aload_n 0, 1) := by decide +kernel
theorem dX11_order_2 : decode cX11_order 2 = .ok (.getfield 114, 3) := by decide +kernel
theorem dX11_order_5 : decode cX11_order 5 = .ok (.sipush 20000, 3) := by decide +kernel
theorem dX11_order_8 : decode cX11_order 8 = .ok (.invokestatic 98, 3) := by decide +kernel
theorem dX11_order_11 : decode cX11_order 11 = .ok (.ifCond .ne 5, 3) := by decide +kernel
theorem dX11_order_14 : decode cX11_order 14 = .ok (.iconst (-1), 1) := by decide +kernel
theorem dX11_order_15 : decode cX11_order 15 = .ok (.ireturn, 1) := by decide +kernel
theorem dX11_order_16 : decode cX11_order 16 = .ok (.iconst 0, 1) := by decide +kernel
theorem dX11_order_17 : decode cX11_order 17 = .ok (.istore_n 2, 1) := by decide +kernel
theorem dX11_order_18 : decode cX11_order 18 = .ok (.iconst 0, 1) := by decide +kernel
theorem dX11_order_19 : decode cX11_order 19 = .ok (.istore_n 3, 1) := by decide +kernel
theorem dX11_order_20 : decode cX11_order 20 = .ok (.iload_n 3, 1) := by decide +kernel
theorem dX11_order_21 : decode cX11_order 21 = .ok (.aload_n 0, 1) := by decide +kernel
theorem dX11_order_22 : decode cX11_order 22 = .ok (.getfield 102, 3) := by decide +kernel
theorem dX11_order_25 : decode cX11_order 25 = .ok (.if_icmp .ge 60, 3) := by decide +kernel
theorem dX11_order_28 : decode cX11_order 28 = .ok (.aload_n 0, 1) := by decide +kernel
theorem dX11_order_29 : decode cX11_order 29 = .ok (.getfield 61, 3) := by decide +kernel
theorem dX11_order_32 : decode cX11_order 32 = .ok (.iload_n 3, 1) := by decide +kernel
theorem dX11_order_33 : decode cX11_order 33 = .ok (.iaload, 1) := by decide +kernel
theorem dX11_order_34 : decode cX11_order 34 = .ok (.ifCond .ne 45, 3) := by decide +kernel
theorem dX11_order_37 : decode cX11_order 37 = .ok (.aload_n 0, 1) := by decide +kernel
theorem dX11_order_38 : decode cX11_order 38 = .ok (.getfield 64, 3) := by decide +kernel
theorem dX11_order_41 : decode cX11_order 41 = .ok (.iload_n 3, 1) := by decide +kernel
theorem dX11_order_42 : decode cX11_order 42 = .ok (.iaload, 1) := by decide +kernel
theorem dX11_order_43 : decode cX11_order 43 = .ok (.iconst (-1), 1) := by decide +kernel
theorem dX11_order_44 : decode cX11_order 44 = .ok (.if_icmp .ne 35, 3) := by decide +kernel
theorem dX11_order_47 : decode cX11_order 47 = .ok (.aload_n 0, 1) := by decide +kernel
theorem dX11_order_48 : decode cX11_order 48 = .ok (.aload_n 0, 1) := by decide +kernel
theorem dX11_order_49 : decode cX11_order 49 = .ok (.getfield 52, 3) := by decide +kernel
theorem dX11_order_52 : decode cX11_order 52 = .ok (.iload_n 3, 1) := by decide +kernel
theorem dX11_order_53 : decode cX11_order 53 = .ok (.iaload, 1) := by decide +kernel
theorem dX11_order_54 : decode cX11_order 54 = .ok (.aload_n 0, 1) := by decide +kernel
theorem dX11_order_55 : decode cX11_order 55 = .ok (.getfield 55, 3) := by decide +kernel
theorem dX11_order_58 : decode cX11_order 58 = .ok (.iload_n 3, 1) := by decide +kernel
theorem dX11_order_59 : decode cX11_order 59 = .ok (.iaload, 1) := by decide +kernel
theorem dX11_order_60 : decode cX11_order 60 = .ok (.iload_n 1, 1) := by decide +kernel
theorem dX11_order_61 : decode cX11_order 61 = .ok (.invokevirtual 159, 3) := by decide +kernel
theorem dX11_order_64 : decode cX11_order 64 = .ok (.ifCond .ne 15, 3) := by decide +kernel
theorem dX11_order_67 : decode cX11_order 67 = .ok (.aload_n 0, 1) := by decide +kernel
theorem dX11_order_68 : decode cX11_order 68 = .ok (.iload_n 3, 1) := by decide +kernel
theorem dX11_order_69 : decode cX11_order 69 = .ok (.iload_n 1, 1) := by decide +kernel
theorem dX11_order_70 : decode cX11_order 70 = .ok (.invokevirtual 194, 3) := by decide +kernel
theorem dX11_order_73 : decode cX11_order 73 = .ok (.ifCond .eq 6, 3) := by decide +kernel
theorem dX11_order_76 : decode cX11_order 76 = .ok (.iinc 2 1, 3) := by decide +kernel
theorem dX11_order_79 : decode cX11_order 79 = .ok (.iinc 3 1, 3) := by decide +kernel
theorem dX11_order_82 : decode cX11_order 82 = .ok (.goto (-62), 3) := by decide +kernel
theorem dX11_order_85 : decode cX11_order 85 = .ok (.iload_n 2, 1) := by decide +kernel
theorem dX11_order_86 : decode cX11_order 86 = .ok (.ireturn, 1) := by decide +kernel
theorem dX11_wed_0 : decode cX11_wed 0 = .ok (.aload_n 0, 1) := by decide +kernel
theorem dX11_wed_1 : decode cX11_wed 1 = .ok (.iload_n 1, 1) := by decide +kernel
theorem dX11_wed_2 : decode cX11_wed 2 = .ok (.invokevirtual 162, 3) := by decide +kernel
theorem dX11_wed_5 : decode cX11_wed 5 = .ok (.ifCond .eq 69, 3) := by decide +kernel
theorem dX11_wed_8 : decode cX11_wed 8 = .ok (.aload_n 0, 1) := by decide +kernel
theorem dX11_wed_9 : decode cX11_wed 9 = .ok (.getfield 61, 3) := by decide +kernel
theorem dX11_wed_12 : decode cX11_wed 12 = .ok (.iload_n 1, 1) := by decide +kernel
theorem dX11_wed_13 : decode cX11_wed 13 = .ok (.iaload, 1) := by decide +kernel
theorem dX11_wed_14 : decode cX11_wed 14 = .ok (.ifCond .ne 60, 3) := by decide +kernel
theorem dX11_wed_17 : decode cX11_wed 17 = .ok (.aload_n 0, 1) := by decide +kernel
theorem dX11_wed_18 : decode cX11_wed 18 = .ok (.getfield 64, 3) := by decide +kernel
theorem dX11_wed_21 : decode cX11_wed 21 = .ok (.iload_n 1, 1) := by decide +kernel
theorem dX11_wed_22 : decode cX11_wed 22 = .ok (.iaload, 1) := by decide +kernel
theorem dX11_wed_23 : decode cX11_wed 23 = .ok (.aload_n 0, 1) := by decide +kernel
theorem dX11_wed_24 : decode cX11_wed 24 = .ok (.getfield 114, 3) := by decide +kernel
theorem dX11_wed_27 : decode cX11_wed 27 = .ok (.if_icmp .ne 47, 3) := by decide +kernel
theorem dX11_wed_30 : decode cX11_wed 30 = .ok (.aload_n 0, 1) := by decide +kernel
theorem dX11_wed_31 : decode cX11_wed 31 = .ok (.aload_n 0, 1) := by decide +kernel
theorem dX11_wed_32 : decode cX11_wed 32 = .ok (.getfield 52, 3) := by decide +kernel
theorem dX11_wed_35 : decode cX11_wed 35 = .ok (.iload_n 1, 1) := by decide +kernel
theorem dX11_wed_36 : decode cX11_wed 36 = .ok (.iaload, 1) := by decide +kernel
theorem dX11_wed_37 : decode cX11_wed 37 = .ok (.aload_n 0, 1) := by decide +kernel
theorem dX11_wed_38 : decode cX11_wed 38 = .ok (.getfield 55, 3) := by decide +kernel
theorem dX11_wed_41 : decode cX11_wed 41 = .ok (.iload_n 1, 1) := by decide +kernel
theorem dX11_wed_42 : decode cX11_wed 42 = .ok (.iaload, 1) := by decide +kernel
theorem dX11_wed_43 : decode cX11_wed 43 = .ok (.aload_n 0, 1) := by decide +kernel
theorem dX11_wed_44 : decode cX11_wed 44 = .ok (.getfield 114, 3) := by decide +kernel
theorem dX11_wed_47 : decode cX11_wed 47 = .ok (.invokevirtual 159, 3) := by decide +kernel
theorem dX11_wed_50 : decode cX11_wed 50 = .ok (.ifCond .ne 24, 3) := by decide +kernel
theorem dX11_wed_53 : decode cX11_wed 53 = .ok (.aload_n 0, 1) := by decide +kernel
theorem dX11_wed_54 : decode cX11_wed 54 = .ok (.iload_n 1, 1) := by decide +kernel
theorem dX11_wed_55 : decode cX11_wed 55 = .ok (.aload_n 0, 1) := by decide +kernel
theorem dX11_wed_56 : decode cX11_wed 56 = .ok (.getfield 114, 3) := by decide +kernel
theorem dX11_wed_59 : decode cX11_wed 59 = .ok (.invokevirtual 187, 3) := by decide +kernel
theorem dX11_wed_62 : decode cX11_wed 62 = .ok (.ifCond .eq 12, 3) := by decide +kernel
theorem dX11_wed_65 : decode cX11_wed 65 = .ok (.aload_n 0, 1) := by decide +kernel
theorem dX11_wed_66 : decode cX11_wed 66 = .ok (.getfield 197, 3) := by decide +kernel
theorem dX11_wed_69 : decode cX11_wed 69 = .ok (.bipush 60, 2) := by decide +kernel
theorem dX11_wed_71 : decode cX11_wed 71 = .ok (.if_icmp .ne 5, 3) := by decide +kernel
theorem dX11_wed_74 : decode cX11_wed 74 = .ok (.iconst (-1), 1) := by decide +kernel
theorem dX11_wed_75 : decode cX11_wed 75 = .ok (.ireturn, 1) := by decide +kernel
theorem dX11_wed_76 : decode cX11_wed 76 = .ok (.aload_n 0, 1) := by decide +kernel
theorem dX11_wed_77 : decode cX11_wed 77 = .ok (.getfield 52, 3) := by decide +kernel
theorem dX11_wed_80 : decode cX11_wed 80 = .ok (.iload_n 1, 1) := by decide +kernel
theorem dX11_wed_81 : decode cX11_wed 81 = .ok (.iaload, 1) := by decide +kernel
theorem dX11_wed_82 : decode cX11_wed 82 = .ok (.istore_n 2, 1) := by decide +kernel
theorem dX11_wed_83 : decode cX11_wed 83 = .ok (.aload_n 0, 1) := by decide +kernel
theorem dX11_wed_84 : decode cX11_wed 84 = .ok (.getfield 55, 3) := by decide +kernel
theorem dX11_wed_87 : decode cX11_wed 87 = .ok (.iload_n 1, 1) := by decide +kernel
theorem dX11_wed_88 : decode cX11_wed 88 = .ok (.iaload, 1) := by decide +kernel
theorem dX11_wed_89 : decode cX11_wed 89 = .ok (.istore_n 3, 1) := by decide +kernel
theorem dX11_wed_90 : decode cX11_wed 90 = .ok (.aload_n 0, 1) := by decide +kernel
theorem dX11_wed_91 : decode cX11_wed 91 = .ok (.getfield 36, 3) := by decide +kernel
theorem dX11_wed_94 : decode cX11_wed 94 = .ok (.iload_n 2, 1) := by decide +kernel
theorem dX11_wed_95 : decode cX11_wed 95 = .ok (.iload_n 3, 1) := by decide +kernel
theorem dX11_wed_96 : decode cX11_wed 96 = .ok (.iastore, 1) := by decide +kernel
theorem dX11_wed_97 : decode cX11_wed 97 = .ok (.aload_n 0, 1) := by decide +kernel
theorem dX11_wed_98 : decode cX11_wed 98 = .ok (.getfield 36, 3) := by decide +kernel
theorem dX11_wed_101 : decode cX11_wed 101 = .ok (.iload_n 3, 1) := by decide +kernel
theorem dX11_wed_102 : decode cX11_wed 102 = .ok (.iload_n 2, 1) := by decide +kernel
theorem dX11_wed_103 : decode cX11_wed 103 = .ok (.iastore, 1) := by decide +kernel
theorem dX11_wed_104 : decode cX11_wed 104 = .ok (.aload_n 0, 1) := by decide +kernel
theorem dX11_wed_105 : decode cX11_wed 105 = .ok (.getfield 61, 3) := by decide +kernel
theorem dX11_wed_108 : decode cX11_wed 108 = .ok (.iload_n 1, 1) := by decide +kernel
theorem dX11_wed_109 : decode cX11_wed 109 = .ok (.iconst 1, 1) := by decide +kernel
theorem dX11_wed_110 : decode cX11_wed 110 = .ok (.iastore, 1) := by decide +kernel
theorem dX11_wed_111 : decode cX11_wed 111 = .ok (.aload_n 0, 1) := by decide +kernel
theorem dX11_wed_112 : decode cX11_wed 112 = .ok (.getfield 79, 3) := by decide +kernel
theorem dX11_wed_115 : decode cX11_wed 115 = .ok (.aload_n 0, 1) := by decide +kernel
theorem dX11_wed_116 : decode cX11_wed 116 = .ok (.getfield 197, 3) := by decide +kernel
theorem dX11_wed_119 : decode cX11_wed 119 = .ok (.aaload, 1) := by decide +kernel
theorem dX11_wed_120 : decode cX11_wed 120 = .ok (.astore 4, 2) := by decide +kernel
theorem dX11_wed_122 : decode cX11_wed 122 = .ok (.aload 4, 2) := by decide +kernel
theorem dX11_wed_124 : decode cX11_wed 124 = .ok (.iconst 0, 1) := by decide +kernel
theorem dX11_wed_125 : decode cX11_wed 125 = .ok (.aload_n 0, 1) := by decide +kernel
theorem dX11_wed_126 : decode cX11_wed 126 = .ok (.getfield 114, 3) := by decide +kernel
theorem dX11_wed_129 : decode cX11_wed 129 = .ok (.iastore, 1) := by decide +kernel
theorem dX11_wed_130 : decode cX11_wed 130 = .ok (.aload 4, 2) := by decide +kernel
theorem dX11_wed_132 : decode cX11_wed 132 = .ok (.iconst 1, 1) := by decide +kernel
theorem dX11_wed_133 : decode cX11_wed 133 = .ok (.aload_n 0, 1) := by decide +kernel
theorem dX11_wed_134 : decode cX11_wed 134 = .ok (.getfield 33, 3) := by decide +kernel
theorem dX11_wed_137 : decode cX11_wed 137 = .ok (.iload_n 2, 1) := by decide +kernel
theorem dX11_wed_138 : decode cX11_wed 138 = .ok (.iaload, 1) := by decide +kernel
theorem dX11_wed_139 : decode cX11_wed 139 = .ok (.iastore, 1) := by decide +kernel
theorem dX11_wed_140 : decode cX11_wed 140 = .ok (.aload 4, 2) := by decide +kernel
theorem dX11_wed_142 : decode cX11_wed 142 = .ok (.iconst 2, 1) := by decide +kernel
theorem dX11_wed_143 : decode cX11_wed 143 = .ok (.aload_n 0, 1) := by decide +kernel
theorem dX11_wed_144 : decode cX11_wed 144 = .ok (.getfield 33, 3) := by decide +kernel
theorem dX11_wed_147 : decode cX11_wed 147 = .ok (.iload_n 3, 1) := by decide +kernel
theorem dX11_wed_148 : decode cX11_wed 148 = .ok (.iaload, 1) := by decide +kernel
theorem dX11_wed_149 : decode cX11_wed 149 = .ok (.iastore, 1) := by decide +kernel
theorem dX11_wed_150 : decode cX11_wed 150 = .ok (.aload 4, 2) := by decide +kernel
theorem dX11_wed_152 : decode cX11_wed 152 = .ok (.iconst 3, 1) := by decide +kernel
theorem dX11_wed_153 : decode cX11_wed 153 = .ok (.aload_n 0, 1) := by decide +kernel
theorem dX11_wed_154 : decode cX11_wed 154 = .ok (.getfield 67, 3) := by decide +kernel
theorem dX11_wed_157 : decode cX11_wed 157 = .ok (.iload_n 1, 1) := by decide +kernel
theorem dX11_wed_158 : decode cX11_wed 158 = .ok (.iaload, 1) := by decide +kernel
theorem dX11_wed_159 : decode cX11_wed 159 = .ok (.bipush 10, 2) := by decide +kernel
theorem dX11_wed_161 : decode cX11_wed 161 = .ok (.idiv, 1) := by decide +kernel
theorem dX11_wed_162 : decode cX11_wed 162 = .ok (.bipush 10, 2) := by decide +kernel
theorem dX11_wed_164 : decode cX11_wed 164 = .ok (.irem, 1) := by decide +kernel
theorem dX11_wed_165 : decode cX11_wed 165 = .ok (.iastore, 1) := by decide +kernel
theorem dX11_wed_166 : decode cX11_wed 166 = .ok (.aload 4, 2) := by decide +kernel
theorem dX11_wed_168 : decode cX11_wed 168 = .ok (.iconst 4, 1) := by decide +kernel
theorem dX11_wed_169 : decode cX11_wed 169 = .ok (.aload_n 0, 1) := by decide +kernel
theorem dX11_wed_170 : decode cX11_wed 170 = .ok (.getfield 67, 3) := by decide +kernel
theorem dX11_wed_173 : decode cX11_wed 173 = .ok (.iload_n 1, 1) := by decide +kernel
theorem dX11_wed_174 : decode cX11_wed 174 = .ok (.iaload, 1) := by decide +kernel
theorem dX11_wed_175 : decode cX11_wed 175 = .ok (.bipush 10, 2) := by decide +kernel
theorem dX11_wed_177 : decode cX11_wed 177 = .ok (.irem, 1) := by decide +kernel
theorem dX11_wed_178 : decode cX11_wed 178 = .ok (.iastore, 1) := by decide +kernel
theorem dX11_wed_179 : decode cX11_wed 179 = .ok (.aload 4, 2) := by decide +kernel
theorem dX11_wed_181 : decode cX11_wed 181 = .ok (.iconst 5, 1) := by decide +kernel
theorem dX11_wed_182 : decode cX11_wed 182 = .ok (.iload_n 2, 1) := by decide +kernel
theorem dX11_wed_183 : decode cX11_wed 183 = .ok (.iastore, 1) := by decide +kernel
theorem dX11_wed_184 : decode cX11_wed 184 = .ok (.aload 4, 2) := by decide +kernel
theorem dX11_wed_186 : decode cX11_wed 186 = .ok (.bipush 6, 2) := by decide +kernel
theorem dX11_wed_188 : decode cX11_wed 188 = .ok (.iload_n 3, 1) := by decide +kernel
theorem dX11_wed_189 : decode cX11_wed 189 = .ok (.iastore, 1) := by decide +kernel
theorem dX11_wed_190 : decode cX11_wed 190 = .ok (.aload 4, 2) := by decide +kernel
theorem dX11_wed_192 : decode cX11_wed 192 = .ok (.bipush 7, 2) := by decide +kernel
theorem dX11_wed_194 : decode cX11_wed 194 = .ok (.iload_n 1, 1) := by decide +kernel
theorem dX11_wed_195 : decode cX11_wed 195 = .ok (.iastore, 1) := by decide +kernel
theorem dX11_wed_196 : decode cX11_wed 196 = .ok (.aload_n 0, 1) := by decide +kernel
theorem dX11_wed_197 : decode cX11_wed 197 = .ok (.dup, 1) := by decide +kernel
theorem dX11_wed_198 : decode cX11_wed 198 = .ok (.getfield 197, 3) := by decide +kernel
theorem dX11_wed_201 : decode cX11_wed 201 = .ok (.iconst 1, 1) := by decide +kernel
theorem dX11_wed_202 : decode cX11_wed 202 = .ok (.iadd, 1) := by decide +kernel
theorem dX11_wed_203 : decode cX11_wed 203 = .ok (.putfield 197, 3) := by decide +kernel
theorem dX11_wed_206 : decode cX11_wed 206 = .ok (.aload_n 0, 1) := by decide +kernel
theorem dX11_wed_207 : decode cX11_wed 207 = .ok (.getfield 197, 3) := by decide +kernel
theorem dX11_wed_210 : decode cX11_wed 210 = .ok (.iconst 1, 1) := by decide +kernel
theorem dX11_wed_211 : decode cX11_wed 211 = .ok (.isub, 1) := by decide +kernel
theorem dX11_wed_212 : decode cX11_wed 212 = .ok (.ireturn, 1) := by decide +kernel
theorem dX11_part_0 : decode cX11_part 0 = .ok (.aload_n 0, 1) := by decide +kernel
theorem dX11_part_1 : decode cX11_part 1 = .ok (.iload_n 1, 1) := by decide +kernel
theorem dX11_part_2 : decode cX11_part 2 = .ok (.invokevirtual 117, 3) := by decide +kernel
theorem dX11_part_5 : decode cX11_part 5 = .ok (.ifCond .eq 13, 3) := by decide +kernel
theorem dX11_part_8 : decode cX11_part 8 = .ok (.aload_n 0, 1) := by decide +kernel
theorem dX11_part_9 : decode cX11_part 9 = .ok (.getfield 36, 3) := by decide +kernel
theorem dX11_part_12 : decode cX11_part 12 = .ok (.iload_n 1, 1) := by decide +kernel
theorem dX11_part_13 : decode cX11_part 13 = .ok (.iaload, 1) := by decide +kernel
theorem dX11_part_14 : decode cX11_part 14 = .ok (.iconst (-1), 1) := by decide +kernel
theorem dX11_part_15 : decode cX11_part 15 = .ok (.if_icmp .ne 5, 3) := by decide +kernel
theorem dX11_part_18 : decode cX11_part 18 = .ok (.iconst 0, 1) := by decide +kernel
theorem dX11_part_19 : decode cX11_part 19 = .ok (.ireturn, 1) := by decide +kernel
theorem dX11_part_20 : decode cX11_part 20 = .ok (.aload_n 0, 1) := by decide +kernel
theorem dX11_part_21 : decode cX11_part 21 = .ok (.getfield 36, 3) := by decide +kernel
theorem dX11_part_24 : decode cX11_part 24 = .ok (.aload_n 0, 1) := by decide +kernel
theorem dX11_part_25 : decode cX11_part 25 = .ok (.getfield 36, 3) := by decide +kernel
theorem dX11_part_28 : decode cX11_part 28 = .ok (.iload_n 1, 1) := by decide +kernel
theorem dX11_part_29 : decode cX11_part 29 = .ok (.iaload, 1) := by decide +kernel
theorem dX11_part_30 : decode cX11_part 30 = .ok (.iconst (-1), 1) := by decide +kernel
theorem dX11_part_31 : decode cX11_part 31 = .ok (.iastore, 1) := by decide +kernel
theorem dX11_part_32 : decode cX11_part 32 = .ok (.aload_n 0, 1) := by decide +kernel
theorem dX11_part_33 : decode cX11_part 33 = .ok (.getfield 36, 3) := by decide +kernel
theorem dX11_part_36 : decode cX11_part 36 = .ok (.iload_n 1, 1) := by decide +kernel
theorem dX11_part_37 : decode cX11_part 37 = .ok (.iconst (-1), 1) := by decide +kernel
theorem dX11_part_38 : decode cX11_part 38 = .ok (.iastore, 1) := by decide +kernel
theorem dX11_part_39 : decode cX11_part 39 = .ok (.iconst 1, 1) := by decide +kernel
theorem dX11_part_40 : decode cX11_part 40 = .ok (.ireturn, 1) := by decide +kernel
theorem dX11_correct_0 : decode cX11_correct 0 = .ok (.iload_n 1, 1) := by decide +kernel
theorem dX11_correct_1 : decode cX11_correct 1 = .ok (.iconst 0, 1) := by decide +kernel
theorem dX11_correct_2 : decode cX11_correct 2 = .ok (.aload_n 0, 1) := by decide +kernel
theorem dX11_correct_3 : decode cX11_correct 3 = .ok (.getfield 197, 3) := by decide +kernel
theorem dX11_correct_6 : decode cX11_correct 6 = .ok (.iconst 1, 1) := by decide +kernel
theorem dX11_correct_7 : decode cX11_correct 7 = .ok (.isub, 1) := by decide +kernel
theorem dX11_correct_8 : decode cX11_correct 8 = .ok (.invokestatic 98, 3) := by decide +kernel
theorem dX11_correct_11 : decode cX11_correct 11 = .ok (.ifCond .eq 32, 3) := by decide +kernel
theorem dX11_correct_14 : decode cX11_correct 14 = .ok (.iload_n 2, 1) := by decide +kernel
theorem dX11_correct_15 : decode cX11_correct 15 = .ok (.iconst 0, 1) := by decide +kernel
theorem dX11_correct_16 : decode cX11_correct 16 = .ok (.iconst 4, 1) := by decide +kernel
theorem dX11_correct_17 : decode cX11_correct 17 = .ok (.invokestatic 98, 3) := by decide +kernel
theorem dX11_correct_20 : decode cX11_correct 20 = .ok (.ifCond .eq 23, 3) := by decide +kernel
theorem dX11_correct_23 : decode cX11_correct 23 = .ok (.iload_n 3, 1) := by decide +kernel
theorem dX11_correct_24 : decode cX11_correct 24 = .ok (.iconst 0, 1) := by decide +kernel
theorem dX11_correct_25 : decode cX11_correct 25 = .ok (.sipush 20000, 3) := by decide +kernel
theorem dX11_correct_28 : decode cX11_correct 28 = .ok (.invokestatic 98, 3) := by decide +kernel
theorem dX11_correct_31 : decode cX11_correct 31 = .ok (.ifCond .eq 12, 3) := by decide +kernel
theorem dX11_correct_34 : decode cX11_correct 34 = .ok (.aload_n 0, 1) := by decide +kernel
theorem dX11_correct_35 : decode cX11_correct 35 = .ok (.getfield 200, 3) := by decide +kernel
theorem dX11_correct_38 : decode cX11_correct 38 = .ok (.bipush 100, 2) := by decide +kernel
theorem dX11_correct_40 : decode cX11_correct 40 = .ok (.if_icmp .ne 5, 3) := by decide +kernel
theorem dX11_correct_43 : decode cX11_correct 43 = .ok (.iconst 0, 1) := by decide +kernel
theorem dX11_correct_44 : decode cX11_correct 44 = .ok (.ireturn, 1) := by decide +kernel
theorem dX11_correct_45 : decode cX11_correct 45 = .ok (.aload_n 0, 1) := by decide +kernel
theorem dX11_correct_46 : decode cX11_correct 46 = .ok (.getfield 82, 3) := by decide +kernel
theorem dX11_correct_49 : decode cX11_correct 49 = .ok (.aload_n 0, 1) := by decide +kernel
theorem dX11_correct_50 : decode cX11_correct 50 = .ok (.getfield 200, 3) := by decide +kernel
theorem dX11_correct_53 : decode cX11_correct 53 = .ok (.iload_n 1, 1) := by decide +kernel
theorem dX11_correct_54 : decode cX11_correct 54 = .ok (.iastore, 1) := by decide +kernel
theorem dX11_correct_55 : decode cX11_correct 55 = .ok (.aload_n 0, 1) := by decide +kernel
theorem dX11_correct_56 : decode cX11_correct 56 = .ok (.getfield 85, 3) := by decide +kernel
theorem dX11_correct_59 : decode cX11_correct 59 = .ok (.aload_n 0, 1) := by decide +kernel
theorem dX11_correct_60 : decode cX11_correct 60 = .ok (.getfield 200, 3) := by decide +kernel
theorem dX11_correct_63 : decode cX11_correct 63 = .ok (.iload_n 2, 1) := by decide +kernel
theorem dX11_correct_64 : decode cX11_correct 64 = .ok (.iastore, 1) := by decide +kernel
theorem dX11_correct_65 : decode cX11_correct 65 = .ok (.aload_n 0, 1) := by decide +kernel
theorem dX11_correct_66 : decode cX11_correct 66 = .ok (.getfield 88, 3) := by decide +kernel
theorem dX11_correct_69 : decode cX11_correct 69 = .ok (.aload_n 0, 1) := by decide +kernel
theorem dX11_correct_70 : decode cX11_correct 70 = .ok (.getfield 200, 3) := by decide +kernel
theorem dX11_correct_73 : decode cX11_correct 73 = .ok (.iload_n 3, 1) := by decide +kernel
theorem dX11_correct_74 : decode cX11_correct 74 = .ok (.iastore, 1) := by decide +kernel
theorem dX11_correct_75 : decode cX11_correct 75 = .ok (.aload_n 0, 1) := by decide +kernel
theorem dX11_correct_76 : decode cX11_correct 76 = .ok (.getfield 91, 3) := by decide +kernel
theorem dX11_correct_79 : decode cX11_correct 79 = .ok (.aload_n 0, 1) := by decide +kernel
theorem dX11_correct_80 : decode cX11_correct 80 = .ok (.getfield 200, 3) := by decide +kernel
theorem dX11_correct_83 : decode cX11_correct 83 = .ok (.aload_n 0, 1) := by decide +kernel
theorem dX11_correct_84 : decode cX11_correct 84 = .ok (.getfield 114, 3) := by decide +kernel
theorem dX11_correct_87 : decode cX11_correct 87 = .ok (.iastore, 1) := by decide +kernel
theorem dX11_correct_88 : decode cX11_correct 88 = .ok (.aload_n 0, 1) := by decide +kernel
theorem dX11_correct_89 : decode cX11_correct 89 = .ok (.dup, 1) := by decide +kernel
theorem dX11_correct_90 : decode cX11_correct 90 = .ok (.getfield 200, 3) := by decide +kernel
theorem dX11_correct_93 : decode cX11_correct 93 = .ok (.iconst 1, 1) := by decide +kernel
theorem dX11_correct_94 : decode cX11_correct 94 = .ok (.iadd, 1) := by decide +kernel
theorem dX11_correct_95 : decode cX11_correct 95 = .ok (.putfield 200, 3) := by decide +kernel
theorem dX11_correct_98 : decode cX11_correct 98 = .ok (.iconst 1, 1) := by decide +kernel
theorem dX11_correct_99 : decode cX11_correct 99 = .ok (.ireturn, 1) := by decide +kernel
theorem dX11_entry_0 : decode cX11_entry 0 = .ok (.iload_n 1, 1) := by decide +kernel
theorem dX11_entry_1 : decode cX11_entry 1 = .ok (.iconst 0, 1) := by decide +kernel
theorem dX11_entry_2 : decode cX11_entry 2 = .ok (.aload_n 0, 1) := by decide +kernel
theorem dX11_entry_3 : decode cX11_entry 3 = .ok (.getfield 197, 3) := by decide +kernel
theorem dX11_entry_6 : decode cX11_entry 6 = .ok (.iconst 1, 1) := by decide +kernel
theorem dX11_entry_7 : decode cX11_entry 7 = .ok (.isub, 1) := by decide +kernel
theorem dX11_entry_8 : decode cX11_entry 8 = .ok (.invokestatic 98, 3) := by decide +kernel
theorem dX11_entry_11 : decode cX11_entry 11 = .ok (.ifCond .eq 32, 3) := by decide +kernel
theorem dX11_entry_14 : decode cX11_entry 14 = .ok (.iload_n 2, 1) := by decide +kernel
theorem dX11_entry_15 : decode cX11_entry 15 = .ok (.iconst 0, 1) := by decide +kernel
theorem dX11_entry_16 : decode cX11_entry 16 = .ok (.bipush 7, 2) := by decide +kernel
theorem dX11_entry_18 : decode cX11_entry 18 = .ok (.invokestatic 98, 3) := by decide +kernel
theorem dX11_entry_21 : decode cX11_entry 21 = .ok (.ifCond .eq 22, 3) := by decide +kernel
theorem dX11_entry_24 : decode cX11_entry 24 = .ok (.iload_n 3, 1) := by decide +kernel
theorem dX11_entry_25 : decode cX11_entry 25 = .ok (.aload_n 0, 1) := by decide +kernel
theorem dX11_entry_26 : decode cX11_entry 26 = .ok (.getfield 79, 3) := by decide +kernel
theorem dX11_entry_29 : decode cX11_entry 29 = .ok (.iload_n 1, 1) := by decide +kernel
theorem dX11_entry_30 : decode cX11_entry 30 = .ok (.aaload, 1) := by decide +kernel
theorem dX11_entry_31 : decode cX11_entry 31 = .ok (.iconst 0, 1) := by decide +kernel
theorem dX11_entry_32 : decode cX11_entry 32 = .ok (.iaload, 1) := by decide +kernel
theorem dX11_entry_33 : decode cX11_entry 33 = .ok (.aload_n 0, 1) := by decide +kernel
theorem dX11_entry_34 : decode cX11_entry 34 = .ok (.getfield 114, 3) := by decide +kernel
theorem dX11_entry_37 : decode cX11_entry 37 = .ok (.invokestatic 98, 3) := by decide +kernel
theorem dX11_entry_40 : decode cX11_entry 40 = .ok (.ifCond .ne 5, 3) := by decide +kernel
theorem dX11_entry_43 : decode cX11_entry 43 = .ok (.iconst (-1), 1) := by decide +kernel
theorem dX11_entry_44 : decode cX11_entry 44 = .ok (.ireturn, 1) := by decide +kernel
theorem dX11_entry_45 : decode cX11_entry 45 = .ok (.aload_n 0, 1) := by decide +kernel
theorem dX11_entry_46 : decode cX11_entry 46 = .ok (.getfield 79, 3) := by decide +kernel
theorem dX11_entry_49 : decode cX11_entry 49 = .ok (.iload_n 1, 1) := by decide +kernel
theorem dX11_entry_50 : decode cX11_entry 50 = .ok (.aaload, 1) := by decide +kernel
theorem dX11_entry_51 : decode cX11_entry 51 = .ok (.iload_n 2, 1) := by decide +kernel
theorem dX11_entry_52 : decode cX11_entry 52 = .ok (.iaload, 1) := by decide +kernel
theorem dX11_entry_53 : decode cX11_entry 53 = .ok (.istore 4, 2) := by decide +kernel
theorem dX11_entry_55 : decode cX11_entry 55 = .ok (.iconst 0, 1) := by decide +kernel
theorem dX11_entry_56 : decode cX11_entry 56 = .ok (.istore 5, 2) := by decide +kernel
theorem dX11_entry_58 : decode cX11_entry 58 = .ok (.iload 5, 2) := by decide +kernel
theorem dX11_entry_60 : decode cX11_entry 60 = .ok (.aload_n 0, 1) := by decide +kernel
theorem dX11_entry_61 : decode cX11_entry 61 = .ok (.getfield 200, 3) := by decide +kernel
theorem dX11_entry_64 : decode cX11_entry 64 = .ok (.if_icmp .ge 51, 3) := by decide +kernel
theorem dX11_entry_67 : decode cX11_entry 67 = .ok (.aload_n 0, 1) := by decide +kernel
theorem dX11_entry_68 : decode cX11_entry 68 = .ok (.getfield 82, 3) := by decide +kernel
theorem dX11_entry_71 : decode cX11_entry 71 = .ok (.iload 5, 2) := by decide +kernel
theorem dX11_entry_73 : decode cX11_entry 73 = .ok (.iaload, 1) := by decide +kernel
theorem dX11_entry_74 : decode cX11_entry 74 = .ok (.iload_n 1, 1) := by decide +kernel
theorem dX11_entry_75 : decode cX11_entry 75 = .ok (.if_icmp .ne 34, 3) := by decide +kernel
theorem dX11_entry_78 : decode cX11_entry 78 = .ok (.aload_n 0, 1) := by decide +kernel
theorem dX11_entry_79 : decode cX11_entry 79 = .ok (.getfield 85, 3) := by decide +kernel
theorem dX11_entry_82 : decode cX11_entry 82 = .ok (.iload 5, 2) := by decide +kernel
theorem dX11_entry_84 : decode cX11_entry 84 = .ok (.iaload, 1) := by decide +kernel
theorem dX11_entry_85 : decode cX11_entry 85 = .ok (.iload_n 2, 1) := by decide +kernel
theorem dX11_entry_86 : decode cX11_entry 86 = .ok (.if_icmp .ne 23, 3) := by decide +kernel
theorem dX11_entry_89 : decode cX11_entry 89 = .ok (.aload_n 0, 1) := by decide +kernel
theorem dX11_entry_90 : decode cX11_entry 90 = .ok (.getfield 91, 3) := by decide +kernel
theorem dX11_entry_93 : decode cX11_entry 93 = .ok (.iload 5, 2) := by decide +kernel
theorem dX11_entry_95 : decode cX11_entry 95 = .ok (.iaload, 1) := by decide +kernel
theorem dX11_entry_96 : decode cX11_entry 96 = .ok (.iload_n 3, 1) := by decide +kernel
theorem dX11_entry_97 : decode cX11_entry 97 = .ok (.if_icmp .gt 12, 3) := by decide +kernel
theorem dX11_entry_100 : decode cX11_entry 100 = .ok (.aload_n 0, 1) := by decide +kernel
theorem dX11_entry_101 : decode cX11_entry 101 = .ok (.getfield 88, 3) := by decide +kernel
theorem dX11_entry_104 : decode cX11_entry 104 = .ok (.iload 5, 2) := by decide +kernel
theorem dX11_entry_106 : decode cX11_entry 106 = .ok (.iaload, 1) := by decide +kernel
theorem dX11_entry_107 : decode cX11_entry 107 = .ok (.istore 4, 2) := by decide +kernel
theorem dX11_entry_109 : decode cX11_entry 109 = .ok (.iinc 5 1, 3) := by decide +kernel
theorem dX11_entry_112 : decode cX11_entry 112 = .ok (.goto (-54), 3) := by decide +kernel
theorem dX11_entry_115 : decode cX11_entry 115 = .ok (.iload 4, 2) := by decide +kernel
theorem dX11_entry_117 : decode cX11_entry 117 = .ok (.ireturn, 1) := by decide +kernel
theorem dX11_nameOf_0 : decode cX11_nameOf 0 = .ok (.aload_n 0, 1) := by decide +kernel
theorem dX11_nameOf_1 : decode cX11_nameOf 1 = .ok (.getfield 79, 3) := by decide +kernel
theorem dX11_nameOf_4 : decode cX11_nameOf 4 = .ok (.iload_n 1, 1) := by decide +kernel
theorem dX11_nameOf_5 : decode cX11_nameOf 5 = .ok (.aaload, 1) := by decide +kernel
theorem dX11_nameOf_6 : decode cX11_nameOf 6 = .ok (.astore 4, 2) := by decide +kernel
theorem dX11_nameOf_8 : decode cX11_nameOf 8 = .ok (.aload_n 0, 1) := by decide +kernel
theorem dX11_nameOf_9 : decode cX11_nameOf 9 = .ok (.aload 4, 2) := by decide +kernel
theorem dX11_nameOf_11 : decode cX11_nameOf 11 = .ok (.iconst 5, 1) := by decide +kernel
theorem dX11_nameOf_12 : decode cX11_nameOf 12 = .ok (.iload_n 3, 1) := by decide +kernel
theorem dX11_nameOf_13 : decode cX11_nameOf 13 = .ok (.iadd, 1) := by decide +kernel
theorem dX11_nameOf_14 : decode cX11_nameOf 14 = .ok (.iaload, 1) := by decide +kernel
theorem dX11_nameOf_15 : decode cX11_nameOf 15 = .ok (.aload 4, 2) := by decide +kernel
theorem dX11_nameOf_17 : decode cX11_nameOf 17 = .ok (.iconst 0, 1) := by decide +kernel
theorem dX11_nameOf_18 : decode cX11_nameOf 18 = .ok (.iaload, 1) := by decide +kernel
theorem dX11_nameOf_19 : decode cX11_nameOf 19 = .ok (.bipush 7, 2) := by decide +kernel
theorem dX11_nameOf_21 : decode cX11_nameOf 21 = .ok (.invokevirtual 124, 3) := by decide +kernel
theorem dX11_nameOf_24 : decode cX11_nameOf 24 = .ok (.istore 5, 2) := by decide +kernel
theorem dX11_nameOf_26 : decode cX11_nameOf 26 = .ok (.iload 5, 2) := by decide +kernel
theorem dX11_nameOf_28 : decode cX11_nameOf 28 = .ok (.ifCond .ne 12, 3) := by decide +kernel
theorem dX11_nameOf_31 : decode cX11_nameOf 31 = .ok (.aload 4, 2) := by decide +kernel
theorem dX11_nameOf_33 : decode cX11_nameOf 33 = .ok (.iconst 1, 1) := by decide +kernel
theorem dX11_nameOf_34 : decode cX11_nameOf 34 = .ok (.iload_n 2, 1) := by decide +kernel
theorem dX11_nameOf_35 : decode cX11_nameOf 35 = .ok (.iadd, 1) := by decide +kernel
theorem dX11_nameOf_36 : decode cX11_nameOf 36 = .ok (.iaload, 1) := by decide +kernel
theorem dX11_nameOf_37 : decode cX11_nameOf 37 = .ok (.goto 29, 3) := by decide +kernel
theorem dX11_nameOf_40 : decode cX11_nameOf 40 = .ok (.iload 5, 2) := by decide +kernel
theorem dX11_nameOf_42 : decode cX11_nameOf 42 = .ok (.iconst 1, 1) := by decide +kernel
theorem dX11_nameOf_43 : decode cX11_nameOf 43 = .ok (.if_icmp .ne 10, 3) := by decide +kernel
theorem dX11_nameOf_46 : decode cX11_nameOf 46 = .ok (.aload 4, 2) := by decide +kernel
theorem dX11_nameOf_48 : decode cX11_nameOf 48 = .ok (.iconst 1, 1) := by decide +kernel
theorem dX11_nameOf_49 : decode cX11_nameOf 49 = .ok (.iaload, 1) := by decide +kernel
theorem dX11_nameOf_50 : decode cX11_nameOf 50 = .ok (.goto 16, 3) := by decide +kernel
theorem dX11_nameOf_53 : decode cX11_nameOf 53 = .ok (.sipush 10000, 3) := by decide +kernel
theorem dX11_nameOf_56 : decode cX11_nameOf 56 = .ok (.aload 4, 2) := by decide +kernel
theorem dX11_nameOf_58 : decode cX11_nameOf 58 = .ok (.iconst 1, 1) := by decide +kernel
theorem dX11_nameOf_59 : decode cX11_nameOf 59 = .ok (.iaload, 1) := by decide +kernel
theorem dX11_nameOf_60 : decode cX11_nameOf 60 = .ok (.imul, 1) := by decide +kernel
theorem dX11_nameOf_61 : decode cX11_nameOf 61 = .ok (.aload 4, 2) := by decide +kernel
theorem dX11_nameOf_63 : decode cX11_nameOf 63 = .ok (.iconst 2, 1) := by decide +kernel
theorem dX11_nameOf_64 : decode cX11_nameOf 64 = .ok (.iaload, 1) := by decide +kernel
theorem dX11_nameOf_65 : decode cX11_nameOf 65 = .ok (.iadd, 1) := by decide +kernel
theorem dX11_nameOf_66 : decode cX11_nameOf 66 = .ok (.ireturn, 1) := by decide +kernel
theorem dX11_name_0 : decode cX11_name 0 = .ok (.iload_n 1, 1) := by decide +kernel
theorem dX11_name_1 : decode cX11_name 1 = .ok (.iconst 0, 1) := by decide +kernel
theorem dX11_name_2 : decode cX11_name 2 = .ok (.aload_n 0, 1) := by decide +kernel
theorem dX11_name_3 : decode cX11_name 3 = .ok (.getfield 197, 3) := by decide +kernel
theorem dX11_name_6 : decode cX11_name 6 = .ok (.iconst 1, 1) := by decide +kernel
theorem dX11_name_7 : decode cX11_name 7 = .ok (.isub, 1) := by decide +kernel
theorem dX11_name_8 : decode cX11_name 8 = .ok (.invokestatic 98, 3) := by decide +kernel
theorem dX11_name_11 : decode cX11_name 11 = .ok (.ifCond .eq 31, 3) := by decide +kernel
theorem dX11_name_14 : decode cX11_name 14 = .ok (.iload_n 2, 1) := by decide +kernel
theorem dX11_name_15 : decode cX11_name 15 = .ok (.iconst 0, 1) := by decide +kernel
theorem dX11_name_16 : decode cX11_name 16 = .ok (.iconst 1, 1) := by decide +kernel
theorem dX11_name_17 : decode cX11_name 17 = .ok (.invokestatic 98, 3) := by decide +kernel
theorem dX11_name_20 : decode cX11_name 20 = .ok (.ifCond .eq 22, 3) := by decide +kernel
theorem dX11_name_23 : decode cX11_name 23 = .ok (.iload_n 3, 1) := by decide +kernel
theorem dX11_name_24 : decode cX11_name 24 = .ok (.iconst 0, 1) := by decide +kernel
theorem dX11_name_25 : decode cX11_name 25 = .ok (.iconst 1, 1) := by decide +kernel
theorem dX11_name_26 : decode cX11_name 26 = .ok (.invokestatic 98, 3) := by decide +kernel
theorem dX11_name_29 : decode cX11_name 29 = .ok (.ifCond .eq 13, 3) := by decide +kernel
theorem dX11_name_32 : decode cX11_name 32 = .ok (.aload_n 0, 1) := by decide +kernel
theorem dX11_name_33 : decode cX11_name 33 = .ok (.iload_n 1, 1) := by decide +kernel
theorem dX11_name_34 : decode cX11_name 34 = .ok (.iload_n 2, 1) := by decide +kernel
theorem dX11_name_35 : decode cX11_name 35 = .ok (.iload_n 3, 1) := by decide +kernel
theorem dX11_name_36 : decode cX11_name 36 = .ok (.invokevirtual 203, 3) := by decide +kernel
theorem dX11_name_39 : decode cX11_name 39 = .ok (.goto 4, 3) := by decide +kernel
theorem dX11_name_42 : decode cX11_name 42 = .ok (.iconst (-1), 1) := by decide +kernel
theorem dX11_name_43 : decode cX11_name 43 = .ok (.ireturn, 1) := by decide +kernel
theorem dX11_quarrel_0 : decode cX11_quarrel 0 = .ok (.iload_n 1, 1) := by decide +kernel
theorem dX11_quarrel_1 : decode cX11_quarrel 1 = .ok (.iconst 0, 1) := by decide +kernel
theorem dX11_quarrel_2 : decode cX11_quarrel 2 = .ok (.aload_n 0, 1) := by decide +kernel
theorem dX11_quarrel_3 : decode cX11_quarrel 3 = .ok (.getfield 197, 3) := by decide +kernel
theorem dX11_quarrel_6 : decode cX11_quarrel 6 = .ok (.iconst 1, 1) := by decide +kernel
theorem dX11_quarrel_7 : decode cX11_quarrel 7 = .ok (.isub, 1) := by decide +kernel
theorem dX11_quarrel_8 : decode cX11_quarrel 8 = .ok (.invokestatic 98, 3) := by decide +kernel
theorem dX11_quarrel_11 : decode cX11_quarrel 11 = .ok (.ifCond .ne 5, 3) := by decide +kernel
theorem dX11_quarrel_14 : decode cX11_quarrel 14 = .ok (.iconst 0, 1) := by decide +kernel
theorem dX11_quarrel_15 : decode cX11_quarrel 15 = .ok (.ireturn, 1) := by decide +kernel
theorem dX11_quarrel_16 : decode cX11_quarrel 16 = .ok (.aload_n 0, 1) := by decide +kernel
theorem dX11_quarrel_17 : decode cX11_quarrel 17 = .ok (.iload_n 1, 1) := by decide +kernel
theorem dX11_quarrel_18 : decode cX11_quarrel 18 = .ok (.iconst 0, 1) := by decide +kernel
theorem dX11_quarrel_19 : decode cX11_quarrel 19 = .ok (.iconst 0, 1) := by decide +kernel
theorem dX11_quarrel_20 : decode cX11_quarrel 20 = .ok (.invokevirtual 203, 3) := by decide +kernel
theorem dX11_quarrel_23 : decode cX11_quarrel 23 = .ok (.aload_n 0, 1) := by decide +kernel
theorem dX11_quarrel_24 : decode cX11_quarrel 24 = .ok (.iload_n 1, 1) := by decide +kernel
theorem dX11_quarrel_25 : decode cX11_quarrel 25 = .ok (.iconst 0, 1) := by decide +kernel
theorem dX11_quarrel_26 : decode cX11_quarrel 26 = .ok (.iconst 1, 1) := by decide +kernel
theorem dX11_quarrel_27 : decode cX11_quarrel 27 = .ok (.invokevirtual 203, 3) := by decide +kernel
theorem dX11_quarrel_30 : decode cX11_quarrel 30 = .ok (.if_icmp .ne 20, 3) := by decide +kernel
theorem dX11_quarrel_33 : decode cX11_quarrel 33 = .ok (.aload_n 0, 1) := by decide +kernel
theorem dX11_quarrel_34 : decode cX11_quarrel 34 = .ok (.iload_n 1, 1) := by decide +kernel
theorem dX11_quarrel_35 : decode cX11_quarrel 35 = .ok (.iconst 1, 1) := by decide +kernel
theorem dX11_quarrel_36 : decode cX11_quarrel 36 = .ok (.iconst 0, 1) := by decide +kernel
theorem dX11_quarrel_37 : decode cX11_quarrel 37 = .ok (.invokevirtual 203, 3) := by decide +kernel
theorem dX11_quarrel_40 : decode cX11_quarrel 40 = .ok (.aload_n 0, 1) := by decide +kernel
theorem dX11_quarrel_41 : decode cX11_quarrel 41 = .ok (.iload_n 1, 1) := by decide +kernel
theorem dX11_quarrel_42 : decode cX11_quarrel 42 = .ok (.iconst 1, 1) := by decide +kernel
theorem dX11_quarrel_43 : decode cX11_quarrel 43 = .ok (.iconst 1, 1) := by decide +kernel
theorem dX11_quarrel_44 : decode cX11_quarrel 44 = .ok (.invokevirtual 203, 3) := by decide +kernel
theorem dX11_quarrel_47 : decode cX11_quarrel 47 = .ok (.if_icmp .eq 7, 3) := by decide +kernel
theorem dX11_quarrel_50 : decode cX11_quarrel 50 = .ok (.iconst 1, 1) := by decide +kernel
theorem dX11_quarrel_51 : decode cX11_quarrel 51 = .ok (.goto 4, 3) := by decide +kernel
theorem dX11_quarrel_54 : decode cX11_quarrel 54 = .ok (.iconst 0, 1) := by decide +kernel
theorem dX11_quarrel_55 : decode cX11_quarrel 55 = .ok (.ireturn, 1) := by decide +kernel
theorem dX11_told_0 : decode cX11_told 0 = .ok (.aload_n 0, 1) := by decide +kernel
theorem dX11_told_1 : decode cX11_told 1 = .ok (.iload_n 1, 1) := by decide +kernel
theorem dX11_told_2 : decode cX11_told 2 = .ok (.invokevirtual 162, 3) := by decide +kernel
theorem dX11_told_5 : decode cX11_told 5 = .ok (.ifCond .ne 5, 3) := by decide +kernel
theorem dX11_told_8 : decode cX11_told 8 = .ok (.iconst (-1), 1) := by decide +kernel
theorem dX11_told_9 : decode cX11_told 9 = .ok (.ireturn, 1) := by decide +kernel
theorem dX11_told_10 : decode cX11_told 10 = .ok (.iload_n 2, 1) := by decide +kernel
theorem dX11_told_11 : decode cX11_told 11 = .ok (.tableswitch 67 0 4 #[33, 40, 47, 53, 60], 33) := by decide +kernel
theorem dX11_told_44 : decode cX11_told 44 = .ok (.aload_n 0, 1) := by decide +kernel
theorem dX11_told_45 : decode cX11_told 45 = .ok (.getfield 61, 3) := by decide +kernel
theorem dX11_told_48 : decode cX11_told 48 = .ok (.iload_n 1, 1) := by decide +kernel
theorem dX11_told_49 : decode cX11_told 49 = .ok (.iaload, 1) := by decide +kernel
theorem dX11_told_50 : decode cX11_told 50 = .ok (.ireturn, 1) := by decide +kernel
theorem dX11_told_51 : decode cX11_told 51 = .ok (.aload_n 0, 1) := by decide +kernel
theorem dX11_told_52 : decode cX11_told 52 = .ok (.getfield 58, 3) := by decide +kernel
theorem dX11_told_55 : decode cX11_told 55 = .ok (.iload_n 1, 1) := by decide +kernel
theorem dX11_told_56 : decode cX11_told 56 = .ok (.iaload, 1) := by decide +kernel
theorem dX11_told_57 : decode cX11_told 57 = .ok (.ireturn, 1) := by decide +kernel
theorem dX11_told_58 : decode cX11_told 58 = .ok (.aload_n 0, 1) := by decide +kernel
theorem dX11_told_59 : decode cX11_told 59 = .ok (.iload_n 1, 1) := by decide +kernel
theorem dX11_told_60 : decode cX11_told 60 = .ok (.invokevirtual 181, 3) := by decide +kernel
theorem dX11_told_63 : decode cX11_told 63 = .ok (.ireturn, 1) := by decide +kernel
theorem dX11_told_64 : decode cX11_told 64 = .ok (.aload_n 0, 1) := by decide +kernel
theorem dX11_told_65 : decode cX11_told 65 = .ok (.getfield 64, 3) := by decide +kernel
theorem dX11_told_68 : decode cX11_told 68 = .ok (.iload_n 1, 1) := by decide +kernel
theorem dX11_told_69 : decode cX11_told 69 = .ok (.iaload, 1) := by decide +kernel
theorem dX11_told_70 : decode cX11_told 70 = .ok (.ireturn, 1) := by decide +kernel
theorem dX11_told_71 : decode cX11_told 71 = .ok (.aload_n 0, 1) := by decide +kernel
theorem dX11_told_72 : decode cX11_told 72 = .ok (.getfield 67, 3) := by decide +kernel
theorem dX11_told_75 : decode cX11_told 75 = .ok (.iload_n 1, 1) := by decide +kernel
theorem dX11_told_76 : decode cX11_told 76 = .ok (.iaload, 1) := by decide +kernel
theorem dX11_told_77 : decode cX11_told 77 = .ok (.ireturn, 1) := by decide +kernel
theorem dX11_told_78 : decode cX11_told 78 = .ok (.iconst (-1), 1) := by decide +kernel
theorem dX11_told_79 : decode cX11_told 79 = .ok (.ireturn, 1) := by decide +kernel
theorem dX11_married_0 : decode cX11_married 0 = .ok (.aload_n 0, 1) := by decide +kernel
theorem dX11_married_1 : decode cX11_married 1 = .ok (.iload_n 1, 1) := by decide +kernel
theorem dX11_married_2 : decode cX11_married 2 = .ok (.invokevirtual 117, 3) := by decide +kernel
theorem dX11_married_5 : decode cX11_married 5 = .ok (.ifCond .eq 12, 3) := by decide +kernel
theorem dX11_married_8 : decode cX11_married 8 = .ok (.aload_n 0, 1) := by decide +kernel
theorem dX11_married_9 : decode cX11_married 9 = .ok (.getfield 36, 3) := by decide +kernel
theorem dX11_married_12 : decode cX11_married 12 = .ok (.iload_n 1, 1) := by decide +kernel
theorem dX11_married_13 : decode cX11_married 13 = .ok (.iaload, 1) := by decide +kernel
theorem dX11_married_14 : decode cX11_married 14 = .ok (.goto 4, 3) := by decide +kernel
theorem dX11_married_17 : decode cX11_married 17 = .ok (.iconst (-1), 1) := by decide +kernel
theorem dX11_married_18 : decode cX11_married 18 = .ok (.ireturn, 1) := by decide +kernel
theorem dX11_count_0 : decode cX11_count 0 = .ok (.iload_n 1, 1) := by decide +kernel
theorem dX11_count_1 : decode cX11_count 1 = .ok (.tableswitch 111 0 5 #[39, 44, 49, 54, 59, 64], 39) := by decide +kernel
theorem dX11_count_40 : decode cX11_count 40 = .ok (.aload_n 0, 1) := by decide +kernel
theorem dX11_count_41 : decode cX11_count 41 = .ok (.getfield 114, 3) := by decide +kernel
theorem dX11_count_44 : decode cX11_count 44 = .ok (.ireturn, 1) := by decide +kernel
theorem dX11_count_45 : decode cX11_count 45 = .ok (.aload_n 0, 1) := by decide +kernel
theorem dX11_count_46 : decode cX11_count 46 = .ok (.getfield 94, 3) := by decide +kernel
theorem dX11_count_49 : decode cX11_count 49 = .ok (.ireturn, 1) := by decide +kernel
theorem dX11_count_50 : decode cX11_count 50 = .ok (.aload_n 0, 1) := by decide +kernel
theorem dX11_count_51 : decode cX11_count 51 = .ok (.getfield 102, 3) := by decide +kernel
theorem dX11_count_54 : decode cX11_count 54 = .ok (.ireturn, 1) := by decide +kernel
theorem dX11_count_55 : decode cX11_count 55 = .ok (.aload_n 0, 1) := by decide +kernel
theorem dX11_count_56 : decode cX11_count 56 = .ok (.getfield 197, 3) := by decide +kernel
theorem dX11_count_59 : decode cX11_count 59 = .ok (.ireturn, 1) := by decide +kernel
theorem dX11_count_60 : decode cX11_count 60 = .ok (.aload_n 0, 1) := by decide +kernel
theorem dX11_count_61 : decode cX11_count 61 = .ok (.getfield 178, 3) := by decide +kernel
theorem dX11_count_64 : decode cX11_count 64 = .ok (.ireturn, 1) := by decide +kernel
theorem dX11_count_65 : decode cX11_count 65 = .ok (.iconst 0, 1) := by decide +kernel
theorem dX11_count_66 : decode cX11_count 66 = .ok (.istore_n 2, 1) := by decide +kernel
theorem dX11_count_67 : decode cX11_count 67 = .ok (.iconst 0, 1) := by decide +kernel
theorem dX11_count_68 : decode cX11_count 68 = .ok (.istore_n 3, 1) := by decide +kernel
theorem dX11_count_69 : decode cX11_count 69 = .ok (.iload_n 3, 1) := by decide +kernel
theorem dX11_count_70 : decode cX11_count 70 = .ok (.aload_n 0, 1) := by decide +kernel
theorem dX11_count_71 : decode cX11_count 71 = .ok (.getfield 102, 3) := by decide +kernel
theorem dX11_count_74 : decode cX11_count 74 = .ok (.if_icmp .ge 36, 3) := by decide +kernel
theorem dX11_count_77 : decode cX11_count 77 = .ok (.iload_n 2, 1) := by decide +kernel
theorem dX11_count_78 : decode cX11_count 78 = .ok (.aload_n 0, 1) := by decide +kernel
theorem dX11_count_79 : decode cX11_count 79 = .ok (.getfield 61, 3) := by decide +kernel
theorem dX11_count_82 : decode cX11_count 82 = .ok (.iload_n 3, 1) := by decide +kernel
theorem dX11_count_83 : decode cX11_count 83 = .ok (.iaload, 1) := by decide +kernel
theorem dX11_count_84 : decode cX11_count 84 = .ok (.ifCond .ne 17, 3) := by decide +kernel
theorem dX11_count_87 : decode cX11_count 87 = .ok (.aload_n 0, 1) := by decide +kernel
theorem dX11_count_88 : decode cX11_count 88 = .ok (.getfield 64, 3) := by decide +kernel
theorem dX11_count_91 : decode cX11_count 91 = .ok (.iload_n 3, 1) := by decide +kernel
theorem dX11_count_92 : decode cX11_count 92 = .ok (.iaload, 1) := by decide +kernel
theorem dX11_count_93 : decode cX11_count 93 = .ok (.iconst (-1), 1) := by decide +kernel
theorem dX11_count_94 : decode cX11_count 94 = .ok (.if_icmp .eq 7, 3) := by decide +kernel
theorem dX11_count_97 : decode cX11_count 97 = .ok (.iconst 1, 1) := by decide +kernel
theorem dX11_count_98 : decode cX11_count 98 = .ok (.goto 4, 3) := by decide +kernel
theorem dX11_count_101 : decode cX11_count 101 = .ok (.iconst 0, 1) := by decide +kernel
theorem dX11_count_102 : decode cX11_count 102 = .ok (.iadd, 1) := by decide +kernel
theorem dX11_count_103 : decode cX11_count 103 = .ok (.istore_n 2, 1) := by decide +kernel
theorem dX11_count_104 : decode cX11_count 104 = .ok (.iinc 3 1, 3) := by decide +kernel
theorem dX11_count_107 : decode cX11_count 107 = .ok (.goto (-38), 3) := by decide +kernel
theorem dX11_count_110 : decode cX11_count 110 = .ok (.iload_n 2, 1) := by decide +kernel
theorem dX11_count_111 : decode cX11_count 111 = .ok (.ireturn, 1) := by decide +kernel
theorem dX11_count_112 : decode cX11_count 112 = .ok (.iconst (-1), 1) := by decide +kernel
theorem dX11_count_113 : decode cX11_count 113 = .ok (.ireturn, 1) := by decide +kernel
end
section
theorem dL_law_0 : decode cL_law 0 = .ok (.new 7, 3) := by decide +kernel
theorem dL_law_3 : decode cL_law 3 = .ok (.dup, 1) := by decide +kernel
theorem dL_law_4 : decode cL_law 4 = .ok (.invokespecial 9, 3) := by decide +kernel
theorem dL_law_7 : decode cL_law 7 = .ok (.astore_n 1, 1) := by decide +kernel
theorem dL_law_8 : decode cL_law 8 = .ok (.new 10, 3) := by decide +kernel
theorem dL_law_11 : decode cL_law 11 = .ok (.dup, 1) := by decide +kernel
theorem dL_law_12 : decode cL_law 12 = .ok (.invokespecial 12, 3) := by decide +kernel
theorem dL_law_15 : decode cL_law 15 = .ok (.astore_n 2, 1) := by decide +kernel
theorem dL_law_16 : decode cL_law 16 = .ok (.iconst 0, 1) := by decide +kernel
theorem dL_law_17 : decode cL_law 17 = .ok (.istore_n 3, 1) := by decide +kernel
theorem dL_law_18 : decode cL_law 18 = .ok (.iload_n 3, 1) := by decide +kernel
theorem dL_law_19 : decode cL_law 19 = .ok (.aload_n 0, 1) := by decide +kernel
theorem dL_law_20 : decode cL_law 20 = .ok (.arraylength, 1) := by decide +kernel
theorem dL_law_21 : decode cL_law 21 = .ok (.iconst 5, 1) := by decide +kernel
theorem dL_law_22 : decode cL_law 22 = .ok (.isub, 1) := by decide +kernel
theorem dL_law_23 : decode cL_law 23 = .ok (.if_icmp .gt 952, 3) := by decide +kernel
theorem dL_law_26 : decode cL_law 26 = .ok (.aload_n 0, 1) := by decide +kernel
theorem dL_law_27 : decode cL_law 27 = .ok (.iload_n 3, 1) := by decide +kernel
theorem dL_law_28 : decode cL_law 28 = .ok (.iaload, 1) := by decide +kernel
theorem dL_law_29 : decode cL_law 29 = .ok (.bipush 31, 2) := by decide +kernel
theorem dL_law_31 : decode cL_law 31 = .ok (.iand, 1) := by decide +kernel
theorem dL_law_32 : decode cL_law 32 = .ok (.tableswitch 937 0 24 #[116, 169, 222, 265, 288, 311, 344, 387, 420, 443, 476, 499, 522, 571, 594, 637, 660, 683, 706, 749, 792, 835, 858, 891, 914], 116) := by decide +kernel
theorem dL_law_148 : decode cL_law 148 = .ok (.aload_n 1, 1) := by decide +kernel
theorem dL_law_149 : decode cL_law 149 = .ok (.aload_n 0, 1) := by decide +kernel
theorem dL_law_150 : decode cL_law 150 = .ok (.iload_n 3, 1) := by decide +kernel
theorem dL_law_151 : decode cL_law 151 = .ok (.iconst 1, 1) := by decide +kernel
theorem dL_law_152 : decode cL_law 152 = .ok (.iadd, 1) := by decide +kernel
theorem dL_law_153 : decode cL_law 153 = .ok (.iaload, 1) := by decide +kernel
theorem dL_law_154 : decode cL_law 154 = .ok (.aload_n 0, 1) := by decide +kernel
theorem dL_law_155 : decode cL_law 155 = .ok (.iload_n 3, 1) := by decide +kernel
theorem dL_law_156 : decode cL_law 156 = .ok (.iconst 2, 1) := by decide +kernel
theorem dL_law_157 : decode cL_law 157 = .ok (.iadd, 1) := by decide +kernel
theorem dL_law_158 : decode cL_law 158 = .ok (.iaload, 1) := by decide +kernel
theorem dL_law_159 : decode cL_law 159 = .ok (.aload_n 0, 1) := by decide +kernel
theorem dL_law_160 : decode cL_law 160 = .ok (.iload_n 3, 1) := by decide +kernel
theorem dL_law_161 : decode cL_law 161 = .ok (.iconst 3, 1) := by decide +kernel
theorem dL_law_162 : decode cL_law 162 = .ok (.iadd, 1) := by decide +kernel
theorem dL_law_163 : decode cL_law 163 = .ok (.iaload, 1) := by decide +kernel
theorem dL_law_164 : decode cL_law 164 = .ok (.aload_n 0, 1) := by decide +kernel
theorem dL_law_165 : decode cL_law 165 = .ok (.iload_n 3, 1) := by decide +kernel
theorem dL_law_166 : decode cL_law 166 = .ok (.iconst 4, 1) := by decide +kernel
theorem dL_law_167 : decode cL_law 167 = .ok (.iadd, 1) := by decide +kernel
theorem dL_law_168 : decode cL_law 168 = .ok (.iaload, 1) := by decide +kernel
theorem dL_law_169 : decode cL_law 169 = .ok (.invokevirtual 13, 3) := by decide +kernel
theorem dL_law_172 : decode cL_law 172 = .ok (.aload_n 2, 1) := by decide +kernel
theorem dL_law_173 : decode cL_law 173 = .ok (.aload_n 0, 1) := by decide +kernel
theorem dL_law_174 : decode cL_law 174 = .ok (.iload_n 3, 1) := by decide +kernel
theorem dL_law_175 : decode cL_law 175 = .ok (.iconst 1, 1) := by decide +kernel
theorem dL_law_176 : decode cL_law 176 = .ok (.iadd, 1) := by decide +kernel
theorem dL_law_177 : decode cL_law 177 = .ok (.iaload, 1) := by decide +kernel
theorem dL_law_178 : decode cL_law 178 = .ok (.aload_n 0, 1) := by decide +kernel
theorem dL_law_179 : decode cL_law 179 = .ok (.iload_n 3, 1) := by decide +kernel
theorem dL_law_180 : decode cL_law 180 = .ok (.iconst 2, 1) := by decide +kernel
theorem dL_law_181 : decode cL_law 181 = .ok (.iadd, 1) := by decide +kernel
theorem dL_law_182 : decode cL_law 182 = .ok (.iaload, 1) := by decide +kernel
theorem dL_law_183 : decode cL_law 183 = .ok (.aload_n 0, 1) := by decide +kernel
theorem dL_law_184 : decode cL_law 184 = .ok (.iload_n 3, 1) := by decide +kernel
theorem dL_law_185 : decode cL_law 185 = .ok (.iconst 3, 1) := by decide +kernel
theorem dL_law_186 : decode cL_law 186 = .ok (.iadd, 1) := by decide +kernel
theorem dL_law_187 : decode cL_law 187 = .ok (.iaload, 1) := by decide +kernel
theorem dL_law_188 : decode cL_law 188 = .ok (.aload_n 0, 1) := by decide +kernel
theorem dL_law_189 : decode cL_law 189 = .ok (.iload_n 3, 1) := by decide +kernel
theorem dL_law_190 : decode cL_law 190 = .ok (.iconst 4, 1) := by decide +kernel
theorem dL_law_191 : decode cL_law 191 = .ok (.iadd, 1) := by decide +kernel
theorem dL_law_192 : decode cL_law 192 = .ok (.iaload, 1) := by decide +kernel
theorem dL_law_193 : decode cL_law 193 = .ok (.invokevirtual 17, 3) := by decide +kernel
theorem dL_law_196 : decode cL_law 196 = .ok (.if_icmp .eq 773, 3) := by decide +kernel
theorem dL_law_199 : decode cL_law 199 = .ok (.iconst 0, 1) := by decide +kernel
theorem dL_law_200 : decode cL_law 200 = .ok (.ireturn, 1) := by decide +kernel
theorem dL_law_201 : decode cL_law 201 = .ok (.aload_n 1, 1) := by decide +kernel
theorem dL_law_202 : decode cL_law 202 = .ok (.aload_n 0, 1) := by decide +kernel
theorem dL_law_203 : decode cL_law 203 = .ok (.iload_n 3, 1) := by decide +kernel
theorem dL_law_204 : decode cL_law 204 = .ok (.iconst 1, 1) := by decide +kernel
theorem dL_law_205 : decode cL_law 205 = .ok (.iadd, 1) := by decide +kernel
theorem dL_law_206 : decode cL_law 206 = .ok (.iaload, 1) := by decide +kernel
theorem dL_law_207 : decode cL_law 207 = .ok (.aload_n 0, 1) := by decide +kernel
theorem dL_law_208 : decode cL_law 208 = .ok (.iload_n 3, 1) := by decide +kernel
theorem dL_law_209 : decode cL_law 209 = .ok (.iconst 2, 1) := by decide +kernel
theorem dL_law_210 : decode cL_law 210 = .ok (.iadd, 1) := by decide +kernel
theorem dL_law_211 : decode cL_law 211 = .ok (.iaload, 1) := by decide +kernel
theorem dL_law_212 : decode cL_law 212 = .ok (.aload_n 0, 1) := by decide +kernel
theorem dL_law_213 : decode cL_law 213 = .ok (.iload_n 3, 1) := by decide +kernel
theorem dL_law_214 : decode cL_law 214 = .ok (.iconst 3, 1) := by decide +kernel
theorem dL_law_215 : decode cL_law 215 = .ok (.iadd, 1) := by decide +kernel
theorem dL_law_216 : decode cL_law 216 = .ok (.iaload, 1) := by decide +kernel
theorem dL_law_217 : decode cL_law 217 = .ok (.aload_n 0, 1) := by decide +kernel
theorem dL_law_218 : decode cL_law 218 = .ok (.iload_n 3, 1) := by decide +kernel
theorem dL_law_219 : decode cL_law 219 = .ok (.iconst 4, 1) := by decide +kernel
theorem dL_law_220 : decode cL_law 220 = .ok (.iadd, 1) := by decide +kernel
theorem dL_law_221 : decode cL_law 221 = .ok (.iaload, 1) := by decide +kernel
theorem dL_law_222 : decode cL_law 222 = .ok (.invokevirtual 18, 3) := by decide +kernel
theorem dL_law_225 : decode cL_law 225 = .ok (.aload_n 2, 1) := by decide +kernel
theorem dL_law_226 : decode cL_law 226 = .ok (.aload_n 0, 1) := by decide +kernel
theorem dL_law_227 : decode cL_law 227 = .ok (.iload_n 3, 1) := by decide +kernel
theorem dL_law_228 : decode cL_law 228 = .ok (.iconst 1, 1) := by decide +kernel
theorem dL_law_229 : decode cL_law 229 = .ok (.iadd, 1) := by decide +kernel
theorem dL_law_230 : decode cL_law 230 = .ok (.iaload, 1) := by decide +kernel
theorem dL_law_231 : decode cL_law 231 = .ok (.aload_n 0, 1) := by decide +kernel
theorem dL_law_232 : decode cL_law 232 = .ok (.iload_n 3, 1) := by decide +kernel
theorem dL_law_233 : decode cL_law 233 = .ok (.iconst 2, 1) := by decide +kernel
theorem dL_law_234 : decode cL_law 234 = .ok (.iadd, 1) := by decide +kernel
theorem dL_law_235 : decode cL_law 235 = .ok (.iaload, 1) := by decide +kernel
theorem dL_law_236 : decode cL_law 236 = .ok (.aload_n 0, 1) := by decide +kernel
theorem dL_law_237 : decode cL_law 237 = .ok (.iload_n 3, 1) := by decide +kernel
theorem dL_law_238 : decode cL_law 238 = .ok (.iconst 3, 1) := by decide +kernel
theorem dL_law_239 : decode cL_law 239 = .ok (.iadd, 1) := by decide +kernel
theorem dL_law_240 : decode cL_law 240 = .ok (.iaload, 1) := by decide +kernel
theorem dL_law_241 : decode cL_law 241 = .ok (.aload_n 0, 1) := by decide +kernel
theorem dL_law_242 : decode cL_law 242 = .ok (.iload_n 3, 1) := by decide +kernel
theorem dL_law_243 : decode cL_law 243 = .ok (.iconst 4, 1) := by decide +kernel
theorem dL_law_244 : decode cL_law 244 = .ok (.iadd, 1) := by decide +kernel
theorem dL_law_245 : decode cL_law 245 = .ok (.iaload, 1) := by decide +kernel
theorem dL_law_246 : decode cL_law 246 = .ok (.invokevirtual 22, 3) := by decide +kernel
theorem dL_law_249 : decode cL_law 249 = .ok (.if_icmp .eq 720, 3) := by decide +kernel
theorem dL_law_252 : decode cL_law 252 = .ok (.iconst 0, 1) := by decide +kernel
theorem dL_law_253 : decode cL_law 253 = .ok (.ireturn, 1) := by decide +kernel
theorem dL_law_254 : decode cL_law 254 = .ok (.aload_n 1, 1) := by decide +kernel
theorem dL_law_255 : decode cL_law 255 = .ok (.aload_n 0, 1) := by decide +kernel
theorem dL_law_256 : decode cL_law 256 = .ok (.iload_n 3, 1) := by decide +kernel
theorem dL_law_257 : decode cL_law 257 = .ok (.iconst 1, 1) := by decide +kernel
theorem dL_law_258 : decode cL_law 258 = .ok (.iadd, 1) := by decide +kernel
theorem dL_law_259 : decode cL_law 259 = .ok (.iaload, 1) := by decide +kernel
theorem dL_law_260 : decode cL_law 260 = .ok (.aload_n 0, 1) := by decide +kernel
theorem dL_law_261 : decode cL_law 261 = .ok (.iload_n 3, 1) := by decide +kernel
theorem dL_law_262 : decode cL_law 262 = .ok (.iconst 2, 1) := by decide +kernel
theorem dL_law_263 : decode cL_law 263 = .ok (.iadd, 1) := by decide +kernel
theorem dL_law_264 : decode cL_law 264 = .ok (.iaload, 1) := by decide +kernel
theorem dL_law_265 : decode cL_law 265 = .ok (.aload_n 0, 1) := by decide +kernel
theorem dL_law_266 : decode cL_law 266 = .ok (.iload_n 3, 1) := by decide +kernel
theorem dL_law_267 : decode cL_law 267 = .ok (.iconst 3, 1) := by decide +kernel
theorem dL_law_268 : decode cL_law 268 = .ok (.iadd, 1) := by decide +kernel
theorem dL_law_269 : decode cL_law 269 = .ok (.iaload, 1) := by decide +kernel
theorem dL_law_270 : decode cL_law 270 = .ok (.invokevirtual 23, 3) := by decide +kernel
theorem dL_law_273 : decode cL_law 273 = .ok (.aload_n 2, 1) := by decide +kernel
theorem dL_law_274 : decode cL_law 274 = .ok (.aload_n 0, 1) := by decide +kernel
theorem dL_law_275 : decode cL_law 275 = .ok (.iload_n 3, 1) := by decide +kernel
theorem dL_law_276 : decode cL_law 276 = .ok (.iconst 1, 1) := by decide +kernel
theorem dL_law_277 : decode cL_law 277 = .ok (.iadd, 1) := by decide +kernel
theorem dL_law_278 : decode cL_law 278 = .ok (.iaload, 1) := by decide +kernel
theorem dL_law_279 : decode cL_law 279 = .ok (.aload_n 0, 1) := by decide +kernel
theorem dL_law_280 : decode cL_law 280 = .ok (.iload_n 3, 1) := by decide +kernel
theorem dL_law_281 : decode cL_law 281 = .ok (.iconst 2, 1) := by decide +kernel
theorem dL_law_282 : decode cL_law 282 = .ok (.iadd, 1) := by decide +kernel
theorem dL_law_283 : decode cL_law 283 = .ok (.iaload, 1) := by decide +kernel
theorem dL_law_284 : decode cL_law 284 = .ok (.aload_n 0, 1) := by decide +kernel
theorem dL_law_285 : decode cL_law 285 = .ok (.iload_n 3, 1) := by decide +kernel
theorem dL_law_286 : decode cL_law 286 = .ok (.iconst 3, 1) := by decide +kernel
theorem dL_law_287 : decode cL_law 287 = .ok (.iadd, 1) := by decide +kernel
theorem dL_law_288 : decode cL_law 288 = .ok (.iaload, 1) := by decide +kernel
theorem dL_law_289 : decode cL_law 289 = .ok (.invokevirtual 27, 3) := by decide +kernel
theorem dL_law_292 : decode cL_law 292 = .ok (.if_icmp .eq 677, 3) := by decide +kernel
theorem dL_law_295 : decode cL_law 295 = .ok (.iconst 0, 1) := by decide +kernel
theorem dL_law_296 : decode cL_law 296 = .ok (.ireturn, 1) := by decide +kernel
theorem dL_law_297 : decode cL_law 297 = .ok (.aload_n 1, 1) := by decide +kernel
theorem dL_law_298 : decode cL_law 298 = .ok (.aload_n 0, 1) := by decide +kernel
theorem dL_law_299 : decode cL_law 299 = .ok (.iload_n 3, 1) := by decide +kernel
theorem dL_law_300 : decode cL_law 300 = .ok (.iconst 1, 1) := by decide +kernel
theorem dL_law_301 : decode cL_law 301 = .ok (.iadd, 1) := by decide +kernel
theorem dL_law_302 : decode cL_law 302 = .ok (.iaload, 1) := by decide +kernel
theorem dL_law_303 : decode cL_law 303 = .ok (.invokevirtual 28, 3) := by decide +kernel
theorem dL_law_306 : decode cL_law 306 = .ok (.aload_n 2, 1) := by decide +kernel
theorem dL_law_307 : decode cL_law 307 = .ok (.aload_n 0, 1) := by decide +kernel
theorem dL_law_308 : decode cL_law 308 = .ok (.iload_n 3, 1) := by decide +kernel
theorem dL_law_309 : decode cL_law 309 = .ok (.iconst 1, 1) := by decide +kernel
theorem dL_law_310 : decode cL_law 310 = .ok (.iadd, 1) := by decide +kernel
theorem dL_law_311 : decode cL_law 311 = .ok (.iaload, 1) := by decide +kernel
theorem dL_law_312 : decode cL_law 312 = .ok (.invokevirtual 32, 3) := by decide +kernel
theorem dL_law_315 : decode cL_law 315 = .ok (.if_icmp .eq 654, 3) := by decide +kernel
theorem dL_law_318 : decode cL_law 318 = .ok (.iconst 0, 1) := by decide +kernel
theorem dL_law_319 : decode cL_law 319 = .ok (.ireturn, 1) := by decide +kernel
theorem dL_law_320 : decode cL_law 320 = .ok (.aload_n 1, 1) := by decide +kernel
theorem dL_law_321 : decode cL_law 321 = .ok (.aload_n 0, 1) := by decide +kernel
theorem dL_law_322 : decode cL_law 322 = .ok (.iload_n 3, 1) := by decide +kernel
theorem dL_law_323 : decode cL_law 323 = .ok (.iconst 1, 1) := by decide +kernel
theorem dL_law_324 : decode cL_law 324 = .ok (.iadd, 1) := by decide +kernel
theorem dL_law_325 : decode cL_law 325 = .ok (.iaload, 1) := by decide +kernel
theorem dL_law_326 : decode cL_law 326 = .ok (.invokevirtual 33, 3) := by decide +kernel
theorem dL_law_329 : decode cL_law 329 = .ok (.aload_n 2, 1) := by decide +kernel
theorem dL_law_330 : decode cL_law 330 = .ok (.aload_n 0, 1) := by decide +kernel
theorem dL_law_331 : decode cL_law 331 = .ok (.iload_n 3, 1) := by decide +kernel
theorem dL_law_332 : decode cL_law 332 = .ok (.iconst 1, 1) := by decide +kernel
theorem dL_law_333 : decode cL_law 333 = .ok (.iadd, 1) := by decide +kernel
theorem dL_law_334 : decode cL_law 334 = .ok (.iaload, 1) := by decide +kernel
theorem dL_law_335 : decode cL_law 335 = .ok (.invokevirtual 37, 3) := by decide +kernel
theorem dL_law_338 : decode cL_law 338 = .ok (.if_icmp .eq 631, 3) := by decide +kernel
theorem dL_law_341 : decode cL_law 341 = .ok (.iconst 0, 1) := by decide +kernel
theorem dL_law_342 : decode cL_law 342 = .ok (.ireturn, 1) := by decide +kernel
theorem dL_law_343 : decode cL_law 343 = .ok (.aload_n 1, 1) := by decide +kernel
theorem dL_law_344 : decode cL_law 344 = .ok (.aload_n 0, 1) := by decide +kernel
theorem dL_law_345 : decode cL_law 345 = .ok (.iload_n 3, 1) := by decide +kernel
theorem dL_law_346 : decode cL_law 346 = .ok (.iconst 1, 1) := by decide +kernel
theorem dL_law_347 : decode cL_law 347 = .ok (.iadd, 1) := by decide +kernel
theorem dL_law_348 : decode cL_law 348 = .ok (.iaload, 1) := by decide +kernel
theorem dL_law_349 : decode cL_law 349 = .ok (.aload_n 0, 1) := by decide +kernel
theorem dL_law_350 : decode cL_law 350 = .ok (.iload_n 3, 1) := by decide +kernel
theorem dL_law_351 : decode cL_law 351 = .ok (.iconst 2, 1) := by decide +kernel
theorem dL_law_352 : decode cL_law 352 = .ok (.iadd, 1) := by decide +kernel
theorem dL_law_353 : decode cL_law 353 = .ok (.iaload, 1) := by decide +kernel
theorem dL_law_354 : decode cL_law 354 = .ok (.invokevirtual 38, 3) := by decide +kernel
theorem dL_law_357 : decode cL_law 357 = .ok (.aload_n 2, 1) := by decide +kernel
theorem dL_law_358 : decode cL_law 358 = .ok (.aload_n 0, 1) := by decide +kernel
theorem dL_law_359 : decode cL_law 359 = .ok (.iload_n 3, 1) := by decide +kernel
theorem dL_law_360 : decode cL_law 360 = .ok (.iconst 1, 1) := by decide +kernel
theorem dL_law_361 : decode cL_law 361 = .ok (.iadd, 1) := by decide +kernel
theorem dL_law_362 : decode cL_law 362 = .ok (.iaload, 1) := by decide +kernel
theorem dL_law_363 : decode cL_law 363 = .ok (.aload_n 0, 1) := by decide +kernel
theorem dL_law_364 : decode cL_law 364 = .ok (.iload_n 3, 1) := by decide +kernel
theorem dL_law_365 : decode cL_law 365 = .ok (.iconst 2, 1) := by decide +kernel
theorem dL_law_366 : decode cL_law 366 = .ok (.iadd, 1) := by decide +kernel
theorem dL_law_367 : decode cL_law 367 = .ok (.iaload, 1) := by decide +kernel
theorem dL_law_368 : decode cL_law 368 = .ok (.invokevirtual 42, 3) := by decide +kernel
theorem dL_law_371 : decode cL_law 371 = .ok (.if_icmp .eq 598, 3) := by decide +kernel
theorem dL_law_374 : decode cL_law 374 = .ok (.iconst 0, 1) := by decide +kernel
theorem dL_law_375 : decode cL_law 375 = .ok (.ireturn, 1) := by decide +kernel
theorem dL_law_376 : decode cL_law 376 = .ok (.aload_n 1, 1) := by decide +kernel
theorem dL_law_377 : decode cL_law 377 = .ok (.aload_n 0, 1) := by decide +kernel
theorem dL_law_378 : decode cL_law 378 = .ok (.iload_n 3, 1) := by decide +kernel
theorem dL_law_379 : decode cL_law 379 = .ok (.iconst 1, 1) := by decide +kernel
theorem dL_law_380 : decode cL_law 380 = .ok (.iadd, 1) := by decide +kernel
theorem dL_law_381 : decode cL_law 381 = .ok (.iaload, 1) := by decide +kernel
theorem dL_law_382 : decode cL_law 382 = .ok (.aload_n 0, 1) := by decide +kernel
theorem dL_law_383 : decode cL_law 383 = .ok (.iload_n 3, 1) := by decide +kernel
theorem dL_law_384 : decode cL_law 384 = .ok (.iconst 2, 1) := by decide +kernel
theorem dL_law_385 : decode cL_law 385 = .ok (.iadd, 1) := by decide +kernel
theorem dL_law_386 : decode cL_law 386 = .ok (.iaload, 1) := by decide +kernel
theorem dL_law_387 : decode cL_law 387 = .ok (.aload_n 0, 1) := by decide +kernel
theorem dL_law_388 : decode cL_law 388 = .ok (.iload_n 3, 1) := by decide +kernel
theorem dL_law_389 : decode cL_law 389 = .ok (.iconst 3, 1) := by decide +kernel
theorem dL_law_390 : decode cL_law 390 = .ok (.iadd, 1) := by decide +kernel
theorem dL_law_391 : decode cL_law 391 = .ok (.iaload, 1) := by decide +kernel
theorem dL_law_392 : decode cL_law 392 = .ok (.invokevirtual 43, 3) := by decide +kernel
theorem dL_law_395 : decode cL_law 395 = .ok (.aload_n 2, 1) := by decide +kernel
theorem dL_law_396 : decode cL_law 396 = .ok (.aload_n 0, 1) := by decide +kernel
theorem dL_law_397 : decode cL_law 397 = .ok (.iload_n 3, 1) := by decide +kernel
theorem dL_law_398 : decode cL_law 398 = .ok (.iconst 1, 1) := by decide +kernel
theorem dL_law_399 : decode cL_law 399 = .ok (.iadd, 1) := by decide +kernel
theorem dL_law_400 : decode cL_law 400 = .ok (.iaload, 1) := by decide +kernel
theorem dL_law_401 : decode cL_law 401 = .ok (.aload_n 0, 1) := by decide +kernel
theorem dL_law_402 : decode cL_law 402 = .ok (.iload_n 3, 1) := by decide +kernel
theorem dL_law_403 : decode cL_law 403 = .ok (.iconst 2, 1) := by decide +kernel
theorem dL_law_404 : decode cL_law 404 = .ok (.iadd, 1) := by decide +kernel
theorem dL_law_405 : decode cL_law 405 = .ok (.iaload, 1) := by decide +kernel
theorem dL_law_406 : decode cL_law 406 = .ok (.aload_n 0, 1) := by decide +kernel
theorem dL_law_407 : decode cL_law 407 = .ok (.iload_n 3, 1) := by decide +kernel
theorem dL_law_408 : decode cL_law 408 = .ok (.iconst 3, 1) := by decide +kernel
theorem dL_law_409 : decode cL_law 409 = .ok (.iadd, 1) := by decide +kernel
theorem dL_law_410 : decode cL_law 410 = .ok (.iaload, 1) := by decide +kernel
theorem dL_law_411 : decode cL_law 411 = .ok (.invokevirtual 47, 3) := by decide +kernel
theorem dL_law_414 : decode cL_law 414 = .ok (.if_icmp .eq 555, 3) := by decide +kernel
theorem dL_law_417 : decode cL_law 417 = .ok (.iconst 0, 1) := by decide +kernel
theorem dL_law_418 : decode cL_law 418 = .ok (.ireturn, 1) := by decide +kernel
theorem dL_law_419 : decode cL_law 419 = .ok (.aload_n 1, 1) := by decide +kernel
theorem dL_law_420 : decode cL_law 420 = .ok (.aload_n 0, 1) := by decide +kernel
theorem dL_law_421 : decode cL_law 421 = .ok (.iload_n 3, 1) := by decide +kernel
theorem dL_law_422 : decode cL_law 422 = .ok (.iconst 1, 1) := by decide +kernel
theorem dL_law_423 : decode cL_law 423 = .ok (.iadd, 1) := by decide +kernel
theorem dL_law_424 : decode cL_law 424 = .ok (.iaload, 1) := by decide +kernel
theorem dL_law_425 : decode cL_law 425 = .ok (.aload_n 0, 1) := by decide +kernel
theorem dL_law_426 : decode cL_law 426 = .ok (.iload_n 3, 1) := by decide +kernel
theorem dL_law_427 : decode cL_law 427 = .ok (.iconst 2, 1) := by decide +kernel
theorem dL_law_428 : decode cL_law 428 = .ok (.iadd, 1) := by decide +kernel
theorem dL_law_429 : decode cL_law 429 = .ok (.iaload, 1) := by decide +kernel
theorem dL_law_430 : decode cL_law 430 = .ok (.invokevirtual 48, 3) := by decide +kernel
theorem dL_law_433 : decode cL_law 433 = .ok (.aload_n 2, 1) := by decide +kernel
theorem dL_law_434 : decode cL_law 434 = .ok (.aload_n 0, 1) := by decide +kernel
theorem dL_law_435 : decode cL_law 435 = .ok (.iload_n 3, 1) := by decide +kernel
theorem dL_law_436 : decode cL_law 436 = .ok (.iconst 1, 1) := by decide +kernel
theorem dL_law_437 : decode cL_law 437 = .ok (.iadd, 1) := by decide +kernel
theorem dL_law_438 : decode cL_law 438 = .ok (.iaload, 1) := by decide +kernel
theorem dL_law_439 : decode cL_law 439 = .ok (.aload_n 0, 1) := by decide +kernel
theorem dL_law_440 : decode cL_law 440 = .ok (.iload_n 3, 1) := by decide +kernel
theorem dL_law_441 : decode cL_law 441 = .ok (.iconst 2, 1) := by decide +kernel
theorem dL_law_442 : decode cL_law 442 = .ok (.iadd, 1) := by decide +kernel
theorem dL_law_443 : decode cL_law 443 = .ok (.iaload, 1) := by decide +kernel
theorem dL_law_444 : decode cL_law 444 = .ok (.invokevirtual 51, 3) := by decide +kernel
theorem dL_law_447 : decode cL_law 447 = .ok (.if_icmp .eq 522, 3) := by decide +kernel
theorem dL_law_450 : decode cL_law 450 = .ok (.iconst 0, 1) := by decide +kernel
theorem dL_law_451 : decode cL_law 451 = .ok (.ireturn, 1) := by decide +kernel
theorem dL_law_452 : decode cL_law 452 = .ok (.aload_n 1, 1) := by decide +kernel
theorem dL_law_453 : decode cL_law 453 = .ok (.aload_n 0, 1) := by decide +kernel
theorem dL_law_454 : decode cL_law 454 = .ok (.iload_n 3, 1) := by decide +kernel
theorem dL_law_455 : decode cL_law 455 = .ok (.iconst 1, 1) := by decide +kernel
theorem dL_law_456 : decode cL_law 456 = .ok (.iadd, 1) := by decide +kernel
theorem dL_law_457 : decode cL_law 457 = .ok (.iaload, 1) := by decide +kernel
theorem dL_law_458 : decode cL_law 458 = .ok (.invokevirtual 52, 3) := by decide +kernel
theorem dL_law_461 : decode cL_law 461 = .ok (.aload_n 2, 1) := by decide +kernel
theorem dL_law_462 : decode cL_law 462 = .ok (.aload_n 0, 1) := by decide +kernel
theorem dL_law_463 : decode cL_law 463 = .ok (.iload_n 3, 1) := by decide +kernel
theorem dL_law_464 : decode cL_law 464 = .ok (.iconst 1, 1) := by decide +kernel
theorem dL_law_465 : decode cL_law 465 = .ok (.iadd, 1) := by decide +kernel
theorem dL_law_466 : decode cL_law 466 = .ok (.iaload, 1) := by decide +kernel
theorem dL_law_467 : decode cL_law 467 = .ok (.invokevirtual 55, 3) := by decide +kernel
theorem dL_law_470 : decode cL_law 470 = .ok (.if_icmp .eq 499, 3) := by decide +kernel
theorem dL_law_473 : decode cL_law 473 = .ok (.iconst 0, 1) := by decide +kernel
theorem dL_law_474 : decode cL_law 474 = .ok (.ireturn, 1) := by decide +kernel
theorem dL_law_475 : decode cL_law 475 = .ok (.aload_n 1, 1) := by decide +kernel
theorem dL_law_476 : decode cL_law 476 = .ok (.aload_n 0, 1) := by decide +kernel
theorem dL_law_477 : decode cL_law 477 = .ok (.iload_n 3, 1) := by decide +kernel
theorem dL_law_478 : decode cL_law 478 = .ok (.iconst 1, 1) := by decide +kernel
theorem dL_law_479 : decode cL_law 479 = .ok (.iadd, 1) := by decide +kernel
theorem dL_law_480 : decode cL_law 480 = .ok (.iaload, 1) := by decide +kernel
theorem dL_law_481 : decode cL_law 481 = .ok (.aload_n 0, 1) := by decide +kernel
theorem dL_law_482 : decode cL_law 482 = .ok (.iload_n 3, 1) := by decide +kernel
theorem dL_law_483 : decode cL_law 483 = .ok (.iconst 2, 1) := by decide +kernel
theorem dL_law_484 : decode cL_law 484 = .ok (.iadd, 1) := by decide +kernel
theorem dL_law_485 : decode cL_law 485 = .ok (.iaload, 1) := by decide +kernel
theorem dL_law_486 : decode cL_law 486 = .ok (.invokevirtual 56, 3) := by decide +kernel
theorem dL_law_489 : decode cL_law 489 = .ok (.aload_n 2, 1) := by decide +kernel
theorem dL_law_490 : decode cL_law 490 = .ok (.aload_n 0, 1) := by decide +kernel
theorem dL_law_491 : decode cL_law 491 = .ok (.iload_n 3, 1) := by decide +kernel
theorem dL_law_492 : decode cL_law 492 = .ok (.iconst 1, 1) := by decide +kernel
theorem dL_law_493 : decode cL_law 493 = .ok (.iadd, 1) := by decide +kernel
theorem dL_law_494 : decode cL_law 494 = .ok (.iaload, 1) := by decide +kernel
theorem dL_law_495 : decode cL_law 495 = .ok (.aload_n 0, 1) := by decide +kernel
theorem dL_law_496 : decode cL_law 496 = .ok (.iload_n 3, 1) := by decide +kernel
theorem dL_law_497 : decode cL_law 497 = .ok (.iconst 2, 1) := by decide +kernel
theorem dL_law_498 : decode cL_law 498 = .ok (.iadd, 1) := by decide +kernel
theorem dL_law_499 : decode cL_law 499 = .ok (.iaload, 1) := by decide +kernel
theorem dL_law_500 : decode cL_law 500 = .ok (.invokevirtual 59, 3) := by decide +kernel
theorem dL_law_503 : decode cL_law 503 = .ok (.if_icmp .eq 466, 3) := by decide +kernel
theorem dL_law_506 : decode cL_law 506 = .ok (.iconst 0, 1) := by decide +kernel
theorem dL_law_507 : decode cL_law 507 = .ok (.ireturn, 1) := by decide +kernel
theorem dL_law_508 : decode cL_law 508 = .ok (.aload_n 1, 1) := by decide +kernel
theorem dL_law_509 : decode cL_law 509 = .ok (.aload_n 0, 1) := by decide +kernel
theorem dL_law_510 : decode cL_law 510 = .ok (.iload_n 3, 1) := by decide +kernel
theorem dL_law_511 : decode cL_law 511 = .ok (.iconst 1, 1) := by decide +kernel
theorem dL_law_512 : decode cL_law 512 = .ok (.iadd, 1) := by decide +kernel
theorem dL_law_513 : decode cL_law 513 = .ok (.iaload, 1) := by decide +kernel
theorem dL_law_514 : decode cL_law 514 = .ok (.invokevirtual 60, 3) := by decide +kernel
theorem dL_law_517 : decode cL_law 517 = .ok (.aload_n 2, 1) := by decide +kernel
theorem dL_law_518 : decode cL_law 518 = .ok (.aload_n 0, 1) := by decide +kernel
theorem dL_law_519 : decode cL_law 519 = .ok (.iload_n 3, 1) := by decide +kernel
theorem dL_law_520 : decode cL_law 520 = .ok (.iconst 1, 1) := by decide +kernel
theorem dL_law_521 : decode cL_law 521 = .ok (.iadd, 1) := by decide +kernel
theorem dL_law_522 : decode cL_law 522 = .ok (.iaload, 1) := by decide +kernel
theorem dL_law_523 : decode cL_law 523 = .ok (.invokevirtual 63, 3) := by decide +kernel
theorem dL_law_526 : decode cL_law 526 = .ok (.if_icmp .eq 443, 3) := by decide +kernel
theorem dL_law_529 : decode cL_law 529 = .ok (.iconst 0, 1) := by decide +kernel
theorem dL_law_530 : decode cL_law 530 = .ok (.ireturn, 1) := by decide +kernel
theorem dL_law_531 : decode cL_law 531 = .ok (.aload_n 1, 1) := by decide +kernel
theorem dL_law_532 : decode cL_law 532 = .ok (.aload_n 0, 1) := by decide +kernel
theorem dL_law_533 : decode cL_law 533 = .ok (.iload_n 3, 1) := by decide +kernel
theorem dL_law_534 : decode cL_law 534 = .ok (.iconst 1, 1) := by decide +kernel
theorem dL_law_535 : decode cL_law 535 = .ok (.iadd, 1) := by decide +kernel
theorem dL_law_536 : decode cL_law 536 = .ok (.iaload, 1) := by decide +kernel
theorem dL_law_537 : decode cL_law 537 = .ok (.invokevirtual 64, 3) := by decide +kernel
theorem dL_law_540 : decode cL_law 540 = .ok (.aload_n 2, 1) := by decide +kernel
theorem dL_law_541 : decode cL_law 541 = .ok (.aload_n 0, 1) := by decide +kernel
theorem dL_law_542 : decode cL_law 542 = .ok (.iload_n 3, 1) := by decide +kernel
theorem dL_law_543 : decode cL_law 543 = .ok (.iconst 1, 1) := by decide +kernel
theorem dL_law_544 : decode cL_law 544 = .ok (.iadd, 1) := by decide +kernel
theorem dL_law_545 : decode cL_law 545 = .ok (.iaload, 1) := by decide +kernel
theorem dL_law_546 : decode cL_law 546 = .ok (.invokevirtual 67, 3) := by decide +kernel
theorem dL_law_549 : decode cL_law 549 = .ok (.if_icmp .eq 420, 3) := by decide +kernel
theorem dL_law_552 : decode cL_law 552 = .ok (.iconst 0, 1) := by decide +kernel
theorem dL_law_553 : decode cL_law 553 = .ok (.ireturn, 1) := by decide +kernel
theorem dL_law_554 : decode cL_law 554 = .ok (.aload_n 1, 1) := by decide +kernel
theorem dL_law_555 : decode cL_law 555 = .ok (.aload_n 0, 1) := by decide +kernel
theorem dL_law_556 : decode cL_law 556 = .ok (.iload_n 3, 1) := by decide +kernel
theorem dL_law_557 : decode cL_law 557 = .ok (.iconst 1, 1) := by decide +kernel
theorem dL_law_558 : decode cL_law 558 = .ok (.iadd, 1) := by decide +kernel
theorem dL_law_559 : decode cL_law 559 = .ok (.iaload, 1) := by decide +kernel
theorem dL_law_560 : decode cL_law 560 = .ok (.aload_n 0, 1) := by decide +kernel
theorem dL_law_561 : decode cL_law 561 = .ok (.iload_n 3, 1) := by decide +kernel
theorem dL_law_562 : decode cL_law 562 = .ok (.iconst 2, 1) := by decide +kernel
theorem dL_law_563 : decode cL_law 563 = .ok (.iadd, 1) := by decide +kernel
theorem dL_law_564 : decode cL_law 564 = .ok (.iaload, 1) := by decide +kernel
theorem dL_law_565 : decode cL_law 565 = .ok (.ifCond .eq 7, 3) := by decide +kernel
theorem dL_law_568 : decode cL_law 568 = .ok (.iconst 1, 1) := by decide +kernel
theorem dL_law_569 : decode cL_law 569 = .ok (.goto 4, 3) := by decide +kernel
theorem dL_law_572 : decode cL_law 572 = .ok (.iconst 0, 1) := by decide +kernel
theorem dL_law_573 : decode cL_law 573 = .ok (.invokevirtual 68, 3) := by decide +kernel
theorem dL_law_576 : decode cL_law 576 = .ok (.aload_n 2, 1) := by decide +kernel
theorem dL_law_577 : decode cL_law 577 = .ok (.aload_n 0, 1) := by decide +kernel
theorem dL_law_578 : decode cL_law 578 = .ok (.iload_n 3, 1) := by decide +kernel
theorem dL_law_579 : decode cL_law 579 = .ok (.iconst 1, 1) := by decide +kernel
theorem dL_law_580 : decode cL_law 580 = .ok (.iadd, 1) := by decide +kernel
theorem dL_law_581 : decode cL_law 581 = .ok (.iaload, 1) := by decide +kernel
theorem dL_law_582 : decode cL_law 582 = .ok (.aload_n 0, 1) := by decide +kernel
theorem dL_law_583 : decode cL_law 583 = .ok (.iload_n 3, 1) := by decide +kernel
theorem dL_law_584 : decode cL_law 584 = .ok (.iconst 2, 1) := by decide +kernel
theorem dL_law_585 : decode cL_law 585 = .ok (.iadd, 1) := by decide +kernel
theorem dL_law_586 : decode cL_law 586 = .ok (.iaload, 1) := by decide +kernel
theorem dL_law_587 : decode cL_law 587 = .ok (.ifCond .eq 7, 3) := by decide +kernel
theorem dL_law_590 : decode cL_law 590 = .ok (.iconst 1, 1) := by decide +kernel
theorem dL_law_591 : decode cL_law 591 = .ok (.goto 4, 3) := by decide +kernel
theorem dL_law_594 : decode cL_law 594 = .ok (.iconst 0, 1) := by decide +kernel
theorem dL_law_595 : decode cL_law 595 = .ok (.invokevirtual 72, 3) := by decide +kernel
theorem dL_law_598 : decode cL_law 598 = .ok (.if_icmp .eq 371, 3) := by decide +kernel
theorem dL_law_601 : decode cL_law 601 = .ok (.iconst 0, 1) := by decide +kernel
theorem dL_law_602 : decode cL_law 602 = .ok (.ireturn, 1) := by decide +kernel
theorem dL_law_603 : decode cL_law 603 = .ok (.aload_n 1, 1) := by decide +kernel
theorem dL_law_604 : decode cL_law 604 = .ok (.aload_n 0, 1) := by decide +kernel
theorem dL_law_605 : decode cL_law 605 = .ok (.iload_n 3, 1) := by decide +kernel
theorem dL_law_606 : decode cL_law 606 = .ok (.iconst 1, 1) := by decide +kernel
theorem dL_law_607 : decode cL_law 607 = .ok (.iadd, 1) := by decide +kernel
theorem dL_law_608 : decode cL_law 608 = .ok (.iaload, 1) := by decide +kernel
theorem dL_law_609 : decode cL_law 609 = .ok (.invokevirtual 73, 3) := by decide +kernel
theorem dL_law_612 : decode cL_law 612 = .ok (.aload_n 2, 1) := by decide +kernel
theorem dL_law_613 : decode cL_law 613 = .ok (.aload_n 0, 1) := by decide +kernel
theorem dL_law_614 : decode cL_law 614 = .ok (.iload_n 3, 1) := by decide +kernel
theorem dL_law_615 : decode cL_law 615 = .ok (.iconst 1, 1) := by decide +kernel
theorem dL_law_616 : decode cL_law 616 = .ok (.iadd, 1) := by decide +kernel
theorem dL_law_617 : decode cL_law 617 = .ok (.iaload, 1) := by decide +kernel
theorem dL_law_618 : decode cL_law 618 = .ok (.invokevirtual 76, 3) := by decide +kernel
theorem dL_law_621 : decode cL_law 621 = .ok (.if_icmp .eq 348, 3) := by decide +kernel
theorem dL_law_624 : decode cL_law 624 = .ok (.iconst 0, 1) := by decide +kernel
theorem dL_law_625 : decode cL_law 625 = .ok (.ireturn, 1) := by decide +kernel
theorem dL_law_626 : decode cL_law 626 = .ok (.aload_n 1, 1) := by decide +kernel
theorem dL_law_627 : decode cL_law 627 = .ok (.aload_n 0, 1) := by decide +kernel
theorem dL_law_628 : decode cL_law 628 = .ok (.iload_n 3, 1) := by decide +kernel
theorem dL_law_629 : decode cL_law 629 = .ok (.iconst 1, 1) := by decide +kernel
theorem dL_law_630 : decode cL_law 630 = .ok (.iadd, 1) := by decide +kernel
theorem dL_law_631 : decode cL_law 631 = .ok (.iaload, 1) := by decide +kernel
theorem dL_law_632 : decode cL_law 632 = .ok (.aload_n 0, 1) := by decide +kernel
theorem dL_law_633 : decode cL_law 633 = .ok (.iload_n 3, 1) := by decide +kernel
theorem dL_law_634 : decode cL_law 634 = .ok (.iconst 2, 1) := by decide +kernel
theorem dL_law_635 : decode cL_law 635 = .ok (.iadd, 1) := by decide +kernel
theorem dL_law_636 : decode cL_law 636 = .ok (.iaload, 1) := by decide +kernel
theorem dL_law_637 : decode cL_law 637 = .ok (.aload_n 0, 1) := by decide +kernel
theorem dL_law_638 : decode cL_law 638 = .ok (.iload_n 3, 1) := by decide +kernel
theorem dL_law_639 : decode cL_law 639 = .ok (.iconst 3, 1) := by decide +kernel
theorem dL_law_640 : decode cL_law 640 = .ok (.iadd, 1) := by decide +kernel
theorem dL_law_641 : decode cL_law 641 = .ok (.iaload, 1) := by decide +kernel
theorem dL_law_642 : decode cL_law 642 = .ok (.invokevirtual 77, 3) := by decide +kernel
theorem dL_law_645 : decode cL_law 645 = .ok (.aload_n 2, 1) := by decide +kernel
theorem dL_law_646 : decode cL_law 646 = .ok (.aload_n 0, 1) := by decide +kernel
theorem dL_law_647 : decode cL_law 647 = .ok (.iload_n 3, 1) := by decide +kernel
theorem dL_law_648 : decode cL_law 648 = .ok (.iconst 1, 1) := by decide +kernel
theorem dL_law_649 : decode cL_law 649 = .ok (.iadd, 1) := by decide +kernel
theorem dL_law_650 : decode cL_law 650 = .ok (.iaload, 1) := by decide +kernel
theorem dL_law_651 : decode cL_law 651 = .ok (.aload_n 0, 1) := by decide +kernel
theorem dL_law_652 : decode cL_law 652 = .ok (.iload_n 3, 1) := by decide +kernel
theorem dL_law_653 : decode cL_law 653 = .ok (.iconst 2, 1) := by decide +kernel
theorem dL_law_654 : decode cL_law 654 = .ok (.iadd, 1) := by decide +kernel
theorem dL_law_655 : decode cL_law 655 = .ok (.iaload, 1) := by decide +kernel
theorem dL_law_656 : decode cL_law 656 = .ok (.aload_n 0, 1) := by decide +kernel
theorem dL_law_657 : decode cL_law 657 = .ok (.iload_n 3, 1) := by decide +kernel
theorem dL_law_658 : decode cL_law 658 = .ok (.iconst 3, 1) := by decide +kernel
theorem dL_law_659 : decode cL_law 659 = .ok (.iadd, 1) := by decide +kernel
theorem dL_law_660 : decode cL_law 660 = .ok (.iaload, 1) := by decide +kernel
theorem dL_law_661 : decode cL_law 661 = .ok (.invokevirtual 80, 3) := by decide +kernel
theorem dL_law_664 : decode cL_law 664 = .ok (.if_icmp .eq 305, 3) := by decide +kernel
theorem dL_law_667 : decode cL_law 667 = .ok (.iconst 0, 1) := by decide +kernel
theorem dL_law_668 : decode cL_law 668 = .ok (.ireturn, 1) := by decide +kernel
theorem dL_law_669 : decode cL_law 669 = .ok (.aload_n 1, 1) := by decide +kernel
theorem dL_law_670 : decode cL_law 670 = .ok (.aload_n 0, 1) := by decide +kernel
theorem dL_law_671 : decode cL_law 671 = .ok (.iload_n 3, 1) := by decide +kernel
theorem dL_law_672 : decode cL_law 672 = .ok (.iconst 1, 1) := by decide +kernel
theorem dL_law_673 : decode cL_law 673 = .ok (.iadd, 1) := by decide +kernel
theorem dL_law_674 : decode cL_law 674 = .ok (.iaload, 1) := by decide +kernel
theorem dL_law_675 : decode cL_law 675 = .ok (.invokevirtual 81, 3) := by decide +kernel
theorem dL_law_678 : decode cL_law 678 = .ok (.aload_n 2, 1) := by decide +kernel
theorem dL_law_679 : decode cL_law 679 = .ok (.aload_n 0, 1) := by decide +kernel
theorem dL_law_680 : decode cL_law 680 = .ok (.iload_n 3, 1) := by decide +kernel
theorem dL_law_681 : decode cL_law 681 = .ok (.iconst 1, 1) := by decide +kernel
theorem dL_law_682 : decode cL_law 682 = .ok (.iadd, 1) := by decide +kernel
theorem dL_law_683 : decode cL_law 683 = .ok (.iaload, 1) := by decide +kernel
theorem dL_law_684 : decode cL_law 684 = .ok (.invokevirtual 84, 3) := by decide +kernel
theorem dL_law_687 : decode cL_law 687 = .ok (.if_icmp .eq 282, 3) := by decide +kernel
theorem dL_law_690 : decode cL_law 690 = .ok (.iconst 0, 1) := by decide +kernel
theorem dL_law_691 : decode cL_law 691 = .ok (.ireturn, 1) := by decide +kernel
theorem dL_law_692 : decode cL_law 692 = .ok (.aload_n 1, 1) := by decide +kernel
theorem dL_law_693 : decode cL_law 693 = .ok (.aload_n 0, 1) := by decide +kernel
theorem dL_law_694 : decode cL_law 694 = .ok (.iload_n 3, 1) := by decide +kernel
theorem dL_law_695 : decode cL_law 695 = .ok (.iconst 1, 1) := by decide +kernel
theorem dL_law_696 : decode cL_law 696 = .ok (.iadd, 1) := by decide +kernel
theorem dL_law_697 : decode cL_law 697 = .ok (.iaload, 1) := by decide +kernel
theorem dL_law_698 : decode cL_law 698 = .ok (.invokevirtual 85, 3) := by decide +kernel
theorem dL_law_701 : decode cL_law 701 = .ok (.aload_n 2, 1) := by decide +kernel
theorem dL_law_702 : decode cL_law 702 = .ok (.aload_n 0, 1) := by decide +kernel
theorem dL_law_703 : decode cL_law 703 = .ok (.iload_n 3, 1) := by decide +kernel
theorem dL_law_704 : decode cL_law 704 = .ok (.iconst 1, 1) := by decide +kernel
theorem dL_law_705 : decode cL_law 705 = .ok (.iadd, 1) := by decide +kernel
theorem dL_law_706 : decode cL_law 706 = .ok (.iaload, 1) := by decide +kernel
theorem dL_law_707 : decode cL_law 707 = .ok (.invokevirtual 88, 3) := by decide +kernel
theorem dL_law_710 : decode cL_law 710 = .ok (.if_icmp .eq 259, 3) := by decide +kernel
theorem dL_law_713 : decode cL_law 713 = .ok (.iconst 0, 1) := by decide +kernel
theorem dL_law_714 : decode cL_law 714 = .ok (.ireturn, 1) := by decide +kernel
theorem dL_law_715 : decode cL_law 715 = .ok (.aload_n 1, 1) := by decide +kernel
theorem dL_law_716 : decode cL_law 716 = .ok (.aload_n 0, 1) := by decide +kernel
theorem dL_law_717 : decode cL_law 717 = .ok (.iload_n 3, 1) := by decide +kernel
theorem dL_law_718 : decode cL_law 718 = .ok (.iconst 1, 1) := by decide +kernel
theorem dL_law_719 : decode cL_law 719 = .ok (.iadd, 1) := by decide +kernel
theorem dL_law_720 : decode cL_law 720 = .ok (.iaload, 1) := by decide +kernel
theorem dL_law_721 : decode cL_law 721 = .ok (.invokevirtual 89, 3) := by decide +kernel
theorem dL_law_724 : decode cL_law 724 = .ok (.aload_n 2, 1) := by decide +kernel
theorem dL_law_725 : decode cL_law 725 = .ok (.aload_n 0, 1) := by decide +kernel
theorem dL_law_726 : decode cL_law 726 = .ok (.iload_n 3, 1) := by decide +kernel
theorem dL_law_727 : decode cL_law 727 = .ok (.iconst 1, 1) := by decide +kernel
theorem dL_law_728 : decode cL_law 728 = .ok (.iadd, 1) := by decide +kernel
theorem dL_law_729 : decode cL_law 729 = .ok (.iaload, 1) := by decide +kernel
theorem dL_law_730 : decode cL_law 730 = .ok (.invokevirtual 92, 3) := by decide +kernel
theorem dL_law_733 : decode cL_law 733 = .ok (.if_icmp .eq 236, 3) := by decide +kernel
theorem dL_law_736 : decode cL_law 736 = .ok (.iconst 0, 1) := by decide +kernel
theorem dL_law_737 : decode cL_law 737 = .ok (.ireturn, 1) := by decide +kernel
theorem dL_law_738 : decode cL_law 738 = .ok (.aload_n 1, 1) := by decide +kernel
theorem dL_law_739 : decode cL_law 739 = .ok (.aload_n 0, 1) := by decide +kernel
theorem dL_law_740 : decode cL_law 740 = .ok (.iload_n 3, 1) := by decide +kernel
theorem dL_law_741 : decode cL_law 741 = .ok (.iconst 1, 1) := by decide +kernel
theorem dL_law_742 : decode cL_law 742 = .ok (.iadd, 1) := by decide +kernel
theorem dL_law_743 : decode cL_law 743 = .ok (.iaload, 1) := by decide +kernel
theorem dL_law_744 : decode cL_law 744 = .ok (.aload_n 0, 1) := by decide +kernel
theorem dL_law_745 : decode cL_law 745 = .ok (.iload_n 3, 1) := by decide +kernel
theorem dL_law_746 : decode cL_law 746 = .ok (.iconst 2, 1) := by decide +kernel
theorem dL_law_747 : decode cL_law 747 = .ok (.iadd, 1) := by decide +kernel
theorem dL_law_748 : decode cL_law 748 = .ok (.iaload, 1) := by decide +kernel
theorem dL_law_749 : decode cL_law 749 = .ok (.aload_n 0, 1) := by decide +kernel
theorem dL_law_750 : decode cL_law 750 = .ok (.iload_n 3, 1) := by decide +kernel
theorem dL_law_751 : decode cL_law 751 = .ok (.iconst 3, 1) := by decide +kernel
theorem dL_law_752 : decode cL_law 752 = .ok (.iadd, 1) := by decide +kernel
theorem dL_law_753 : decode cL_law 753 = .ok (.iaload, 1) := by decide +kernel
theorem dL_law_754 : decode cL_law 754 = .ok (.invokevirtual 93, 3) := by decide +kernel
theorem dL_law_757 : decode cL_law 757 = .ok (.aload_n 2, 1) := by decide +kernel
theorem dL_law_758 : decode cL_law 758 = .ok (.aload_n 0, 1) := by decide +kernel
theorem dL_law_759 : decode cL_law 759 = .ok (.iload_n 3, 1) := by decide +kernel
theorem dL_law_760 : decode cL_law 760 = .ok (.iconst 1, 1) := by decide +kernel
theorem dL_law_761 : decode cL_law 761 = .ok (.iadd, 1) := by decide +kernel
theorem dL_law_762 : decode cL_law 762 = .ok (.iaload, 1) := by decide +kernel
theorem dL_law_763 : decode cL_law 763 = .ok (.aload_n 0, 1) := by decide +kernel
theorem dL_law_764 : decode cL_law 764 = .ok (.iload_n 3, 1) := by decide +kernel
theorem dL_law_765 : decode cL_law 765 = .ok (.iconst 2, 1) := by decide +kernel
theorem dL_law_766 : decode cL_law 766 = .ok (.iadd, 1) := by decide +kernel
theorem dL_law_767 : decode cL_law 767 = .ok (.iaload, 1) := by decide +kernel
theorem dL_law_768 : decode cL_law 768 = .ok (.aload_n 0, 1) := by decide +kernel
theorem dL_law_769 : decode cL_law 769 = .ok (.iload_n 3, 1) := by decide +kernel
theorem dL_law_770 : decode cL_law 770 = .ok (.iconst 3, 1) := by decide +kernel
theorem dL_law_771 : decode cL_law 771 = .ok (.iadd, 1) := by decide +kernel
theorem dL_law_772 : decode cL_law 772 = .ok (.iaload, 1) := by decide +kernel
theorem dL_law_773 : decode cL_law 773 = .ok (.invokevirtual 96, 3) := by decide +kernel
theorem dL_law_776 : decode cL_law 776 = .ok (.if_icmp .eq 193, 3) := by decide +kernel
theorem dL_law_779 : decode cL_law 779 = .ok (.iconst 0, 1) := by decide +kernel
theorem dL_law_780 : decode cL_law 780 = .ok (.ireturn, 1) := by decide +kernel
theorem dL_law_781 : decode cL_law 781 = .ok (.aload_n 1, 1) := by decide +kernel
theorem dL_law_782 : decode cL_law 782 = .ok (.aload_n 0, 1) := by decide +kernel
theorem dL_law_783 : decode cL_law 783 = .ok (.iload_n 3, 1) := by decide +kernel
theorem dL_law_784 : decode cL_law 784 = .ok (.iconst 1, 1) := by decide +kernel
theorem dL_law_785 : decode cL_law 785 = .ok (.iadd, 1) := by decide +kernel
theorem dL_law_786 : decode cL_law 786 = .ok (.iaload, 1) := by decide +kernel
theorem dL_law_787 : decode cL_law 787 = .ok (.aload_n 0, 1) := by decide +kernel
theorem dL_law_788 : decode cL_law 788 = .ok (.iload_n 3, 1) := by decide +kernel
theorem dL_law_789 : decode cL_law 789 = .ok (.iconst 2, 1) := by decide +kernel
theorem dL_law_790 : decode cL_law 790 = .ok (.iadd, 1) := by decide +kernel
theorem dL_law_791 : decode cL_law 791 = .ok (.iaload, 1) := by decide +kernel
theorem dL_law_792 : decode cL_law 792 = .ok (.aload_n 0, 1) := by decide +kernel
theorem dL_law_793 : decode cL_law 793 = .ok (.iload_n 3, 1) := by decide +kernel
theorem dL_law_794 : decode cL_law 794 = .ok (.iconst 3, 1) := by decide +kernel
theorem dL_law_795 : decode cL_law 795 = .ok (.iadd, 1) := by decide +kernel
theorem dL_law_796 : decode cL_law 796 = .ok (.iaload, 1) := by decide +kernel
theorem dL_law_797 : decode cL_law 797 = .ok (.invokevirtual 97, 3) := by decide +kernel
theorem dL_law_800 : decode cL_law 800 = .ok (.aload_n 2, 1) := by decide +kernel
theorem dL_law_801 : decode cL_law 801 = .ok (.aload_n 0, 1) := by decide +kernel
theorem dL_law_802 : decode cL_law 802 = .ok (.iload_n 3, 1) := by decide +kernel
theorem dL_law_803 : decode cL_law 803 = .ok (.iconst 1, 1) := by decide +kernel
theorem dL_law_804 : decode cL_law 804 = .ok (.iadd, 1) := by decide +kernel
theorem dL_law_805 : decode cL_law 805 = .ok (.iaload, 1) := by decide +kernel
theorem dL_law_806 : decode cL_law 806 = .ok (.aload_n 0, 1) := by decide +kernel
theorem dL_law_807 : decode cL_law 807 = .ok (.iload_n 3, 1) := by decide +kernel
theorem dL_law_808 : decode cL_law 808 = .ok (.iconst 2, 1) := by decide +kernel
theorem dL_law_809 : decode cL_law 809 = .ok (.iadd, 1) := by decide +kernel
theorem dL_law_810 : decode cL_law 810 = .ok (.iaload, 1) := by decide +kernel
theorem dL_law_811 : decode cL_law 811 = .ok (.aload_n 0, 1) := by decide +kernel
theorem dL_law_812 : decode cL_law 812 = .ok (.iload_n 3, 1) := by decide +kernel
theorem dL_law_813 : decode cL_law 813 = .ok (.iconst 3, 1) := by decide +kernel
theorem dL_law_814 : decode cL_law 814 = .ok (.iadd, 1) := by decide +kernel
theorem dL_law_815 : decode cL_law 815 = .ok (.iaload, 1) := by decide +kernel
theorem dL_law_816 : decode cL_law 816 = .ok (.invokevirtual 100, 3) := by decide +kernel
theorem dL_law_819 : decode cL_law 819 = .ok (.if_icmp .eq 150, 3) := by decide +kernel
theorem dL_law_822 : decode cL_law 822 = .ok (.iconst 0, 1) := by decide +kernel
theorem dL_law_823 : decode cL_law 823 = .ok (.ireturn, 1) := by decide +kernel
theorem dL_law_824 : decode cL_law 824 = .ok (.aload_n 1, 1) := by decide +kernel
theorem dL_law_825 : decode cL_law 825 = .ok (.aload_n 0, 1) := by decide +kernel
theorem dL_law_826 : decode cL_law 826 = .ok (.iload_n 3, 1) := by decide +kernel
theorem dL_law_827 : decode cL_law 827 = .ok (.iconst 1, 1) := by decide +kernel
theorem dL_law_828 : decode cL_law 828 = .ok (.iadd, 1) := by decide +kernel
theorem dL_law_829 : decode cL_law 829 = .ok (.iaload, 1) := by decide +kernel
theorem dL_law_830 : decode cL_law 830 = .ok (.aload_n 0, 1) := by decide +kernel
theorem dL_law_831 : decode cL_law 831 = .ok (.iload_n 3, 1) := by decide +kernel
theorem dL_law_832 : decode cL_law 832 = .ok (.iconst 2, 1) := by decide +kernel
theorem dL_law_833 : decode cL_law 833 = .ok (.iadd, 1) := by decide +kernel
theorem dL_law_834 : decode cL_law 834 = .ok (.iaload, 1) := by decide +kernel
theorem dL_law_835 : decode cL_law 835 = .ok (.aload_n 0, 1) := by decide +kernel
theorem dL_law_836 : decode cL_law 836 = .ok (.iload_n 3, 1) := by decide +kernel
theorem dL_law_837 : decode cL_law 837 = .ok (.iconst 3, 1) := by decide +kernel
theorem dL_law_838 : decode cL_law 838 = .ok (.iadd, 1) := by decide +kernel
theorem dL_law_839 : decode cL_law 839 = .ok (.iaload, 1) := by decide +kernel
theorem dL_law_840 : decode cL_law 840 = .ok (.invokevirtual 101, 3) := by decide +kernel
theorem dL_law_843 : decode cL_law 843 = .ok (.aload_n 2, 1) := by decide +kernel
theorem dL_law_844 : decode cL_law 844 = .ok (.aload_n 0, 1) := by decide +kernel
theorem dL_law_845 : decode cL_law 845 = .ok (.iload_n 3, 1) := by decide +kernel
theorem dL_law_846 : decode cL_law 846 = .ok (.iconst 1, 1) := by decide +kernel
theorem dL_law_847 : decode cL_law 847 = .ok (.iadd, 1) := by decide +kernel
theorem dL_law_848 : decode cL_law 848 = .ok (.iaload, 1) := by decide +kernel
theorem dL_law_849 : decode cL_law 849 = .ok (.aload_n 0, 1) := by decide +kernel
theorem dL_law_850 : decode cL_law 850 = .ok (.iload_n 3, 1) := by decide +kernel
theorem dL_law_851 : decode cL_law 851 = .ok (.iconst 2, 1) := by decide +kernel
theorem dL_law_852 : decode cL_law 852 = .ok (.iadd, 1) := by decide +kernel
theorem dL_law_853 : decode cL_law 853 = .ok (.iaload, 1) := by decide +kernel
theorem dL_law_854 : decode cL_law 854 = .ok (.aload_n 0, 1) := by decide +kernel
theorem dL_law_855 : decode cL_law 855 = .ok (.iload_n 3, 1) := by decide +kernel
theorem dL_law_856 : decode cL_law 856 = .ok (.iconst 3, 1) := by decide +kernel
theorem dL_law_857 : decode cL_law 857 = .ok (.iadd, 1) := by decide +kernel
theorem dL_law_858 : decode cL_law 858 = .ok (.iaload, 1) := by decide +kernel
theorem dL_law_859 : decode cL_law 859 = .ok (.invokevirtual 104, 3) := by decide +kernel
theorem dL_law_862 : decode cL_law 862 = .ok (.if_icmp .eq 107, 3) := by decide +kernel
theorem dL_law_865 : decode cL_law 865 = .ok (.iconst 0, 1) := by decide +kernel
theorem dL_law_866 : decode cL_law 866 = .ok (.ireturn, 1) := by decide +kernel
theorem dL_law_867 : decode cL_law 867 = .ok (.aload_n 1, 1) := by decide +kernel
theorem dL_law_868 : decode cL_law 868 = .ok (.aload_n 0, 1) := by decide +kernel
theorem dL_law_869 : decode cL_law 869 = .ok (.iload_n 3, 1) := by decide +kernel
theorem dL_law_870 : decode cL_law 870 = .ok (.iconst 1, 1) := by decide +kernel
theorem dL_law_871 : decode cL_law 871 = .ok (.iadd, 1) := by decide +kernel
theorem dL_law_872 : decode cL_law 872 = .ok (.iaload, 1) := by decide +kernel
theorem dL_law_873 : decode cL_law 873 = .ok (.invokevirtual 105, 3) := by decide +kernel
theorem dL_law_876 : decode cL_law 876 = .ok (.aload_n 2, 1) := by decide +kernel
theorem dL_law_877 : decode cL_law 877 = .ok (.aload_n 0, 1) := by decide +kernel
theorem dL_law_878 : decode cL_law 878 = .ok (.iload_n 3, 1) := by decide +kernel
theorem dL_law_879 : decode cL_law 879 = .ok (.iconst 1, 1) := by decide +kernel
theorem dL_law_880 : decode cL_law 880 = .ok (.iadd, 1) := by decide +kernel
theorem dL_law_881 : decode cL_law 881 = .ok (.iaload, 1) := by decide +kernel
theorem dL_law_882 : decode cL_law 882 = .ok (.invokevirtual 108, 3) := by decide +kernel
theorem dL_law_885 : decode cL_law 885 = .ok (.if_icmp .eq 84, 3) := by decide +kernel
theorem dL_law_888 : decode cL_law 888 = .ok (.iconst 0, 1) := by decide +kernel
theorem dL_law_889 : decode cL_law 889 = .ok (.ireturn, 1) := by decide +kernel
theorem dL_law_890 : decode cL_law 890 = .ok (.aload_n 1, 1) := by decide +kernel
theorem dL_law_891 : decode cL_law 891 = .ok (.aload_n 0, 1) := by decide +kernel
theorem dL_law_892 : decode cL_law 892 = .ok (.iload_n 3, 1) := by decide +kernel
theorem dL_law_893 : decode cL_law 893 = .ok (.iconst 1, 1) := by decide +kernel
theorem dL_law_894 : decode cL_law 894 = .ok (.iadd, 1) := by decide +kernel
theorem dL_law_895 : decode cL_law 895 = .ok (.iaload, 1) := by decide +kernel
theorem dL_law_896 : decode cL_law 896 = .ok (.aload_n 0, 1) := by decide +kernel
theorem dL_law_897 : decode cL_law 897 = .ok (.iload_n 3, 1) := by decide +kernel
theorem dL_law_898 : decode cL_law 898 = .ok (.iconst 2, 1) := by decide +kernel
theorem dL_law_899 : decode cL_law 899 = .ok (.iadd, 1) := by decide +kernel
theorem dL_law_900 : decode cL_law 900 = .ok (.iaload, 1) := by decide +kernel
theorem dL_law_901 : decode cL_law 901 = .ok (.invokevirtual 109, 3) := by decide +kernel
theorem dL_law_904 : decode cL_law 904 = .ok (.aload_n 2, 1) := by decide +kernel
theorem dL_law_905 : decode cL_law 905 = .ok (.aload_n 0, 1) := by decide +kernel
theorem dL_law_906 : decode cL_law 906 = .ok (.iload_n 3, 1) := by decide +kernel
theorem dL_law_907 : decode cL_law 907 = .ok (.iconst 1, 1) := by decide +kernel
theorem dL_law_908 : decode cL_law 908 = .ok (.iadd, 1) := by decide +kernel
theorem dL_law_909 : decode cL_law 909 = .ok (.iaload, 1) := by decide +kernel
theorem dL_law_910 : decode cL_law 910 = .ok (.aload_n 0, 1) := by decide +kernel
theorem dL_law_911 : decode cL_law 911 = .ok (.iload_n 3, 1) := by decide +kernel
theorem dL_law_912 : decode cL_law 912 = .ok (.iconst 2, 1) := by decide +kernel
theorem dL_law_913 : decode cL_law 913 = .ok (.iadd, 1) := by decide +kernel
theorem dL_law_914 : decode cL_law 914 = .ok (.iaload, 1) := by decide +kernel
theorem dL_law_915 : decode cL_law 915 = .ok (.invokevirtual 112, 3) := by decide +kernel
theorem dL_law_918 : decode cL_law 918 = .ok (.if_icmp .eq 51, 3) := by decide +kernel
theorem dL_law_921 : decode cL_law 921 = .ok (.iconst 0, 1) := by decide +kernel
theorem dL_law_922 : decode cL_law 922 = .ok (.ireturn, 1) := by decide +kernel
theorem dL_law_923 : decode cL_law 923 = .ok (.aload_n 1, 1) := by decide +kernel
theorem dL_law_924 : decode cL_law 924 = .ok (.aload_n 0, 1) := by decide +kernel
theorem dL_law_925 : decode cL_law 925 = .ok (.iload_n 3, 1) := by decide +kernel
theorem dL_law_926 : decode cL_law 926 = .ok (.iconst 1, 1) := by decide +kernel
theorem dL_law_927 : decode cL_law 927 = .ok (.iadd, 1) := by decide +kernel
theorem dL_law_928 : decode cL_law 928 = .ok (.iaload, 1) := by decide +kernel
theorem dL_law_929 : decode cL_law 929 = .ok (.invokevirtual 113, 3) := by decide +kernel
theorem dL_law_932 : decode cL_law 932 = .ok (.aload_n 2, 1) := by decide +kernel
theorem dL_law_933 : decode cL_law 933 = .ok (.aload_n 0, 1) := by decide +kernel
theorem dL_law_934 : decode cL_law 934 = .ok (.iload_n 3, 1) := by decide +kernel
theorem dL_law_935 : decode cL_law 935 = .ok (.iconst 1, 1) := by decide +kernel
theorem dL_law_936 : decode cL_law 936 = .ok (.iadd, 1) := by decide +kernel
theorem dL_law_937 : decode cL_law 937 = .ok (.iaload, 1) := by decide +kernel
theorem dL_law_938 : decode cL_law 938 = .ok (.invokevirtual 116, 3) := by decide +kernel
theorem dL_law_941 : decode cL_law 941 = .ok (.if_icmp .eq 28, 3) := by decide +kernel
theorem dL_law_944 : decode cL_law 944 = .ok (.iconst 0, 1) := by decide +kernel
theorem dL_law_945 : decode cL_law 945 = .ok (.ireturn, 1) := by decide +kernel
theorem dL_law_946 : decode cL_law 946 = .ok (.aload_n 1, 1) := by decide +kernel
theorem dL_law_947 : decode cL_law 947 = .ok (.aload_n 0, 1) := by decide +kernel
theorem dL_law_948 : decode cL_law 948 = .ok (.iload_n 3, 1) := by decide +kernel
theorem dL_law_949 : decode cL_law 949 = .ok (.iconst 1, 1) := by decide +kernel
theorem dL_law_950 : decode cL_law 950 = .ok (.iadd, 1) := by decide +kernel
theorem dL_law_951 : decode cL_law 951 = .ok (.iaload, 1) := by decide +kernel
theorem dL_law_952 : decode cL_law 952 = .ok (.invokevirtual 117, 3) := by decide +kernel
theorem dL_law_955 : decode cL_law 955 = .ok (.aload_n 2, 1) := by decide +kernel
theorem dL_law_956 : decode cL_law 956 = .ok (.aload_n 0, 1) := by decide +kernel
theorem dL_law_957 : decode cL_law 957 = .ok (.iload_n 3, 1) := by decide +kernel
theorem dL_law_958 : decode cL_law 958 = .ok (.iconst 1, 1) := by decide +kernel
theorem dL_law_959 : decode cL_law 959 = .ok (.iadd, 1) := by decide +kernel
theorem dL_law_960 : decode cL_law 960 = .ok (.iaload, 1) := by decide +kernel
theorem dL_law_961 : decode cL_law 961 = .ok (.invokevirtual 120, 3) := by decide +kernel
theorem dL_law_964 : decode cL_law 964 = .ok (.if_icmp .eq 5, 3) := by decide +kernel
theorem dL_law_967 : decode cL_law 967 = .ok (.iconst 0, 1) := by decide +kernel
theorem dL_law_968 : decode cL_law 968 = .ok (.ireturn, 1) := by decide +kernel
theorem dL_law_969 : decode cL_law 969 = .ok (.iinc 3 5, 3) := by decide +kernel
theorem dL_law_972 : decode cL_law 972 = .ok (.goto (-954), 3) := by decide +kernel
theorem dL_law_975 : decode cL_law 975 = .ok (.iconst 1, 1) := by decide +kernel
theorem dL_law_976 : decode cL_law 976 = .ok (.ireturn, 1) := by decide +kernel
end
section
/-! MY OWN ROWS: an environment, contracts with one word list, cells by single facts -/
abbrev EV : Type := va_G × (Nat → ClassId)
def tysE (E : EV) : List (ClassId × FieldType) := [(E.2 0, .int), (E.2 1, .long), (E.2 2, .boolean), (E.2 3, .object "java/lang/Object"), (E.2 4, .array .int)]
/-- words that stay by rows of their own: casts to Object, private statics of the host, getClass -/
def xwC (C : String) : Cond := .castable C "java/lang/Object"
def xwM (q : String × Nat × MethodName) : Cond := .methodLinkNest q.1 q.2.1 q.2.2 "WeddingRegister"
def xCs : List String := ["WeddingRegister$Law", "WeddingRegister$Person", "WeddingRegister$Paper", "WeddingRegister$Notice", "WeddingRegister$Objection", "WeddingRegister$Entry", "WeddingRegister$Correction", "[Ljava/lang/Object;"]
def xMs : List (String × Nat × MethodName) := [("WeddingRegister$DayPlan", 24, yX10_hourOf), ("WeddingRegister$DayPlan", 28, yX10_registrarOf), ("WeddingRegister$DayPlan", 35, yX10_hallOf), ("WeddingRegister$Entry", 42, yX10_hallOf), ("WeddingRegister$Entry", 49, yX10_registrarOf)]
def evK (E : EV) (U : State) : Prop := va_K E.1 vwCl (tysE E) U ∧ (∀ C ∈ xCs, va_Nw (xwC C) U) ∧ (∀ q ∈ xMs, va_Nw (xwM q) U) ∧ va_Dc U ∧ va_AO "java/lang/Object" U
theorem evK.warm {E : EV} {s U : State} (h : evK E s) (hW : s.WarmedH U.vm) : evK E U :=
  ⟨va_K.moved hW.alike h.1, fun C hC => va_Nw.warmC hW (h.2.1 C hC), fun q hq => va_Nw.warmM hW (h.2.2.1 q hq), va_Dc.moved hW.alike h.2.2.2.1, va_AO.moved hW.alike h.2.2.2.2⟩
theorem evK.call {E : EV} {U : State} (h : evK E U) (g : JFrame) (mk : MethodId) (a : Array Value) : evK E (U.calling g mk a) :=
  ⟨va_K.moved (u := U) (U := U.calling g mk a) (Vm.Alike.refl U.vm) h.1, fun C hC => va_Nw.same (u := U) rfl rfl (h.2.1 C hC), fun q hq => va_Nw.same (u := U) rfl rfl (h.2.2.1 q hq), va_Dc.moved (u := U) (Vm.Alike.refl U.vm) h.2.2.2.1, va_AO.moved (u := U) (Vm.Alike.refl U.vm) h.2.2.2.2⟩
/-- a contract: any heap with P; the answer and the heap behind with R; only cells of A are written -/
def Ct (l : Launch) (E : EV) (y : MethodName) (cc : ByteArray) (nL : Nat) (ret : Option FieldType) (fr lo mc ms : Nat) (A : Nat → Prop) (av : List Value) (P : Heap → Prop) (R : Option Value → Heap → Prop) : Prop :=
  Met l y (Cond.code y cc nL ret :: uw) { frames := fr, cells := mc, slots := ms, locals := lo }
    (fun v U => v = av.toArray ∧ P U.heap ∧ evK E U ∧ ∀ q, U.heap.size ≤ q → A q)
    (fun _ st o t => (∃ v, o = .returned v ∧ R v t.heap) ∧ va_F A st t) mc ms A
/-- a reader's contract: the heap stays as it is, the answer is rv -/
def Cr (l : Launch) (E : EV) (y : MethodName) (cc : ByteArray) (nL : Nat) (ret : Option FieldType) (fr lo : Nat) (av : List Value) (P : Heap → Prop) (rv : Option Value) : Prop :=
  Met l y (Cond.code y cc nL ret :: uw) { frames := fr, cells := 0, slots := 0, locals := lo }
    (fun v U => v = av.toArray ∧ P U.heap ∧ evK E U)
    (fun _ st o t => o = .returned rv ∧ t.heap = st.heap) 0 0 (fun _ => False)
/-- where a method's walk ends -/
def QT (below : List Frame) (s : State) (args : Array Value) (mc ms : Nat) (A : Nat → Prop) (R : Option Value → Heap → Prop) : State → Prop :=
  MQ below (fun _ st o t => (∃ v, o = .returned v ∧ R v t.heap) ∧ va_F A st t) args s mc ms A
def QR (below : List Frame) (s : State) (args : Array Value) (rv : Option Value) : State → Prop :=
  MQ below (fun _ st o t => o = .returned rv ∧ t.heap = st.heap) args s 0 0 (fun _ => False)
theorem Ct.of {l : Launch} {E : EV} {y : MethodName} {cc : ByteArray} {nL : Nat} {ret : Option FieldType} {fr lo mc ms : Nat} {A : Nat → Prop} {av : List Value} {P : Heap → Prop} {R : Option Value → Heap → Prop}
    (hy : plainName y.cls = true) (hlen : (lg_sl av).length ≤ nL)
    (body : ∀ (p : Program) (e : Env) (s : State) (m : MethodId) (below : List Frame) (meth : Method) (c : Code), p.tables.exec = Jvm.exec → c.code = cc → meth.sig.returnType = ret → c.maxLocals = nL → s.vm.findClass y.cls = some m.cls → (∀ w ∈ uw, w.before av.toArray s = true) → meth.locks = false → meth.name = y.name → evK E s → P s.heap → (∀ q, s.heap.size ≤ q → A q) →
      ∀ ls : Array Slot, lv_has ls nL (lv_args 0 av) → W p l e { frames := fr, cells := mc, slots := ms, locals := lo } s m av.toArray below meth c s.heap [] 0 0 (QT below s av.toArray mc ms A R) (F0 m 0 ls [])) :
    Ct l E y cc nL ret fr lo mc ms A av P R := by
  refine Met.ofW (cc := cc) (maxL := nL) (ret := ret) hy rfl ?_
  intro p e s m args below meth c s₁ B hml hv
  obtain ⟨rfl, hP, hE, hA⟩ := hv
  have hts := atoms_spec (ws := Cond.code y cc nL ret :: uw) B.pre
  have hl := lv_entry av (n := nL) hlen
  rw [lg_entry_eq]
  exact body p e s m below meth c B.exec B.bytes B.returns hml (findClass_of_methodNamed B.named) (fun w h => hts w (List.mem_cons_of_mem _ h)) B.notSynchronized (name_of_methodNamed B.named B.method).1 hE hP hA _ hl
theorem Cr.of {l : Launch} {E : EV} {y : MethodName} {cc : ByteArray} {nL : Nat} {ret : Option FieldType} {fr lo : Nat} {av : List Value} {P : Heap → Prop} {rv : Option Value}
    (hy : plainName y.cls = true) (hlen : (lg_sl av).length ≤ nL)
    (body : ∀ (p : Program) (e : Env) (s : State) (m : MethodId) (below : List Frame) (meth : Method) (c : Code), p.tables.exec = Jvm.exec → c.code = cc → meth.sig.returnType = ret → c.maxLocals = nL → s.vm.findClass y.cls = some m.cls → (∀ w ∈ uw, w.before av.toArray s = true) → meth.locks = false → evK E s → P s.heap →
      ∀ ls : Array Slot, lv_has ls nL (lv_args 0 av) → W p l e { frames := fr, cells := 0, slots := 0, locals := lo } s m av.toArray below meth c s.heap [] 0 0 (QR below s av.toArray rv) (F0 m 0 ls [])) :
    Cr l E y cc nL ret fr lo av P rv := by
  refine Met.ofW (cc := cc) (maxL := nL) (ret := ret) hy rfl ?_
  intro p e s m args below meth c s₁ B hml hv
  obtain ⟨rfl, hP, hE⟩ := hv
  have hts := atoms_spec (ws := Cond.code y cc nL ret :: uw) B.pre
  have hl := lv_entry av (n := nL) hlen
  rw [lg_entry_eq]
  exact body p e s m below meth c B.exec B.bytes B.returns hml (findClass_of_methodNamed B.named) (fun w h => hts w (List.mem_cons_of_mem _ h)) B.notSynchronized hE hP _ hl
/-- what the tables say of a callee: its code, that it can be called -/
def calB (y : MethodName) (cc : ByteArray) (nL : Nat) (ret : Option FieldType) (n : Nat) : Prop :=
  Cond.code y cc nL ret ∈ uw ∧ Cond.initialized y.cls ∈ uw ∧ y.cls ≠ "java/lang/invoke/MethodHandle" ∧ y.cls ≠ "java/lang/invoke/VarHandle" ∧ (parseMethodDescriptor y.desc).map (fun d => d.parameters.length) = some n
def calV (y : MethodName) (cc : ByteArray) (nL : Nat) (ret : Option FieldType) (n : Nat) : Prop :=
  calB y cc nL ret n ∧ Cond.instanceMethod y ∈ uw ∧ Cond.selects y.cls y y ∈ uw
def calS (y : MethodName) (cc : ByteArray) (nL : Nat) (ret : Option FieldType) (n : Nat) : Prop := calB y cc nL ret n ∧ Cond.static y ∈ uw
def calI (y : MethodName) (cc : ByteArray) (nL : Nat) (n : Nat) : Prop := calB y cc nL none n ∧ y.name = "<init>" ∧ Cond.instanceMethod y ∈ uw
theorem good_uw {y : MethodName} {cc : ByteArray} {nL : Nat} {ret : Option FieldType} (h : Cond.code y cc nL ret ∈ uw) : GoodIn uw (Cond.code y cc nL ret :: uw) := by
  intro w hw
  rcases List.mem_cons.mp hw with rfl | hw
  · exact ⟨h, good_of_word (uw_good h)⟩
  · exact ⟨hw, good_of_word (uw_good hw)⟩
theorem calB.use {y : MethodName} {cc : ByteArray} {nL : Nat} {ret : Option FieldType} {n : Nat} (h : calB y cc nL ret n) {R : Room} {s : State} {args : Array Value} {own : String} {index : Nat} (hu : ∀ w ∈ uw, w.before args s = true) (hl : Cond.methodLink own index y ∈ uw) {fr lo mc ms : Nat} (hR : fr + 1 ≤ R.frames ∧ 8 + (nL + 11) + lo ≤ R.locals) :
    CallB R s args own index y cc nL ret (Cond.code y cc nL ret :: uw) { frames := fr, cells := mc, slots := ms, locals := lo } mc ms n :=
  callB_of n hu (good_uw h.1) rfl rfl rfl (hu _ h.2.1) (hu _ hl) h.2.2 hR
/-- an object of a class of ours, as a receiver -/
theorem recvAt {E : EV} {s : State} {H : Heap} {a ci : Nat} {q : vw_C} {fs : List Value} (hE : evK E s) (hc : vwCl[ci]? = some q) (ha : va_at E.1 vwCl (a, .inr (ci, fs)) H) : ∃ cell : Cell, H[a]? = some cell ∧ cell.vm.isStatics = false ∧ s.vm.findClass q.1 = some cell.cls :=
  va_recv (ws := [(a, .inr (ci, fs))]) hE.1 (fun k x hx => by
    have hz : k < 1 := (List.getElem?_eq_some_iff.mp hx).1
    rw [show k = 0 by omega] at hx
    cases hx
    exact ha) hc (q0 := 0) rfl
section MYC
variable {p : Program} {l : Launch} {e : Env} {R : Room} {s : State} {m : MethodId} {args : Array Value} {below : List Frame} {meth : Method} {c : Code} {H : Heap} {locs : List Loc} {cells slots : Nat} {Q : State → Prop} {E : EV}
variable {pc : Nat} {ls : Array Slot} {rest st0 : List Value} {y : MethodName} {cc c2 : ByteArray} {nL n2 n fr lo mc ms index : Nat} {ret : Option FieldType} {A A1 : Nat → Prop} {As : List Value} {P : Heap → Prop} {rv : Option Value} {Rv : Option Value → Heap → Prop} {own C : String} {b : Nat} {H0 : Heap}
/-- behind a reader's run -/
theorem cr_on (hr : va_Run p l e R s m args below meth c H locs cells slots 0 0 (F0 m pc ls st0) rest (fun st o t => o = .returned rv ∧ t.heap = st.heap) (fun _ => False))
    (kk : W p l e R s m args below meth c H locs cells slots Q (F0 m (pc + 3) ls (rv.toList ++ rest))) : W p l e R s m args below meth c H locs cells slots Q (F0 m pc ls st0) := by
  intro T hT X
  obtain ⟨v, st₀, t, T', L, h0, X', hL, e1, e2, ⟨hv, hh⟩, st⟩ := hr T hT X
  cases hv
  obtain ⟨t2, a1, b1⟩ := kk T' (by rw [e1, hh, h0]) (Stand.forget X' (fun q h => (hL q h).elim))
  exact ⟨t2, st t2 a1, b1⟩
/-- behind a writer's run -/
theorem ct_on (hr : va_Run p l e R s m args below meth c H locs cells slots mc ms (F0 m pc ls st0) rest (fun st o t => (∃ v, o = .returned v ∧ Rv v t.heap) ∧ va_F A1 st t) A1) (hS : va_S A H0 H locs) (hAA : ∀ q, A1 q → A q)
    (kk : ∀ (v : Option Value) (H1 : Heap) (locs1 : List Loc), Rv v H1 → va_S A H0 H1 locs1 → H.size ≤ H1.size → (∀ q : Nat, q < H.size → ¬ A1 q → H1[q]? = H[q]?) → W p l e R s m args below meth c H1 locs1 (cells + mc) (slots + ms) Q (F0 m (pc + 3) ls (v.toList ++ rest))) : W p l e R s m args below meth c H locs cells slots Q (F0 m pc ls st0) := by
  intro T hT X
  obtain ⟨v, st₀, t, T', L, h0, X', hL, e1, e2, ⟨⟨v', hv, hR⟩, hz, hk⟩, st⟩ := hr T hT X
  cases hv
  rw [h0] at hz hk
  obtain ⟨t2, a1, b1⟩ := kk v T'.heap (locs ++ L) (by rw [e1]; exact hR)
    ⟨Nat.le_trans hS.1 (by rw [e1]; exact hz), fun q h1 h2 => by rw [e1, hk q (Nat.lt_of_lt_of_le h1 hS.1) (fun z => h2 (hAA q z))]; exact hS.2.1 q h1 h2, fun q hq => by
      rcases List.mem_append.mp hq with h | h
      · exact hS.2.2 q h
      · exact hAA _ (hL q h)⟩ (by rw [e1]; exact hz) (fun q h1 h2 => by rw [e1]; exact hk q h1 h2) T' rfl X'
  exact ⟨t2, st t2 a1, b1⟩
/-- a call of a reader: virtual, static, and (nest) static of the host -/
theorem cr_V {ci : Nat} {q : vw_C} {fs : List Value} (hx : p.tables.exec = Jvm.exec) (hb : c.code = cc) (hml : c.maxLocals = nL) (hown : s.vm.findClass own = some m.cls) (hu : ∀ w ∈ uw, w.before args s = true) (hE : evK E s) (hM : Cr l E y c2 n2 ret fr lo (.ref b :: As) P rv) (hk : calV y c2 n2 ret n) (hl : Cond.methodLink own index y ∈ uw) (ha : va_at E.1 vwCl (b, .inr (ci, fs)) H) (hc : vwCl[ci]? = some q) (hq : y.cls = q.1) (hP : P H)
    (hR : fr + 1 ≤ R.frames ∧ 8 + (n2 + 11) + lo ≤ R.locals) (hn : As.length = n) (hsz : ls.size = nL) (hst : st0 = As.reverse ++ .ref b :: rest) (hW : (rest.map fun v => v.category).sum ≤ 8) (hf : cells ≤ R.cells ∧ slots ≤ R.slots) (hdg : decode cc pc = .ok (.invokevirtual index, 3))
    (kk : W p l e R s m args below meth c H locs cells slots Q (F0 m (pc + 3) ls (rv.toList ++ rest))) : W p l e R s m args below meth c H locs cells slots Q (F0 m pc ls st0) := by
  have hs := recvAt hE hc ha
  rw [← hq] at hs
  exact cr_on (va_runV (C := y.cls) ⟨hx, hb, hml, hown, hu⟩ hM ⟨calB.use hk.1 hu hl hR, hu _ hk.2.1, hu _ hk.2.2⟩ ⟨fun a U g mk q => ⟨q.1, q.2.1, q.2.2.call g mk a⟩, hs, fun U hU hW => ⟨rfl, by rw [hU]; exact hP, hE.warm hW⟩⟩ rfl hn hsz hst (lv_room hW) hdg hf) kk
theorem cr_S (hx : p.tables.exec = Jvm.exec) (hb : c.code = cc) (hml : c.maxLocals = nL) (hown : s.vm.findClass own = some m.cls) (hu : ∀ w ∈ uw, w.before args s = true) (hE : evK E s) (hM : Cr l E y c2 n2 ret fr lo As P rv) (hk : calS y c2 n2 ret n) (hl : Cond.methodLink own index y ∈ uw) (hP : P H)
    (hR : fr + 1 ≤ R.frames ∧ 8 + (n2 + 11) + lo ≤ R.locals) (hn : As.length = n) (hsz : ls.size = nL) (hst : st0 = As.reverse ++ rest) (hW : (rest.map fun v => v.category).sum ≤ 8) (hf : cells ≤ R.cells ∧ slots ≤ R.slots) (hdg : decode cc pc = .ok (.invokestatic index, 3))
    (kk : W p l e R s m args below meth c H locs cells slots Q (F0 m (pc + 3) ls (rv.toList ++ rest))) : W p l e R s m args below meth c H locs cells slots Q (F0 m pc ls st0) :=
  cr_on (va_runS ⟨hx, hb, hml, hown, hu⟩ hM ⟨calB.use hk.1 hu hl hR, hu _ hk.2⟩ ⟨fun a U g mk q => ⟨q.1, q.2.1, q.2.2.call g mk a⟩, fun U hU hW => ⟨rfl, by rw [hU]; exact hP, hE.warm hW⟩⟩ rfl hn hsz hst (lv_room hW) hdg hf) kk
theorem cr_N (hx : p.tables.exec = Jvm.exec) (hb : c.code = cc) (hml : c.maxLocals = nL) (hown : s.vm.findClass own = some m.cls) (hu : ∀ w ∈ uw, w.before args s = true) (hE : evK E s) (hM : Cr l E y c2 n2 ret fr lo As P rv) (hk : calS y c2 n2 ret n) (hl : (own, index, y) ∈ xMs) (hP : P H)
    (hR : fr + 1 ≤ R.frames ∧ 8 + (n2 + 11) + lo ≤ R.locals) (hn : As.length = n) (hsz : ls.size = nL) (hst : st0 = As.reverse ++ rest) (hW : (rest.map fun v => v.category).sum ≤ 8) (hf : cells ≤ R.cells ∧ slots ≤ R.slots) (hdg : decode cc pc = .ok (.invokestatic index, 3))
    (kk : W p l e R s m args below meth c H locs cells slots Q (F0 m (pc + 3) ls (rv.toList ++ rest))) : W p l e R s m args below meth c H locs cells slots Q (F0 m pc ls st0) :=
  cr_on (va_runSN (host := "WeddingRegister") ⟨hx, hb, hml, hown, hu⟩ hM ⟨va_cnB n hu (good_uw hk.1.1) rfl rfl rfl (hE.2.2.1 _ hl) (hu _ hk.1.2.1) hk.1.2.2 hR, hu _ hk.2, trivial⟩ ⟨fun a U g mk q => ⟨q.1, q.2.1, q.2.2.call g mk a⟩, fun U hU hW => ⟨rfl, by rw [hU]; exact hP, hE.warm hW⟩⟩ rfl hn hsz hst (lv_room hW) hdg hf) kk
/-- a call of a writer: virtual, static, a constructor -/
theorem ct_V {ci : Nat} {q : vw_C} {fs : List Value} (hx : p.tables.exec = Jvm.exec) (hb : c.code = cc) (hml : c.maxLocals = nL) (hown : s.vm.findClass own = some m.cls) (hu : ∀ w ∈ uw, w.before args s = true) (hE : evK E s) (hS : va_S A H0 H locs) (hAA : ∀ q, A1 q → A q) (hA1 : ∀ q, H.size ≤ q → A1 q) (hM : Ct l E y c2 n2 ret fr lo mc ms A1 (.ref b :: As) P Rv) (hk : calV y c2 n2 ret n) (hl : Cond.methodLink own index y ∈ uw) (ha : va_at E.1 vwCl (b, .inr (ci, fs)) H) (hc : vwCl[ci]? = some q) (hq : y.cls = q.1) (hP : P H)
    (hR : fr + 1 ≤ R.frames ∧ 8 + (n2 + 11) + lo ≤ R.locals) (hn : As.length = n) (hsz : ls.size = nL) (hst : st0 = As.reverse ++ .ref b :: rest) (hW : (rest.map fun v => v.category).sum ≤ 8) (hf : cells + mc ≤ R.cells ∧ slots + ms ≤ R.slots) (hdg : decode cc pc = .ok (.invokevirtual index, 3))
    (kk : ∀ (v : Option Value) (H1 : Heap) (locs1 : List Loc), Rv v H1 → va_S A H0 H1 locs1 → H.size ≤ H1.size → (∀ q : Nat, q < H.size → ¬ A1 q → H1[q]? = H[q]?) → W p l e R s m args below meth c H1 locs1 (cells + mc) (slots + ms) Q (F0 m (pc + 3) ls (v.toList ++ rest))) : W p l e R s m args below meth c H locs cells slots Q (F0 m pc ls st0) := by
  have hs := recvAt hE hc ha
  rw [← hq] at hs
  exact ct_on (va_runV (C := y.cls) ⟨hx, hb, hml, hown, hu⟩ hM ⟨calB.use hk.1 hu hl hR, hu _ hk.2.1, hu _ hk.2.2⟩ ⟨fun a U g mk q => ⟨q.1, q.2.1, q.2.2.1.call g mk a, q.2.2.2⟩, hs, fun U hU hW => ⟨rfl, by rw [hU]; exact hP, hE.warm hW, by rw [hU]; exact hA1⟩⟩ rfl hn hsz hst (lv_room hW) hdg hf) hS hAA kk
theorem ct_S (hx : p.tables.exec = Jvm.exec) (hb : c.code = cc) (hml : c.maxLocals = nL) (hown : s.vm.findClass own = some m.cls) (hu : ∀ w ∈ uw, w.before args s = true) (hE : evK E s) (hS : va_S A H0 H locs) (hAA : ∀ q, A1 q → A q) (hA1 : ∀ q, H.size ≤ q → A1 q) (hM : Ct l E y c2 n2 ret fr lo mc ms A1 As P Rv) (hk : calS y c2 n2 ret n) (hl : Cond.methodLink own index y ∈ uw) (hP : P H)
    (hR : fr + 1 ≤ R.frames ∧ 8 + (n2 + 11) + lo ≤ R.locals) (hn : As.length = n) (hsz : ls.size = nL) (hst : st0 = As.reverse ++ rest) (hW : (rest.map fun v => v.category).sum ≤ 8) (hf : cells + mc ≤ R.cells ∧ slots + ms ≤ R.slots) (hdg : decode cc pc = .ok (.invokestatic index, 3))
    (kk : ∀ (v : Option Value) (H1 : Heap) (locs1 : List Loc), Rv v H1 → va_S A H0 H1 locs1 → H.size ≤ H1.size → (∀ q : Nat, q < H.size → ¬ A1 q → H1[q]? = H[q]?) → W p l e R s m args below meth c H1 locs1 (cells + mc) (slots + ms) Q (F0 m (pc + 3) ls (v.toList ++ rest))) : W p l e R s m args below meth c H locs cells slots Q (F0 m pc ls st0) :=
  ct_on (va_runS ⟨hx, hb, hml, hown, hu⟩ hM ⟨calB.use hk.1 hu hl hR, hu _ hk.2⟩ ⟨fun a U g mk q => ⟨q.1, q.2.1, q.2.2.1.call g mk a, q.2.2.2⟩, fun U hU hW => ⟨rfl, by rw [hU]; exact hP, hE.warm hW, by rw [hU]; exact hA1⟩⟩ rfl hn hsz hst (lv_room hW) hdg hf) hS hAA kk
theorem ct_I (hx : p.tables.exec = Jvm.exec) (hb : c.code = cc) (hml : c.maxLocals = nL) (hown : s.vm.findClass own = some m.cls) (hu : ∀ w ∈ uw, w.before args s = true) (hE : evK E s) (hS : va_S A H0 H locs) (hAA : ∀ q, A1 q → A q) (hA1 : ∀ q, H.size ≤ q → A1 q) (hM : Ct l E y c2 n2 none fr lo mc ms A1 (.ref b :: As) P Rv) (hk : calI y c2 n2 n) (hl : Cond.methodLink own index y ∈ uw) (hP : P H)
    (hR : fr + 1 ≤ R.frames ∧ 8 + (n2 + 11) + lo ≤ R.locals) (hn : As.length = n) (hsz : ls.size = nL) (hst : st0 = As.reverse ++ .ref b :: rest) (hW : (rest.map fun v => v.category).sum ≤ 8) (hf : cells + mc ≤ R.cells ∧ slots + ms ≤ R.slots) (hdg : decode cc pc = .ok (.invokespecial index, 3))
    (kk : ∀ (v : Option Value) (H1 : Heap) (locs1 : List Loc), Rv v H1 → va_S A H0 H1 locs1 → H.size ≤ H1.size → (∀ q : Nat, q < H.size → ¬ A1 q → H1[q]? = H[q]?) → W p l e R s m args below meth c H1 locs1 (cells + mc) (slots + ms) Q (F0 m (pc + 3) ls (v.toList ++ rest))) : W p l e R s m args below meth c H locs cells slots Q (F0 m pc ls st0) :=
  ct_on (va_runI ⟨hx, hb, hml, hown, hu⟩ hM ⟨calB.use hk.1 hu hl hR, hk.2.1, hu _ hk.2.2⟩ ⟨fun a U g mk q => ⟨q.1, q.2.1, q.2.2.1.call g mk a, q.2.2.2⟩, fun U hU hW => ⟨rfl, by rw [hU]; exact hP, hE.warm hW, by rw [hU]; exact hA1⟩⟩ rfl hn hsz hst (lv_room hW) hdg hf) hS hAA kk
/-- the ends of a reader -/
theorem cr_ri {v : Int32} (hx : p.tables.exec = Jvm.exec) (hb : c.code = cc) (hr : meth.sig.returnType = some .int) (hlocks : meth.locks = false) (hv : rv = some (.int v)) (hdg : decode cc pc = .ok (.ireturn, 1)) : W p l e R s m args below meth c s.heap [] 0 0 (QR below s args rv) (F0 m pc ls [.int v]) :=
  W.iret hx hb hr (fun t ht _ => ⟨by rw [hv], ht⟩) (fun q h => by cases h) hdg hlocks
theorem cr_rz {v : Int32} (hx : p.tables.exec = Jvm.exec) (hb : c.code = cc) (hr : meth.sig.returnType = some .boolean) (hlocks : meth.locks = false) (hv : rv = some (.int v)) (hn : narrow .boolean (.int v) = .int v) (hdg : decode cc pc = .ok (.ireturn, 1)) : W p l e R s m args below meth c s.heap [] 0 0 (QR below s args rv) (F0 m pc ls [.int v]) :=
  W.zret hx hb hr hn (fun t ht _ => ⟨by rw [hv], ht⟩) (fun q h => by cases h) hdg hlocks
theorem cr_ra {v : Value} {rt : FieldType} (hx : p.tables.exec = Jvm.exec) (hb : c.code = cc) (hr : meth.sig.returnType = some rt) (hrt : (∃ n, rt = .object n) ∨ ∃ t, rt = .array t) (hvv : v = .null ∨ ∃ a, v = .ref a) (hlocks : meth.locks = false) (hv : rv = some v) (hdg : decode cc pc = .ok (.areturn, 1)) : W p l e R s m args below meth c s.heap [] 0 0 (QR below s args rv) (F0 m pc ls [v]) :=
  W.aret hx hb hr hrt hvv (fun t ht _ => ⟨by rw [hv], ht⟩) (fun q h => by cases h) hdg hlocks
/-- the ends of a writer -/
theorem ct_ri {v : Int32} (hx : p.tables.exec = Jvm.exec) (hb : c.code = cc) (hr : meth.sig.returnType = some .int) (hlocks : meth.locks = false) (hS : va_S A s.heap H locs) (hR : Rv (some (.int v)) H) (h1 : cells ≤ mc) (h2 : slots ≤ ms) (hdg : decode cc pc = .ok (.ireturn, 1)) : W p l e R s m args below meth c H locs cells slots (QT below s args mc ms A Rv) (F0 m pc ls [.int v]) :=
  W.widen h1 h2 (W.iret hx hb hr (fun t ht _ => ⟨⟨_, rfl, by rw [ht]; exact hR⟩, hS.F ht⟩) hS.2.2 hdg hlocks)
theorem ct_rz {v : Int32} (hx : p.tables.exec = Jvm.exec) (hb : c.code = cc) (hr : meth.sig.returnType = some .boolean) (hlocks : meth.locks = false) (hS : va_S A s.heap H locs) (hR : Rv (some (.int v)) H) (hn : narrow .boolean (.int v) = .int v) (h1 : cells ≤ mc) (h2 : slots ≤ ms) (hdg : decode cc pc = .ok (.ireturn, 1)) : W p l e R s m args below meth c H locs cells slots (QT below s args mc ms A Rv) (F0 m pc ls [.int v]) :=
  W.widen h1 h2 (W.zret hx hb hr hn (fun t ht _ => ⟨⟨_, rfl, by rw [ht]; exact hR⟩, hS.F ht⟩) hS.2.2 hdg hlocks)
theorem ct_rv (hx : p.tables.exec = Jvm.exec) (hb : c.code = cc) (hr : meth.sig.returnType = none) (hlocks : meth.locks = false) (hS : va_S A s.heap H locs) (hR : Rv none H) (h1 : cells ≤ mc) (h2 : slots ≤ ms) (hdg : decode cc pc = .ok (.return_, 1)) : W p l e R s m args below meth c H locs cells slots (QT below s args mc ms A Rv) (F0 m pc ls []) :=
  W.widen h1 h2 (W.vret hx hb hr (fun t ht _ => ⟨⟨_, rfl, by rw [ht]; exact hR⟩, hS.F ht⟩) hS.2.2 hdg hlocks)
theorem ct_ra {v : Value} {rt : FieldType} (hx : p.tables.exec = Jvm.exec) (hb : c.code = cc) (hr : meth.sig.returnType = some rt) (hrt : (∃ n, rt = .object n) ∨ ∃ t, rt = .array t) (hvv : v = .null ∨ ∃ a, v = .ref a) (hlocks : meth.locks = false) (hS : va_S A s.heap H locs) (hR : Rv (some v) H) (h1 : cells ≤ mc) (h2 : slots ≤ ms) (hdg : decode cc pc = .ok (.areturn, 1)) : W p l e R s m args below meth c H locs cells slots (QT below s args mc ms A Rv) (F0 m pc ls [v]) :=
  W.widen h1 h2 (W.aret hx hb hr hrt hvv (fun t ht _ => ⟨⟨_, rfl, by rw [ht]; exact hR⟩, hS.F ht⟩) hS.2.2 hdg hlocks)
end MYC
end
section
/-! ROWS OVER SINGLE CELLS -/
def clOK (ci : Nat) (C : String) (T : u_T) (N : Nat) (ty : Nat → FieldType) : Prop :=
  vwCl[ci]? = some (C, T, N) ∧ (∀ w ∈ u_ws C T N, w ∈ uw) ∧ (∀ k, k < N → parseFieldDescriptor (T k).2.2.1 = some (ty k)) ∧ (∀ a, a < N → ∀ b, b < N → a ≠ b → (T a).2.1 ≠ (T b).2.1) ∧ Cond.instantiable C N ∈ uw ∧ Cond.initialized C ∈ uw
abbrev ob (E : EV) (a ci : Nat) (fs : List Value) (H : Heap) : Prop := va_at E.1 vwCl (a, .inr (ci, fs)) H
abbrev ia (E : EV) (a n : Nat) (f : Nat → Int32) (H : Heap) : Prop := va_at E.1 vwCl (a, .inl (E.2 0, n, .inl f)) H
abbrev la (E : EV) (a n : Nat) (f : Nat → Int64) (H : Heap) : Prop := va_at E.1 vwCl (a, .inl (E.2 1, n, .inr (.inl f))) H
abbrev za (E : EV) (a n : Nat) (f : Nat → Int32) (H : Heap) : Prop := va_at E.1 vwCl (a, .inl (E.2 2, n, .inl f)) H
abbrev qa (E : EV) (a n : Nat) (f : Nat → Option Nat) (H : Heap) : Prop := va_at E.1 vwCl (a, .inl (E.2 3, n, .inr (.inr (.inr (.inr f))))) H
abbrev ra (E : EV) (a n : Nat) (f : Nat → Option Nat) (H : Heap) : Prop := va_at E.1 vwCl (a, .inl (E.2 4, n, .inr (.inr (.inr (.inr f))))) H
theorem one_P {E : EV} {q : Nat × va_E} {H : Heap} (h : va_at E.1 vwCl q H) : va_P E.1 vwCl [q] H := fun k x hx => by
  have hz : k < 1 := (List.getElem?_eq_some_iff.mp hx).1
  rw [show k = 0 by omega] at hx
  cases hx
  exact h
theorem at_keep {E : EV} {q : Nat × va_E} {H H1 : Heap} {a : Nat} (h : va_at E.1 vwCl q H) (hq : q.1 ≠ a) (o : ∀ x : Nat, x ≠ a → H1[x]? = H[x]?) : va_at E.1 vwCl q H1 := h.kept (o q.1 hq)
section MYR
variable {p : Program} {l : Launch} {e : Env} {R : Room} {s : State} {m : MethodId} {args : Array Value} {below : List Frame} {meth : Method} {c : Code} {H : Heap} {locs : List Loc} {cells slots : Nat} {Q : State → Prop} {E : EV}
variable {cc : ByteArray} {pc : Nat} {ls : Array Slot} {rest : List Value} {A : Nat → Prop} {a : Nat} {H0 : Heap}
theorem rd_get {own ref C : String} {T : u_T} {ty : Nat → FieldType} {N ci index k : Nat} {fs : List Value} {v : Value} (hx : p.tables.exec = Jvm.exec) (hb : c.code = cc) (hown : s.vm.findClass own = some m.cls) (hu : ∀ w ∈ uw, w.before args s = true) (hE : evK E s) (hc : clOK ci C T N ty) (ha : ob E a ci fs H) (hk : k < N) (hl : Cond.fieldLink own index ref (T k).2.1 (T k).2.2.1 ∈ uw) (hs : ∀ x, s.fieldFound? (T k).1 (T k).2.1 (T k).2.2.1 = some x → s.fieldFound? ref (T k).2.1 (T k).2.2.1 = some x) (hv : fs[k]? = some v) (hdg : decode cc pc = .ok (.getfield index, 3))
    (kk : W p l e R s m args below meth c H locs cells slots Q (F0 m (pc + 3) ls (v :: rest))) : W p l e R s m args below meth c H locs cells slots Q (F0 m pc ls (.ref a :: rest)) :=
  va_get hx hb hu hc.2.1 hown hE.1 (one_P ha) 0 rfl hc.1 k hk (hu _ hl) hs hv hdg kk
theorem rd_iald {n : Nat} {f : Nat → Int32} {i : Int32} (hx : p.tables.exec = Jvm.exec) (hb : c.code = cc) (hE : evK E s) (ha : ia E a n f H) (hin : vp_in i n) (hdg : decode cc pc = .ok (.iaload, 1))
    (kk : W p l e R s m args below meth c H locs cells slots Q (F0 m (pc + 1) ls (.int (f i.toNatClampNeg) :: rest))) : W p l e R s m args below meth c H locs cells slots Q (F0 m pc ls (.int i :: .ref a :: rest)) :=
  va_iald hx hb hE.1 (one_P ha) 0 0 rfl rfl hin hdg kk
theorem rd_lald {n : Nat} {f : Nat → Int64} {i : Int32} (hx : p.tables.exec = Jvm.exec) (hb : c.code = cc) (hE : evK E s) (ha : la E a n f H) (hin : vp_in i n) (hdg : decode cc pc = .ok (.laload, 1))
    (kk : W p l e R s m args below meth c H locs cells slots Q (F0 m (pc + 1) ls (.long (f i.toNatClampNeg) :: rest))) : W p l e R s m args below meth c H locs cells slots Q (F0 m pc ls (.int i :: .ref a :: rest)) :=
  va_lald hx hb hE.1 (one_P ha) 0 1 rfl rfl hin hdg kk
theorem rd_zald {n : Nat} {f : Nat → Int32} {i : Int32} (hx : p.tables.exec = Jvm.exec) (hb : c.code = cc) (hE : evK E s) (ha : za E a n f H) (hin : vp_in i n) (hdg : decode cc pc = .ok (.baload, 1))
    (kk : W p l e R s m args below meth c H locs cells slots Q (F0 m (pc + 1) ls (.int (f i.toNatClampNeg) :: rest))) : W p l e R s m args below meth c H locs cells slots Q (F0 m pc ls (.int i :: .ref a :: rest)) :=
  va_zald hx hb hE.1 (one_P ha) 0 2 rfl rfl hin hdg kk
theorem rd_qald {n x : Nat} {f : Nat → Option Nat} {i : Int32} (hx : p.tables.exec = Jvm.exec) (hb : c.code = cc) (hE : evK E s) (ha : qa E a n f H) (hin : vp_in i n) (hf : f i.toNatClampNeg = some x) (hdg : decode cc pc = .ok (.aaload, 1))
    (kk : W p l e R s m args below meth c H locs cells slots Q (F0 m (pc + 1) ls (.ref x :: rest))) : W p l e R s m args below meth c H locs cells slots Q (F0 m pc ls (.int i :: .ref a :: rest)) :=
  va_aldq hx hb hE.1 (one_P ha) 0 3 (C := "java/lang/Object") rfl rfl hin hdg (by rw [hf]; exact kk)
theorem rd_rald {n x : Nat} {f : Nat → Option Nat} {i : Int32} (hx : p.tables.exec = Jvm.exec) (hb : c.code = cc) (hE : evK E s) (ha : ra E a n f H) (hin : vp_in i n) (hf : f i.toNatClampNeg = some x) (hdg : decode cc pc = .ok (.aaload, 1))
    (kk : W p l e R s m args below meth c H locs cells slots Q (F0 m (pc + 1) ls (.ref x :: rest))) : W p l e R s m args below meth c H locs cells slots Q (F0 m pc ls (.int i :: .ref a :: rest)) := by
  have hlt : i.toNatClampNeg < n := Nat.not_le.mp fun q => hin (Or.inr q)
  have hi := (hE.1.2 4 (E.2 4, .array .int) rfl).1 n (fun j => va_rf (f j))
  refine W.aald (v := .ref x) (ty := .array .int) hx hb (one_P ha 0 _ rfl) hi rfl (fun q => by cases q) (by show ¬ (i < 0 ∨ (arrV _ _ _).slots.size ≤ _); rw [arrV_size]; exact hin) ?_ rfl rfl hdg kk
  show (arrV _ _ _).slots[_]? = _
  rw [arrV_read _ _ hlt, hf]
  rfl
theorem rd_leni {n : Nat} {f : Nat → Int32} (hx : p.tables.exec = Jvm.exec) (hb : c.code = cc) (hE : evK E s) (ha : ia E a n f H) (hdg : decode cc pc = .ok (.arraylength, 1))
    (kk : W p l e R s m args below meth c H locs cells slots Q (F0 m (pc + 1) ls (.int (nI n) :: rest))) : W p l e R s m args below meth c H locs cells slots Q (F0 m pc ls (.ref a :: rest)) :=
  va_alen hx hb hE.1 (one_P ha) 0 0 rfl (ty := .int) rfl rfl hdg kk
theorem rd_lenl {n : Nat} {f : Nat → Int64} (hx : p.tables.exec = Jvm.exec) (hb : c.code = cc) (hE : evK E s) (ha : la E a n f H) (hdg : decode cc pc = .ok (.arraylength, 1))
    (kk : W p l e R s m args below meth c H locs cells slots Q (F0 m (pc + 1) ls (.int (nI n) :: rest))) : W p l e R s m args below meth c H locs cells slots Q (F0 m pc ls (.ref a :: rest)) :=
  va_alen hx hb hE.1 (one_P ha) 0 1 rfl (ty := .long) rfl rfl hdg kk
theorem rd_lenq {n : Nat} {f : Nat → Option Nat} (hx : p.tables.exec = Jvm.exec) (hb : c.code = cc) (hE : evK E s) (ha : qa E a n f H) (hdg : decode cc pc = .ok (.arraylength, 1))
    (kk : W p l e R s m args below meth c H locs cells slots Q (F0 m (pc + 1) ls (.int (nI n) :: rest))) : W p l e R s m args below meth c H locs cells slots Q (F0 m pc ls (.ref a :: rest)) :=
  va_alen hx hb hE.1 (one_P ha) 0 3 rfl (ty := .object "java/lang/Object") rfl rfl hdg kk
theorem S_put {H1 : Heap} {a k : Nat} (hS : va_S A H0 H locs) (z : H1.size = H.size) (o : ∀ q : Nat, q ≠ a → H1[q]? = H[q]?) (ha : A a) : va_S A H0 H1 (locs ++ [⟨a, k⟩]) := hS.put z o ha
theorem wr_put {own ref C : String} {T : u_T} {ty : Nat → FieldType} {N ci index k : Nat} {fs : List Value} {v : Value} (hx : p.tables.exec = Jvm.exec) (hb : c.code = cc) (hown : s.vm.findClass own = some m.cls) (hu : ∀ w ∈ uw, w.before args s = true) (hE : evK E s) (hc : clOK ci C T N ty) (hS : va_S A H0 H locs) (hA : A a) (ha : ob E a ci fs H) (hk : k < N) (hl : Cond.fieldLink own index ref (T k).2.1 (T k).2.2.1 ∈ uw) (hs : (T k).1 = ref ∨ Cond.sameField ref (T k).1 (T k).2.1 (T k).2.2.1 ∈ uw) (hfin : (T k).2.2.2 = false) (hn : narrow (ty k) v = v) (hfit : fits (ty k) v = true) (hlen : k < fs.length) (hdg : decode cc pc = .ok (.putfield index, 3))
    (kk : ∀ (H1 : Heap) (locs1 : List Loc), ob E a ci (fs.set k v) H1 → H1.size = H.size → (∀ q : Nat, q ≠ a → H1[q]? = H[q]?) → va_S A H0 H1 locs1 → W p l e R s m args below meth c H1 locs1 cells slots Q (F0 m (pc + 3) ls rest)) : W p l e R s m args below meth c H locs cells slots Q (F0 m pc ls (v :: .ref a :: rest)) := by
  obtain ⟨h1, h2, h3, h4, -⟩ := hc
  have hap := va_apart (own := own) hu h2 ty h3 h4 hE.1 h1
  obtain ⟨r, g1, cell, q1, q2, q3, q4⟩ := id ha
  have hr : r = (C, T, N) := Option.some.inj (g1.symm.trans h1)
  subst hr
  obtain ⟨hS1, hfc, kC, hkC, hkind⟩ := hE.1.1 ci _ h1
  obtain ⟨cf, kf, fi, f, hi, hsl⟩ := hS1 k hk
  have hlay := hu _ (h2 _ (u_in_lay hk))
  unfold u_lay at hlay
  rw [if_neg (by rw [hfin]; decide)] at hlay
  have hst := (u_facts hfc hkC (u_lays hu h2 hk) hi).1
  have h6 := u_store hfc hkC hkind hlay hi (h3 k hk) hn hfit
  have hsame : s.fieldFound? ref (T k).2.1 (T k).2.2.1 = some (cf, kf, fi, f) := by
    rcases hs with hs | hs
    · rw [← hs]; exact hi
    · exact u_same (hu _ hs) _ hi
  refine W.putK hx hb (f := f) ⟨hown, hu _ hl, ⟨_, _, _, hsame⟩, hst⟩ (by rw [q2]; exact h6) q1 q3 (by rw [hsl]; exact k2_hasslot (q4 k hk)) rfl rfl hdg fun H' e1 e2 e3 => ?_
  rw [hsl] at e1 ⊢
  exact kk H' _ ⟨_, h1, t_OB.to (V := updV (vp_V fs) k v) ⟨_, e1, q2, q3, t_set q4 hap hk v⟩ (fun j _ => vp_updV_set hlen v j)⟩ e2 e3 (hS.put e2 e3 hA)
theorem wr_putF {own C : String} {T : u_T} {ty : Nat → FieldType} {N ci index k : Nat} {fs : List Value} {v : Value} (hx : p.tables.exec = Jvm.exec) (hb : c.code = cc) (hown : s.vm.findClass own = some m.cls) (hu : ∀ w ∈ uw, w.before args s = true) (hE : evK E s) (hc : clOK ci C T N ty) (hS : va_S A H0 H locs) (hA : A a) (ha : ob E a ci fs H) (hk : k < N) (hl : Cond.fieldLink own index own (T k).2.1 (T k).2.2.1 ∈ uw) (hs : (T k).1 = own) (hfin : (T k).2.2.2 = true) (hin : meth.name = "<init>") (hn : narrow (ty k) v = v) (hfit : fits (ty k) v = true) (hlen : k < fs.length) (hdg : decode cc pc = .ok (.putfield index, 3))
    (kk : ∀ (H1 : Heap) (locs1 : List Loc), ob E a ci (fs.set k v) H1 → H1.size = H.size → (∀ q : Nat, q ≠ a → H1[q]? = H[q]?) → va_S A H0 H1 locs1 → W p l e R s m args below meth c H1 locs1 cells slots Q (F0 m (pc + 3) ls rest)) : W p l e R s m args below meth c H locs cells slots Q (F0 m pc ls (v :: .ref a :: rest)) := by
  obtain ⟨h1, h2, h3, h4, -⟩ := hc
  have hap := va_apart (own := own) hu h2 ty h3 h4 hE.1 h1
  obtain ⟨r, g1, cell, q1, q2, q3, q4⟩ := id ha
  have hr : r = (C, T, N) := Option.some.inj (g1.symm.trans h1)
  subst hr
  obtain ⟨hS1, hfc, kC, hkC, hkind⟩ := hE.1.1 ci _ h1
  obtain ⟨cf, kf, fi, f, hi, hsl⟩ := hS1 k hk
  have hlay := hu _ (h2 _ (u_in_lay hk))
  unfold u_lay at hlay
  rw [if_pos hfin] at hlay
  have hst := (u_facts hfc hkC (u_lays hu h2 hk) hi).1
  have hcf : m.cls = cf := by
    obtain ⟨_, _, c', _, _, _, -, -, hf', -, -, -, hown2, -⟩ := Cond.laysFinal_spec hlay
    have e1 : c' = cf := by have := hi.symm.trans hf'; simp at this; exact this.1.symm
    rw [hs] at hown2
    rw [← e1]; exact Option.some.inj (hown.symm.trans hown2)
  have h6 := u_fits hfc hkC hkind (Or.inr hlay) hi (h3 k hk) hn hfit
  refine W.putFinK hx hb hown (hu _ hl) (by rw [← hs]; exact hi) hst hcf hin (by rw [q2]; exact h6) q1 q3 (by rw [hsl]; exact k2_hasslot (q4 k hk)) rfl rfl hdg fun H' e1 e2 e3 => ?_
  rw [hsl] at e1 ⊢
  exact kk H' _ ⟨_, h1, t_OB.to (V := updV (vp_V fs) k v) ⟨_, e1, q2, q3, t_set q4 hap hk v⟩ (fun j _ => vp_updV_set hlen v j)⟩ e2 e3 (hS.put e2 e3 hA)
theorem wr_iast {n : Nat} {f : Nat → Int32} {i x : Int32} (hx : p.tables.exec = Jvm.exec) (hb : c.code = cc) (hE : evK E s) (hS : va_S A H0 H locs) (hA : A a) (ha : ia E a n f H) (hin : vp_in i n) (hdg : decode cc pc = .ok (.iastore, 1))
    (kk : ∀ (H1 : Heap) (locs1 : List Loc), ia E a n (upd f i.toNatClampNeg x) H1 → H1.size = H.size → (∀ q : Nat, q ≠ a → H1[q]? = H[q]?) → va_S A H0 H1 locs1 → W p l e R s m args below meth c H1 locs1 cells slots Q (F0 m (pc + 1) ls rest)) : W p l e R s m args below meth c H locs cells slots Q (F0 m pc ls (.int x :: .int i :: .ref a :: rest)) := by
  refine W.iast hx hb ha ((hE.1.2 0 _ rfl).1 n (fun j => .int (f j))) (fun q => by cases q) (by show ¬ (i < 0 ∨ (arrV _ _ _).slots.size ≤ _); rw [arrV_size]; exact hin) rfl rfl hdg fun H1 e z oq => ?_
  refine kk H1 _ ?_ z oq (hS.put z oq hA)
  show H1[a]? = some (vp_cell _ _)
  rw [e]
  rw [vp_cell_i, vp_cell_i, arrV_store]
  congr 2
  funext q
  by_cases hq : q = i.toNatClampNeg
  · subst hq
    simp [updV, upd]
  · simp [updV, upd, hq]
theorem wr_zast {n : Nat} {f : Nat → Int32} {i x : Int32} (hx : p.tables.exec = Jvm.exec) (hb : c.code = cc) (hE : evK E s) (hS : va_S A H0 H locs) (hA : A a) (ha : za E a n f H) (hin : vp_in i n) (hdg : decode cc pc = .ok (.bastore, 1))
    (kk : ∀ (H1 : Heap) (locs1 : List Loc), za E a n (upd f i.toNatClampNeg (vp_nar .boolean x)) H1 → H1.size = H.size → (∀ q : Nat, q ≠ a → H1[q]? = H[q]?) → va_S A H0 H1 locs1 → W p l e R s m args below meth c H1 locs1 cells slots Q (F0 m (pc + 1) ls rest)) : W p l e R s m args below meth c H locs cells slots Q (F0 m pc ls (.int x :: .int i :: .ref a :: rest)) := by
  refine W.zast hx hb ha ((hE.1.2 2 _ rfl).1 n (fun j => .int (f j))) (fun q => by cases q) (by show ¬ (i < 0 ∨ (arrV _ _ _).slots.size ≤ _); rw [arrV_size]; exact hin) rfl rfl hdg fun H1 e z oq => ?_
  refine kk H1 _ ?_ z oq (hS.put z oq hA)
  show H1[a]? = some (vp_cell _ _)
  rw [e]
  rw [vp_cell_i, vp_cell_i, arrV_store]
  congr 2
  funext q
  by_cases hq : q = i.toNatClampNeg
  · subst hq
    simp [updV, upd, vp_nar]
    try rfl
  · simp [updV, upd, hq]
theorem wr_last {n : Nat} {f : Nat → Int64} {i : Int32} {x : Int64} (hx : p.tables.exec = Jvm.exec) (hb : c.code = cc) (hE : evK E s) (hS : va_S A H0 H locs) (hA : A a) (ha : la E a n f H) (hin : vp_in i n) (hdg : decode cc pc = .ok (.lastore, 1))
    (kk : ∀ (H1 : Heap) (locs1 : List Loc), la E a n (vp_updL f i.toNatClampNeg x) H1 → H1.size = H.size → (∀ q : Nat, q ≠ a → H1[q]? = H[q]?) → va_S A H0 H1 locs1 → W p l e R s m args below meth c H1 locs1 cells slots Q (F0 m (pc + 1) ls rest)) : W p l e R s m args below meth c H locs cells slots Q (F0 m pc ls (.long x :: .int i :: .ref a :: rest)) := by
  refine W.last hx hb ha ((hE.1.2 1 _ rfl).1 n (fun j => .long (f j))) (fun q => by cases q) (by show ¬ (i < 0 ∨ (arrV _ _ _).slots.size ≤ _); rw [arrV_size]; exact hin) rfl rfl hdg fun H1 e z oq => ?_
  refine kk H1 _ ?_ z oq (hS.put z oq hA)
  show H1[a]? = some (vp_cell _ _)
  rw [e]
  rw [vp_cell_l, vp_cell_l, arrV_store]
  congr 2
  funext q
  by_cases hq : q = i.toNatClampNeg
  · subst hq
    simp [updV, vp_updL]
  · simp [updV, vp_updL, hq]
theorem nw_new {own C : String} {T : u_T} {ty : Nat → FieldType} {N ci index : Nat} {fs : List Value} (hx : p.tables.exec = Jvm.exec) (hb : c.code = cc) (hown : s.vm.findClass own = some m.cls) (hu : ∀ w ∈ uw, w.before args s = true) (hE : evK E s) (hc : clOK ci C T N ty) (hS : va_S A H0 H locs) (hl : Cond.classLink own index C ∈ uw) (hfs : ∀ j, j < N → defaultValue (ty j) = vp_V fs j) (hcells : cells + 1 ≤ R.cells) (hslots : slots + N ≤ R.slots) (hdg : decode cc pc = .ok (.new index, 3))
    (kk : ∀ (H1 : Heap), ob E H.size ci fs H1 → H1.size = H.size + 1 → (∀ q : Nat, q < H.size → H1[q]? = H[q]?) → va_S A H0 H1 locs → W p l e R s m args below meth c H1 locs (cells + 1) (slots + N) Q (F0 m (pc + 3) ls (.ref H.size :: rest))) : W p l e R s m args below meth c H locs cells slots Q (F0 m pc ls rest) := by
  obtain ⟨h1, h2, h3, h4, h5, h6⟩ := hc
  have hKn := hE.1.1 ci _ h1
  refine W.newcK hx hb hown (hu _ hl) (hu _ h5) (hu _ h6) rfl hdg hcells hslots hKn.2.1 rfl fun H1 kC hkC e1 z1 o1 => ?_
  exact kk H1 ⟨_, h1, (u_born ty hu h2 hKn hkC e1 h3).to hfs⟩ z1 o1 ⟨Nat.le_trans hS.1 (by omega), fun x g1 g2 => (o1 x (Nat.lt_of_lt_of_le g1 hS.1)).trans (hS.2.1 x g1 g2), hS.2.2⟩
end MYR
end
section
set_option maxRecDepth 4000 in
theorem ok0 : clOK 0 RJx4a65c TJx4a65c 3 tyJx4a65c := ⟨rfl, (show ∀ w ∈ [u_lay RJx4a65c TJx4a65c 0, u_lay RJx4a65c TJx4a65c 1, u_lay RJx4a65c TJx4a65c 2], w ∈ uw from List.forall_mem_cons.mpr ⟨u72, List.forall_mem_cons.mpr ⟨u68, List.forall_mem_cons.mpr ⟨u70, (fun _ h => absurd h List.not_mem_nil)⟩⟩⟩), tyJx4a65c_ok, nmJx4a65c, u50, u6⟩
set_option maxRecDepth 4000 in
theorem ok1 : clOK 1 RX0 TX0 1 tyX0 := ⟨rfl, (show ∀ w ∈ [u_lay RX0 TX0 0], w ∈ uw from List.forall_mem_cons.mpr ⟨u38, (fun _ h => absurd h List.not_mem_nil)⟩), tyX0_ok, nmX0, u32, u2⟩
set_option maxRecDepth 4000 in
theorem ok2 : clOK 2 RX1 TX1 4 tyX1 := ⟨rfl, (show ∀ w ∈ [u_lay RX1 TX1 0, u_lay RX1 TX1 1, u_lay RX1 TX1 2, u_lay RX1 TX1 3], w ∈ uw from List.forall_mem_cons.mpr ⟨u704, List.forall_mem_cons.mpr ⟨u706, List.forall_mem_cons.mpr ⟨u708, List.forall_mem_cons.mpr ⟨u710, (fun _ h => absurd h List.not_mem_nil)⟩⟩⟩⟩), tyX1_ok, nmX1, u691, u22⟩
set_option maxRecDepth 4000 in
theorem ok3 : clOK 3 RX2 TX2 2 tyX2 := ⟨rfl, (show ∀ w ∈ [u_lay RX2 TX2 0, u_lay RX2 TX2 1], w ∈ uw from List.forall_mem_cons.mpr ⟨u132, List.forall_mem_cons.mpr ⟨u134, (fun _ h => absurd h List.not_mem_nil)⟩⟩), tyX2_ok, nmX2, u125, u8⟩
set_option maxRecDepth 4000 in
theorem ok4 : clOK 4 RX3 TX3 6 tyX3 := ⟨rfl, (show ∀ w ∈ [u_lay RX3 TX3 0, u_lay RX3 TX3 1, u_lay RX3 TX3 2, u_lay RX3 TX3 3, u_lay RX3 TX3 4, u_lay RX3 TX3 5], w ∈ uw from List.forall_mem_cons.mpr ⟨u665, List.forall_mem_cons.mpr ⟨u667, List.forall_mem_cons.mpr ⟨u669, List.forall_mem_cons.mpr ⟨u671, List.forall_mem_cons.mpr ⟨u673, List.forall_mem_cons.mpr ⟨u675, (fun _ h => absurd h List.not_mem_nil)⟩⟩⟩⟩⟩⟩), tyX3_ok, nmX3, u648, u21⟩
set_option maxRecDepth 4000 in
theorem ok5 : clOK 5 RX4 TX4 8 tyX4 := ⟨rfl, (show ∀ w ∈ [u_lay RX4 TX4 0, u_lay RX4 TX4 1, u_lay RX4 TX4 2, u_lay RX4 TX4 3, u_lay RX4 TX4 4, u_lay RX4 TX4 5, u_lay RX4 TX4 6, u_lay RX4 TX4 7], w ∈ uw from List.forall_mem_cons.mpr ⟨u98, List.forall_mem_cons.mpr ⟨u100, List.forall_mem_cons.mpr ⟨u102, List.forall_mem_cons.mpr ⟨u104, List.forall_mem_cons.mpr ⟨u106, List.forall_mem_cons.mpr ⟨u108, List.forall_mem_cons.mpr ⟨u110, List.forall_mem_cons.mpr ⟨u112, (fun _ h => absurd h List.not_mem_nil)⟩⟩⟩⟩⟩⟩⟩⟩), tyX4_ok, nmX4, u76, u7⟩
set_option maxRecDepth 4000 in
theorem ok6 : clOK 6 RX5 TX5 2 tyX5 := ⟨rfl, (show ∀ w ∈ [u_lay RX5 TX5 0, u_lay RX5 TX5 1], w ∈ uw from List.forall_mem_cons.mpr ⟨u117, List.forall_mem_cons.mpr ⟨u119, (fun _ h => absurd h List.not_mem_nil)⟩⟩), tyX5_ok, nmX5, u44, u3⟩
set_option maxRecDepth 4000 in
theorem ok7 : clOK 7 RX6 TX6 8 tyX6 := ⟨rfl, (show ∀ w ∈ [u_lay RX6 TX6 0, u_lay RX6 TX6 1, u_lay RX6 TX6 2, u_lay RX6 TX6 3, u_lay RX6 TX6 4, u_lay RX6 TX6 5, u_lay RX6 TX6 6, u_lay RX6 TX6 7], w ∈ uw from List.forall_mem_cons.mpr ⟨u466, List.forall_mem_cons.mpr ⟨u468, List.forall_mem_cons.mpr ⟨u470, List.forall_mem_cons.mpr ⟨u472, List.forall_mem_cons.mpr ⟨u474, List.forall_mem_cons.mpr ⟨u476, List.forall_mem_cons.mpr ⟨u478, List.forall_mem_cons.mpr ⟨u480, (fun _ h => absurd h List.not_mem_nil)⟩⟩⟩⟩⟩⟩⟩⟩), tyX6_ok, nmX6, u442, u18⟩
set_option maxRecDepth 4000 in
theorem ok8 : clOK 8 RX7 TX7 2 tyX7 := ⟨rfl, (show ∀ w ∈ [u_lay RX7 TX7 0, u_lay RX7 TX7 1], w ∈ uw from List.forall_mem_cons.mpr ⟨u540, List.forall_mem_cons.mpr ⟨u542, (fun _ h => absurd h List.not_mem_nil)⟩⟩), tyX7_ok, nmX7, u531, u20⟩
set_option maxRecDepth 4000 in
theorem ok9 : clOK 9 RX8 TX8 2 tyX8 := ⟨rfl, (show ∀ w ∈ [u_lay RX8 TX8 0, u_lay RX8 TX8 1], w ∈ uw from List.forall_mem_cons.mpr ⟨u350, List.forall_mem_cons.mpr ⟨u352, (fun _ h => absurd h List.not_mem_nil)⟩⟩), tyX8_ok, nmX8, u341, u17⟩
set_option maxRecDepth 4000 in
theorem ok10 : clOK 10 RX9 TX9 9 tyX9 := ⟨rfl, (show ∀ w ∈ [u_lay RX9 TX9 0, u_lay RX9 TX9 1, u_lay RX9 TX9 2, u_lay RX9 TX9 3, u_lay RX9 TX9 4, u_lay RX9 TX9 5, u_lay RX9 TX9 6, u_lay RX9 TX9 7, u_lay RX9 TX9 8], w ∈ uw from List.forall_mem_cons.mpr ⟨u316, List.forall_mem_cons.mpr ⟨u318, List.forall_mem_cons.mpr ⟨u320, List.forall_mem_cons.mpr ⟨u322, List.forall_mem_cons.mpr ⟨u324, List.forall_mem_cons.mpr ⟨u326, List.forall_mem_cons.mpr ⟨u328, List.forall_mem_cons.mpr ⟨u330, List.forall_mem_cons.mpr ⟨u332, (fun _ h => absurd h List.not_mem_nil)⟩⟩⟩⟩⟩⟩⟩⟩⟩), tyX9_ok, nmX9, u290, u14⟩
set_option maxRecDepth 4000 in
theorem ok11 : clOK 11 RX10 TX10 12 tyX10 := ⟨rfl, (show ∀ w ∈ [u_lay RX10 TX10 0, u_lay RX10 TX10 1, u_lay RX10 TX10 2, u_lay RX10 TX10 3, u_lay RX10 TX10 4, u_lay RX10 TX10 5, u_lay RX10 TX10 6, u_lay RX10 TX10 7, u_lay RX10 TX10 8, u_lay RX10 TX10 9, u_lay RX10 TX10 10, u_lay RX10 TX10 11], w ∈ uw from List.forall_mem_cons.mpr ⟨u149, List.forall_mem_cons.mpr ⟨u151, List.forall_mem_cons.mpr ⟨u153, List.forall_mem_cons.mpr ⟨u155, List.forall_mem_cons.mpr ⟨u157, List.forall_mem_cons.mpr ⟨u159, List.forall_mem_cons.mpr ⟨u161, List.forall_mem_cons.mpr ⟨u163, List.forall_mem_cons.mpr ⟨u165, List.forall_mem_cons.mpr ⟨u167, List.forall_mem_cons.mpr ⟨u169, List.forall_mem_cons.mpr ⟨u171, (fun _ h => absurd h List.not_mem_nil)⟩⟩⟩⟩⟩⟩⟩⟩⟩⟩⟩⟩), tyX10_ok, nmX10, u24, u1⟩
set_option maxRecDepth 4000 in
theorem ok12 : clOK 12 RX11 TX11 36 tyX11 := ⟨rfl, (show ∀ w ∈ [u_lay RX11 TX11 0, u_lay RX11 TX11 1, u_lay RX11 TX11 2, u_lay RX11 TX11 3, u_lay RX11 TX11 4, u_lay RX11 TX11 5, u_lay RX11 TX11 6, u_lay RX11 TX11 7, u_lay RX11 TX11 8, u_lay RX11 TX11 9, u_lay RX11 TX11 10, u_lay RX11 TX11 11, u_lay RX11 TX11 12, u_lay RX11 TX11 13, u_lay RX11 TX11 14, u_lay RX11 TX11 15, u_lay RX11 TX11 16, u_lay RX11 TX11 17, u_lay RX11 TX11 18, u_lay RX11 TX11 19, u_lay RX11 TX11 20, u_lay RX11 TX11 21, u_lay RX11 TX11 22, u_lay RX11 TX11 23, u_lay RX11 TX11 24, u_lay RX11 TX11 25, u_lay RX11 TX11 26, u_lay RX11 TX11 27, u_lay RX11 TX11 28, u_lay RX11 TX11 29, u_lay RX11 TX11 30, u_lay RX11 TX11 31, u_lay RX11 TX11 32, u_lay RX11 TX11 33, u_lay RX11 TX11 34, u_lay RX11 TX11 35], w ∈ uw from List.forall_mem_cons.mpr ⟨u793, List.forall_mem_cons.mpr ⟨u795, List.forall_mem_cons.mpr ⟨u797, List.forall_mem_cons.mpr ⟨u799, List.forall_mem_cons.mpr ⟨u801, List.forall_mem_cons.mpr ⟨u803, List.forall_mem_cons.mpr ⟨u805, List.forall_mem_cons.mpr ⟨u807, List.forall_mem_cons.mpr ⟨u809, List.forall_mem_cons.mpr ⟨u811, List.forall_mem_cons.mpr ⟨u813, List.forall_mem_cons.mpr ⟨u815, List.forall_mem_cons.mpr ⟨u817, List.forall_mem_cons.mpr ⟨u819, List.forall_mem_cons.mpr ⟨u821, List.forall_mem_cons.mpr ⟨u823, List.forall_mem_cons.mpr ⟨u825, List.forall_mem_cons.mpr ⟨u827, List.forall_mem_cons.mpr ⟨u829, List.forall_mem_cons.mpr ⟨u831, List.forall_mem_cons.mpr ⟨u833, List.forall_mem_cons.mpr ⟨u835, List.forall_mem_cons.mpr ⟨u837, List.forall_mem_cons.mpr ⟨u839, List.forall_mem_cons.mpr ⟨u841, List.forall_mem_cons.mpr ⟨u843, List.forall_mem_cons.mpr ⟨u845, List.forall_mem_cons.mpr ⟨u847, List.forall_mem_cons.mpr ⟨u849, List.forall_mem_cons.mpr ⟨u851, List.forall_mem_cons.mpr ⟨u853, List.forall_mem_cons.mpr ⟨u855, List.forall_mem_cons.mpr ⟨u857, List.forall_mem_cons.mpr ⟨u859, List.forall_mem_cons.mpr ⟨u861, List.forall_mem_cons.mpr ⟨u863, (fun _ h => absurd h List.not_mem_nil)⟩⟩⟩⟩⟩⟩⟩⟩⟩⟩⟩⟩⟩⟩⟩⟩⟩⟩⟩⟩⟩⟩⟩⟩⟩⟩⟩⟩⟩⟩⟩⟩⟩⟩⟩⟩), tyX11_ok, nmX11, u750, u9⟩
set_option maxRecDepth 4000 in
theorem kX0_init : calI yX0_init cX0_init 1 0 := ⟨⟨u35, u2, by decide +kernel, by decide +kernel, by decide +kernel⟩, rfl, u34⟩
set_option maxRecDepth 4000 in
theorem kX0_isFeast : calV yX0_isFeast cX0_isFeast 3 (some .boolean) 1 := ⟨⟨u362, u2, by decide +kernel, by decide +kernel, by decide +kernel⟩, u360, u361⟩
set_option maxRecDepth 4000 in
theorem kX0_addFeast : calV yX0_addFeast cX0_addFeast 3 none 1 := ⟨⟨u366, u2, by decide +kernel, by decide +kernel, by decide +kernel⟩, u364, u365⟩
set_option maxRecDepth 4000 in
theorem kX0_workdaysBetween : calV yX0_workdaysBetween cX0_workdaysBetween 3 (some .int) 2 := ⟨⟨u502, u2, by decide +kernel, by decide +kernel, by decide +kernel⟩, u500, u501⟩
set_option maxRecDepth 4000 in
theorem kX0_feastsAheadOf : calV yX0_feastsAheadOf cX0_feastsAheadOf 5 (some .int) 1 := ⟨⟨u506, u2, by decide +kernel, by decide +kernel, by decide +kernel⟩, u505, us8⟩
set_option maxRecDepth 4000 in
theorem kX1_init : calI yX1_init cX1_init 5 4 := ⟨⟨u694, u22, by decide +kernel, by decide +kernel, by decide +kernel⟩, rfl, u693⟩
set_option maxRecDepth 4000 in
theorem kX2_init : calI yX2_init cX2_init 1 0 := ⟨⟨u128, u8, by decide +kernel, by decide +kernel, by decide +kernel⟩, rfl, u127⟩
set_option maxRecDepth 4000 in
theorem kX2_clear : calV yX2_clear cX2_clear 1 none 0 := ⟨⟨u589, u8, by decide +kernel, by decide +kernel, by decide +kernel⟩, u587, u588⟩
set_option maxRecDepth 4000 in
theorem kX2_take : calV yX2_take cX2_take 4 none 1 := ⟨⟨u600, u8, by decide +kernel, by decide +kernel, by decide +kernel⟩, u598, u599⟩
set_option maxRecDepth 4000 in
theorem kX2_barTo : calV yX2_barTo cX2_barTo 7 (some .int) 1 := ⟨⟨u615, u8, by decide +kernel, by decide +kernel, by decide +kernel⟩, u613, u614⟩
set_option maxRecDepth 4000 in
theorem kX2_isTaken : calV yX2_isTaken cX2_isTaken 4 (some .boolean) 2 := ⟨⟨u619, u8, by decide +kernel, by decide +kernel, by decide +kernel⟩, u618, us18⟩
set_option maxRecDepth 4000 in
theorem kX2_hallAt : calV yX2_hallAt cX2_hallAt 4 (some .int) 2 := ⟨⟨u623, u8, by decide +kernel, by decide +kernel, by decide +kernel⟩, u622, us19⟩
set_option maxRecDepth 4000 in
theorem kX2_placeOf : calV yX2_placeOf cX2_placeOf 4 (some .int) 2 := ⟨⟨u606, u8, by decide +kernel, by decide +kernel, by decide +kernel⟩, u605, us16⟩
set_option maxRecDepth 4000 in
theorem kX3_init : calI yX3_init cX3_init 3 2 := ⟨⟨u651, u21, by decide +kernel, by decide +kernel, by decide +kernel⟩, rfl, u650⟩
set_option maxRecDepth 4000 in
theorem kX3_written : calV yX3_written cX3_written 2 (some .int) 1 := ⟨⟨u720, u21, by decide +kernel, by decide +kernel, by decide +kernel⟩, u718, u719⟩
set_option maxRecDepth 4000 in
theorem kX4_init : calI yX4_init cX4_init 5 4 := ⟨⟨u79, u7, by decide +kernel, by decide +kernel, by decide +kernel⟩, rfl, u78⟩
set_option maxRecDepth 4000 in
theorem kX4_canBe : calS yX4_canBe cX4_canBe 2 (some .boolean) 2 := ⟨⟨u183, u7, by decide +kernel, by decide +kernel, by decide +kernel⟩, u182⟩
set_option maxRecDepth 4000 in
theorem kX4_wantsPaper : calV yX4_wantsPaper cX4_wantsPaper 2 (some .boolean) 1 := ⟨⟨u421, u7, by decide +kernel, by decide +kernel, by decide +kernel⟩, u419, u420⟩
set_option maxRecDepth 4000 in
theorem kX5_init : calI yX5_init cX5_init 1 0 := ⟨⟨u47, u3, by decide +kernel, by decide +kernel, by decide +kernel⟩, rfl, u46⟩
set_option maxRecDepth 4000 in
theorem kX5_isFull : calV yX5_isFull cX5_isFull 1 (some .boolean) 0 := ⟨⟨u187, u3, by decide +kernel, by decide +kernel, by decide +kernel⟩, u185, u186⟩
set_option maxRecDepth 4000 in
theorem kX5_tell : calV yX5_tell cX5_tell 2 none 1 := ⟨⟨u197, u3, by decide +kernel, by decide +kernel, by decide +kernel⟩, u195, u196⟩
set_option maxRecDepth 4000 in
theorem kX5_inForce : calV yX5_inForce cX5_inForce 6 (some (.object "WeddingRegister$Law")) 2 := ⟨⟨u410, u3, by decide +kernel, by decide +kernel, by decide +kernel⟩, u408, u409⟩
set_option maxRecDepth 4000 in
theorem kX6_init : calI yX6_init cX6_init 5 4 := ⟨⟨u445, u18, by decide +kernel, by decide +kernel, by decide +kernel⟩, rfl, u444⟩
set_option maxRecDepth 4000 in
theorem kX6_isOf : calV yX6_isOf cX6_isOf 3 (some .boolean) 2 := ⟨⟨u441, u18, by decide +kernel, by decide +kernel, by decide +kernel⟩, u439, u440⟩
set_option maxRecDepth 4000 in
theorem kX6_isBooked : calV yX6_isBooked cX6_isBooked 1 (some .boolean) 0 := ⟨⟨u596, u18, by decide +kernel, by decide +kernel, by decide +kernel⟩, u594, u595⟩
set_option maxRecDepth 4000 in
theorem kX6_setBooking : calV yX6_setBooking cX6_setBooking 3 none 2 := ⟨⟨u494, u18, by decide +kernel, by decide +kernel, by decide +kernel⟩, u492, u493⟩
set_option maxRecDepth 4000 in
theorem kX7_init : calI yX7_init cX7_init 2 1 := ⟨⟨u534, u20, by decide +kernel, by decide +kernel, by decide +kernel⟩, rfl, u533⟩
set_option maxRecDepth 4000 in
theorem kX8_init : calI yX8_init cX8_init 3 2 := ⟨⟨u344, u17, by decide +kernel, by decide +kernel, by decide +kernel⟩, rfl, u343⟩
set_option maxRecDepth 4000 in
theorem kX9_init : calI yX9_init cX9_init 6 5 := ⟨⟨u293, u14, by decide +kernel, by decide +kernel, by decide +kernel⟩, rfl, u292⟩
set_option maxRecDepth 4000 in
theorem kX9_canBe : calS yX9_canBe cX9_canBe 1 (some .boolean) 1 := ⟨⟨u264, u14, by decide +kernel, by decide +kernel, by decide +kernel⟩, u263⟩
set_option maxRecDepth 4000 in
theorem kX9_isChildOf : calV yX9_isChildOf cX9_isChildOf 2 (some .boolean) 1 := ⟨⟨u382, u14, by decide +kernel, by decide +kernel, by decide +kernel⟩, u380, u381⟩
set_option maxRecDepth 4000 in
theorem kX9_sharesParentWith : calV yX9_sharesParentWith cX9_sharesParentWith 2 (some .boolean) 1 := ⟨⟨u386, u14, by decide +kernel, by decide +kernel, by decide +kernel⟩, u384, u385⟩
set_option maxRecDepth 4000 in
theorem kX9_hasPaper : calV yX9_hasPaper cX9_hasPaper 6 (some .boolean) 3 := ⟨⟨u425, u14, by decide +kernel, by decide +kernel, by decide +kernel⟩, u423, u424⟩
set_option maxRecDepth 4000 in
theorem kX10_init : calI yX10_init cX10_init 1 0 := ⟨⟨u27, u1, by decide +kernel, by decide +kernel, by decide +kernel⟩, rfl, u26⟩
set_option maxRecDepth 4000 in
theorem kX10_law : calV yX10_law cX10_law 5 (some .boolean) 4 := ⟨⟨u177, u1, by decide +kernel, by decide +kernel, by decide +kernel⟩, u175, u176⟩
set_option maxRecDepth 4000 in
theorem kX10_person : calV yX10_person cX10_person 6 (some .int) 4 := ⟨⟨u261, u1, by decide +kernel, by decide +kernel, by decide +kernel⟩, u259, u260⟩
set_option maxRecDepth 4000 in
theorem kX10_paper : calV yX10_paper cX10_paper 5 (some .boolean) 3 := ⟨⟨u339, u1, by decide +kernel, by decide +kernel, by decide +kernel⟩, u337, u338⟩
set_option maxRecDepth 4000 in
theorem kX10_feast : calV yX10_feast cX10_feast 2 (some .boolean) 1 := ⟨⟨u358, u1, by decide +kernel, by decide +kernel, by decide +kernel⟩, u356, u357⟩
set_option maxRecDepth 4000 in
theorem kX10_go : calV yX10_go cX10_go 2 (some .int) 1 := ⟨⟨u370, u1, by decide +kernel, by decide +kernel, by decide +kernel⟩, u368, u369⟩
set_option maxRecDepth 4000 in
theorem kX10_kin : calV yX10_kin cX10_kin 5 (some .int) 2 := ⟨⟨u375, u1, by decide +kernel, by decide +kernel, by decide +kernel⟩, u373, u374⟩
set_option maxRecDepth 4000 in
theorem kX10_against : calV yX10_against cX10_against 6 (some .int) 3 := ⟨⟨u402, u1, by decide +kernel, by decide +kernel, by decide +kernel⟩, u400, u401⟩
set_option maxRecDepth 4000 in
theorem kX10_post : calV yX10_post cX10_post 6 (some .int) 2 := ⟨⟨u432, u1, by decide +kernel, by decide +kernel, by decide +kernel⟩, u430, u431⟩
set_option maxRecDepth 4000 in
theorem kX10_withdraw : calV yX10_withdraw cX10_withdraw 3 (some .boolean) 1 := ⟨⟨u486, u1, by decide +kernel, by decide +kernel, by decide +kernel⟩, u484, u485⟩
set_option maxRecDepth 4000 in
theorem kX10_hung : calV yX10_hung cX10_hung 4 (some .int) 2 := ⟨⟨u498, u1, by decide +kernel, by decide +kernel, by decide +kernel⟩, u496, u497⟩
set_option maxRecDepth 4000 in
theorem kX10_ripe : calV yX10_ripe cX10_ripe 3 (some .int) 1 := ⟨⟨u516, u1, by decide +kernel, by decide +kernel, by decide +kernel⟩, u514, u515⟩
set_option maxRecDepth 4000 in
theorem kX10_object : calV yX10_object cX10_object 5 (some .int) 1 := ⟨⟨u529, u1, by decide +kernel, by decide +kernel, by decide +kernel⟩, u527, u528⟩
set_option maxRecDepth 4000 in
theorem kX10_judge : calV yX10_judge cX10_judge 4 (some .boolean) 2 := ⟨⟨u548, u1, by decide +kernel, by decide +kernel, by decide +kernel⟩, u546, u547⟩
set_option maxRecDepth 4000 in
theorem kX10_registrar : calV yX10_registrar cX10_registrar 3 (some .int) 1 := ⟨⟨u552, u1, by decide +kernel, by decide +kernel, by decide +kernel⟩, u550, u551⟩
set_option maxRecDepth 4000 in
theorem kX10_book : calV yX10_book cX10_book 6 (some .int) 3 := ⟨⟨u556, u1, by decide +kernel, by decide +kernel, by decide +kernel⟩, u554, u555⟩
set_option maxRecDepth 4000 in
theorem kX10_order : calV yX10_order cX10_order 4 (some .int) 1 := ⟨⟨u631, u1, by decide +kernel, by decide +kernel, by decide +kernel⟩, u629, u630⟩
set_option maxRecDepth 4000 in
theorem kX10_wed : calV yX10_wed cX10_wed 4 (some .int) 1 := ⟨⟨u646, u1, by decide +kernel, by decide +kernel, by decide +kernel⟩, u644, u645⟩
set_option maxRecDepth 4000 in
theorem kX10_part : calV yX10_part cX10_part 4 (some .boolean) 1 := ⟨⟨u681, u1, by decide +kernel, by decide +kernel, by decide +kernel⟩, u679, u680⟩
set_option maxRecDepth 4000 in
theorem kX10_correct : calV yX10_correct cX10_correct 5 (some .boolean) 3 := ⟨⟨u685, u1, by decide +kernel, by decide +kernel, by decide +kernel⟩, u683, u684⟩
set_option maxRecDepth 4000 in
theorem kX10_entry : calV yX10_entry cX10_entry 7 (some .int) 3 := ⟨⟨u716, u1, by decide +kernel, by decide +kernel, by decide +kernel⟩, u714, u715⟩
set_option maxRecDepth 4000 in
theorem kX10_name : calV yX10_name cX10_name 5 (some .int) 3 := ⟨⟨u724, u1, by decide +kernel, by decide +kernel, by decide +kernel⟩, u722, u723⟩
set_option maxRecDepth 4000 in
theorem kX10_quarrel : calV yX10_quarrel cX10_quarrel 3 (some .boolean) 1 := ⟨⟨u732, u1, by decide +kernel, by decide +kernel, by decide +kernel⟩, u730, u731⟩
set_option maxRecDepth 4000 in
theorem kX10_told : calV yX10_told cX10_told 4 (some .int) 2 := ⟨⟨u736, u1, by decide +kernel, by decide +kernel, by decide +kernel⟩, u734, u735⟩
set_option maxRecDepth 4000 in
theorem kX10_married : calV yX10_married cX10_married 4 (some .int) 1 := ⟨⟨u740, u1, by decide +kernel, by decide +kernel, by decide +kernel⟩, u738, u739⟩
set_option maxRecDepth 4000 in
theorem kX10_count : calV yX10_count cX10_count 2 (some .int) 1 := ⟨⟨u744, u1, by decide +kernel, by decide +kernel, by decide +kernel⟩, u742, u743⟩
set_option maxRecDepth 4000 in
theorem kX10_isDay : calS yX10_isDay cX10_isDay 1 (some .boolean) 1 := ⟨⟨u180, u1, by decide +kernel, by decide +kernel, by decide +kernel⟩, u179⟩
set_option maxRecDepth 4000 in
theorem kX10_isDayToCome : calV yX10_isDayToCome cX10_isDayToCome 2 (some .boolean) 1 := ⟨⟨u560, u1, by decide +kernel, by decide +kernel, by decide +kernel⟩, u559, us11⟩
set_option maxRecDepth 4000 in
theorem kX10_personAt : calV yX10_personAt cX10_personAt 2 (some (.object "WeddingRegister$Person")) 1 := ⟨⟨u274, u1, by decide +kernel, by decide +kernel, by decide +kernel⟩, u273, us4⟩
set_option maxRecDepth 4000 in
theorem kX10_noticeAt : calV yX10_noticeAt cX10_noticeAt 2 (some (.object "WeddingRegister$Notice")) 1 := ⟨⟨u490, u1, by decide +kernel, by decide +kernel, by decide +kernel⟩, u489, us7⟩
set_option maxRecDepth 4000 in
theorem kX10_entryAt : calV yX10_entryAt cX10_entryAt 2 (some (.object "WeddingRegister$Entry")) 1 := ⟨⟨u689, u1, by decide +kernel, by decide +kernel, by decide +kernel⟩, u688, us23⟩
set_option maxRecDepth 4000 in
theorem kX10_canBeParents : calV yX10_canBeParents cX10_canBeParents 5 (some .boolean) 2 := ⟨⟨u270, u1, by decide +kernel, by decide +kernel, by decide +kernel⟩, u269, us3⟩
set_option maxRecDepth 4000 in
theorem kX10_openBookings : calV yX10_openBookings cX10_openBookings 4 (some .int) 0 := ⟨⟨u748, u1, by decide +kernel, by decide +kernel, by decide +kernel⟩, u747, us25⟩
set_option maxRecDepth 4000 in
theorem kX10_hasOpenNotice : calV yX10_hasOpenNotice cX10_hasOpenNotice 5 (some .boolean) 2 := ⟨⟨u436, u1, by decide +kernel, by decide +kernel, by decide +kernel⟩, u435, us6⟩
set_option maxRecDepth 4000 in
theorem kX10_kinOf : calS yX10_kinOf cX10_kinOf 2 (some .int) 2 := ⟨⟨u378, u1, by decide +kernel, by decide +kernel, by decide +kernel⟩, u377⟩
set_option maxRecDepth 4000 in
theorem kX10_isNearByParent : calS yX10_isNearByParent cX10_isNearByParent 2 (some .boolean) 2 := ⟨⟨u389, u1, by decide +kernel, by decide +kernel, by decide +kernel⟩, u388⟩
set_option maxRecDepth 4000 in
theorem kX10_isNearAs : calS yX10_isNearAs cX10_isNearAs 2 (some .boolean) 2 := ⟨⟨u392, u1, by decide +kernel, by decide +kernel, by decide +kernel⟩, u391⟩
set_option maxRecDepth 4000 in
theorem kX10_isCousinBy : calS yX10_isCousinBy cX10_isCousinBy 2 (some .boolean) 2 := ⟨⟨u395, u1, by decide +kernel, by decide +kernel, by decide +kernel⟩, u394⟩
set_option maxRecDepth 4000 in
theorem kX10_sharesParent : calS yX10_sharesParent cX10_sharesParent 2 (some .boolean) 2 := ⟨⟨u398, u1, by decide +kernel, by decide +kernel, by decide +kernel⟩, u397⟩
set_option maxRecDepth 4000 in
theorem kX10_barToCouple : calV yX10_barToCouple cX10_barToCouple 7 (some .int) 3 := ⟨⟨u406, u1, by decide +kernel, by decide +kernel, by decide +kernel⟩, u405, us5⟩
set_option maxRecDepth 4000 in
theorem kX10_isTooYoung : calS yX10_isTooYoung cX10_isTooYoung 3 (some .boolean) 3 := ⟨⟨u414, u1, by decide +kernel, by decide +kernel, by decide +kernel⟩, u413⟩
set_option maxRecDepth 4000 in
theorem kX10_lacksPaper : calS yX10_lacksPaper cX10_lacksPaper 4 (some .boolean) 3 := ⟨⟨u417, u1, by decide +kernel, by decide +kernel, by decide +kernel⟩, u416⟩
set_option maxRecDepth 4000 in
theorem kX10_hangingAsked : calV yX10_hangingAsked cX10_hangingAsked 3 (some .int) 2 := ⟨⟨u524, u1, by decide +kernel, by decide +kernel, by decide +kernel⟩, u523, us10⟩
set_option maxRecDepth 4000 in
theorem kX10_isRipeOn : calV yX10_isRipeOn cX10_isRipeOn 3 (some .boolean) 2 := ⟨⟨u581, u1, by decide +kernel, by decide +kernel, by decide +kernel⟩, u580, us14⟩
set_option maxRecDepth 4000 in
theorem kX10_firstRipeDay : calV yX10_firstRipeDay cX10_firstRipeDay 4 (some .int) 1 := ⟨⟨u520, u1, by decide +kernel, by decide +kernel, by decide +kernel⟩, u519, us9⟩
set_option maxRecDepth 4000 in
theorem kX10_isSlot : calV yX10_isSlot cX10_isSlot 3 (some .boolean) 1 := ⟨⟨u564, u1, by decide +kernel, by decide +kernel, by decide +kernel⟩, u563, us12⟩
set_option maxRecDepth 4000 in
theorem kX10_slotOf : calS yX10_slotOf cX10_slotOf 3 (some .int) 3 := ⟨⟨u642, u1, by decide +kernel, by decide +kernel, by decide +kernel⟩, u641⟩
set_option maxRecDepth 4000 in
theorem kX10_hourOf : calS yX10_hourOf cX10_hourOf 1 (some .int) 1 := ⟨⟨u567, u1, by decide +kernel, by decide +kernel, by decide +kernel⟩, u566⟩
set_option maxRecDepth 4000 in
theorem kX10_hallOf : calS yX10_hallOf cX10_hallOf 1 (some .int) 1 := ⟨⟨u570, u1, by decide +kernel, by decide +kernel, by decide +kernel⟩, u569⟩
set_option maxRecDepth 4000 in
theorem kX10_registrarOf : calS yX10_registrarOf cX10_registrarOf 1 (some .int) 1 := ⟨⟨u573, u1, by decide +kernel, by decide +kernel, by decide +kernel⟩, u572⟩
set_option maxRecDepth 4000 in
theorem kX10_fillPlan : calV yX10_fillPlan cX10_fillPlan 5 none 2 := ⟨⟨u585, u1, by decide +kernel, by decide +kernel, by decide +kernel⟩, u584, us15⟩
set_option maxRecDepth 4000 in
theorem kX10_barToDay : calV yX10_barToDay cX10_barToDay 3 (some .int) 2 := ⟨⟨u577, u1, by decide +kernel, by decide +kernel, by decide +kernel⟩, u576, us13⟩
set_option maxRecDepth 4000 in
theorem kX10_barToSlot : calV yX10_barToSlot cX10_barToSlot 4 (some .int) 2 := ⟨⟨u611, u1, by decide +kernel, by decide +kernel, by decide +kernel⟩, u610, us17⟩
set_option maxRecDepth 4000 in
theorem kX10_speaksWithBoth : calV yX10_speaksWithBoth cX10_speaksWithBoth 4 (some .boolean) 2 := ⟨⟨u627, u1, by decide +kernel, by decide +kernel, by decide +kernel⟩, u626, us20⟩
set_option maxRecDepth 4000 in
theorem kX10_bookByOrder : calV yX10_bookByOrder cX10_bookByOrder 4 (some .boolean) 2 := ⟨⟨u635, u1, by decide +kernel, by decide +kernel, by decide +kernel⟩, u634, us21⟩
set_option maxRecDepth 4000 in
theorem kX10_firstFreeSlot : calV yX10_firstFreeSlot cX10_firstFreeSlot 6 (some .int) 1 := ⟨⟨u639, u1, by decide +kernel, by decide +kernel, by decide +kernel⟩, u638, us22⟩
set_option maxRecDepth 4000 in
theorem kX10_nameAfter : calV yX10_nameAfter cX10_nameAfter 6 (some .int) 3 := ⟨⟨u728, u1, by decide +kernel, by decide +kernel, by decide +kernel⟩, u727, us24⟩
set_option maxRecDepth 4000 in
theorem kX11_init : calI yX11_init cX11_init 1 0 := ⟨⟨u753, u9, by decide +kernel, by decide +kernel, by decide +kernel⟩, rfl, u752⟩
set_option maxRecDepth 4000 in
theorem kX11_in : calS yX11_in cX11_in 3 (some .boolean) 3 := ⟨⟨u875, u9, by decide +kernel, by decide +kernel, by decide +kernel⟩, u874⟩
set_option maxRecDepth 4000 in
theorem kX11_isPerson : calV yX11_isPerson cX11_isPerson 2 (some .boolean) 1 := ⟨⟨u883, u9, by decide +kernel, by decide +kernel, by decide +kernel⟩, u882, us26⟩
set_option maxRecDepth 4000 in
theorem kX11_isNotice : calV yX11_isNotice cX11_isNotice 2 (some .boolean) 1 := ⟨⟨u960, u9, by decide +kernel, by decide +kernel, by decide +kernel⟩, u959, us38⟩
set_option maxRecDepth 4000 in
theorem kX11_law : calV yX11_law cX11_law 11 (some .boolean) 4 := ⟨⟨u870, u9, by decide +kernel, by decide +kernel, by decide +kernel⟩, u868, u869⟩
set_option maxRecDepth 4000 in
theorem kX11_inForce : calV yX11_inForce cX11_inForce 5 (some (.array .int)) 2 := ⟨⟨u940, u9, by decide +kernel, by decide +kernel, by decide +kernel⟩, u939, us35⟩
set_option maxRecDepth 4000 in
theorem kX11_asks : calV yX11_asks cX11_asks 4 (some .int) 3 := ⟨⟨u936, u9, by decide +kernel, by decide +kernel, by decide +kernel⟩, u935, us34⟩
set_option maxRecDepth 4000 in
theorem kX11_person : calV yX11_person cX11_person 8 (some .int) 4 := ⟨⟨u879, u9, by decide +kernel, by decide +kernel, by decide +kernel⟩, u877, u878⟩
set_option maxRecDepth 4000 in
theorem kX11_paper : calV yX11_paper cX11_paper 4 (some .boolean) 3 := ⟨⟨u887, u9, by decide +kernel, by decide +kernel, by decide +kernel⟩, u885, u886⟩
set_option maxRecDepth 4000 in
theorem kX11_hasPaper : calV yX11_hasPaper cX11_hasPaper 5 (some .boolean) 3 := ⟨⟨u948, u9, by decide +kernel, by decide +kernel, by decide +kernel⟩, u947, us37⟩
set_option maxRecDepth 4000 in
theorem kX11_isFree : calV yX11_isFree cX11_isFree 2 (some .boolean) 1 := ⟨⟨u895, u9, by decide +kernel, by decide +kernel, by decide +kernel⟩, u894, us27⟩
set_option maxRecDepth 4000 in
theorem kX11_feast : calV yX11_feast cX11_feast 2 (some .boolean) 1 := ⟨⟨u891, u9, by decide +kernel, by decide +kernel, by decide +kernel⟩, u889, u890⟩
set_option maxRecDepth 4000 in
theorem kX11_go : calV yX11_go cX11_go 2 (some .int) 1 := ⟨⟨u899, u9, by decide +kernel, by decide +kernel, by decide +kernel⟩, u897, u898⟩
set_option maxRecDepth 4000 in
theorem kX11_isParent : calV yX11_isParent cX11_isParent 3 (some .boolean) 2 := ⟨⟨u912, u9, by decide +kernel, by decide +kernel, by decide +kernel⟩, u911, us29⟩
set_option maxRecDepth 4000 in
theorem kX11_share : calV yX11_share cX11_share 3 (some .boolean) 2 := ⟨⟨u916, u9, by decide +kernel, by decide +kernel, by decide +kernel⟩, u915, us30⟩
set_option maxRecDepth 4000 in
theorem kX11_parent : calV yX11_parent cX11_parent 3 (some .int) 2 := ⟨⟨u920, u9, by decide +kernel, by decide +kernel, by decide +kernel⟩, u919, us31⟩
set_option maxRecDepth 4000 in
theorem kX11_kinOf : calV yX11_kinOf cX11_kinOf 8 (some .int) 2 := ⟨⟨u908, u9, by decide +kernel, by decide +kernel, by decide +kernel⟩, u907, us28⟩
set_option maxRecDepth 4000 in
theorem kX11_kin : calV yX11_kin cX11_kin 3 (some .int) 2 := ⟨⟨u904, u9, by decide +kernel, by decide +kernel, by decide +kernel⟩, u902, u903⟩
set_option maxRecDepth 4000 in
theorem kX11_isYoung : calV yX11_isYoung cX11_isYoung 3 (some .boolean) 2 := ⟨⟨u932, u9, by decide +kernel, by decide +kernel, by decide +kernel⟩, u931, us33⟩
set_option maxRecDepth 4000 in
theorem kX11_lacks : calV yX11_lacks cX11_lacks 4 (some .boolean) 2 := ⟨⟨u944, u9, by decide +kernel, by decide +kernel, by decide +kernel⟩, u943, us36⟩
set_option maxRecDepth 4000 in
theorem kX11_stands : calV yX11_stands cX11_stands 5 (some .int) 3 := ⟨⟨u928, u9, by decide +kernel, by decide +kernel, by decide +kernel⟩, u927, us32⟩
set_option maxRecDepth 4000 in
theorem kX11_against : calV yX11_against cX11_against 4 (some .int) 3 := ⟨⟨u924, u9, by decide +kernel, by decide +kernel, by decide +kernel⟩, u922, u923⟩
set_option maxRecDepth 4000 in
theorem kX11_post : calV yX11_post cX11_post 4 (some .int) 2 := ⟨⟨u952, u9, by decide +kernel, by decide +kernel, by decide +kernel⟩, u950, u951⟩
set_option maxRecDepth 4000 in
theorem kX11_withdraw : calV yX11_withdraw cX11_withdraw 2 (some .boolean) 1 := ⟨⟨u956, u9, by decide +kernel, by decide +kernel, by decide +kernel⟩, u954, u955⟩
set_option maxRecDepth 4000 in
theorem kX11_hungOf : calV yX11_hungOf cX11_hungOf 5 (some .int) 2 := ⟨⟨u968, u9, by decide +kernel, by decide +kernel, by decide +kernel⟩, u967, us39⟩
set_option maxRecDepth 4000 in
theorem kX11_hung : calV yX11_hung cX11_hung 3 (some .int) 2 := ⟨⟨u964, u9, by decide +kernel, by decide +kernel, by decide +kernel⟩, u962, u963⟩
set_option maxRecDepth 4000 in
theorem kX11_wanted : calV yX11_wanted cX11_wanted 3 (some .int) 2 := ⟨⟨u980, u9, by decide +kernel, by decide +kernel, by decide +kernel⟩, u979, us41⟩
set_option maxRecDepth 4000 in
theorem kX11_ripeOf : calV yX11_ripeOf cX11_ripeOf 4 (some .int) 1 := ⟨⟨u976, u9, by decide +kernel, by decide +kernel, by decide +kernel⟩, u975, us40⟩
set_option maxRecDepth 4000 in
theorem kX11_ripe : calV yX11_ripe cX11_ripe 2 (some .int) 1 := ⟨⟨u972, u9, by decide +kernel, by decide +kernel, by decide +kernel⟩, u970, u971⟩
set_option maxRecDepth 4000 in
theorem kX11_objected : calV yX11_objected cX11_objected 4 (some .int) 1 := ⟨⟨u1009, u9, by decide +kernel, by decide +kernel, by decide +kernel⟩, u1008, us44⟩
set_option maxRecDepth 4000 in
theorem kX11_isRipe : calV yX11_isRipe cX11_isRipe 3 (some .boolean) 2 := ⟨⟨u1005, u9, by decide +kernel, by decide +kernel, by decide +kernel⟩, u1004, us43⟩
set_option maxRecDepth 4000 in
theorem kX11_object : calV yX11_object cX11_object 3 (some .int) 1 := ⟨⟨u985, u9, by decide +kernel, by decide +kernel, by decide +kernel⟩, u983, u984⟩
set_option maxRecDepth 4000 in
theorem kX11_judge : calV yX11_judge cX11_judge 3 (some .boolean) 2 := ⟨⟨u989, u9, by decide +kernel, by decide +kernel, by decide +kernel⟩, u987, u988⟩
set_option maxRecDepth 4000 in
theorem kX11_registrar : calV yX11_registrar cX11_registrar 2 (some .int) 1 := ⟨⟨u993, u9, by decide +kernel, by decide +kernel, by decide +kernel⟩, u991, u992⟩
set_option maxRecDepth 4000 in
theorem kX11_bars : calV yX11_bars cX11_bars 11 (some .int) 5 := ⟨⟨u1001, u9, by decide +kernel, by decide +kernel, by decide +kernel⟩, u1000, us42⟩
set_option maxRecDepth 4000 in
theorem kX11_book : calV yX11_book cX11_book 8 (some .int) 3 := ⟨⟨u997, u9, by decide +kernel, by decide +kernel, by decide +kernel⟩, u995, u996⟩
set_option maxRecDepth 4000 in
theorem kX11_finds : calV yX11_finds cX11_finds 6 (some .boolean) 2 := ⟨⟨u1017, u9, by decide +kernel, by decide +kernel, by decide +kernel⟩, u1016, us45⟩
set_option maxRecDepth 4000 in
theorem kX11_order : calV yX11_order cX11_order 4 (some .int) 1 := ⟨⟨u1013, u9, by decide +kernel, by decide +kernel, by decide +kernel⟩, u1011, u1012⟩
set_option maxRecDepth 4000 in
theorem kX11_wed : calV yX11_wed cX11_wed 5 (some .int) 1 := ⟨⟨u1021, u9, by decide +kernel, by decide +kernel, by decide +kernel⟩, u1019, u1020⟩
set_option maxRecDepth 4000 in
theorem kX11_part : calV yX11_part cX11_part 2 (some .boolean) 1 := ⟨⟨u1025, u9, by decide +kernel, by decide +kernel, by decide +kernel⟩, u1023, u1024⟩
set_option maxRecDepth 4000 in
theorem kX11_correct : calV yX11_correct cX11_correct 4 (some .boolean) 3 := ⟨⟨u1029, u9, by decide +kernel, by decide +kernel, by decide +kernel⟩, u1027, u1028⟩
set_option maxRecDepth 4000 in
theorem kX11_entry : calV yX11_entry cX11_entry 6 (some .int) 3 := ⟨⟨u1033, u9, by decide +kernel, by decide +kernel, by decide +kernel⟩, u1031, u1032⟩
set_option maxRecDepth 4000 in
theorem kX11_nameOf : calV yX11_nameOf cX11_nameOf 6 (some .int) 3 := ⟨⟨u1041, u9, by decide +kernel, by decide +kernel, by decide +kernel⟩, u1040, us46⟩
set_option maxRecDepth 4000 in
theorem kX11_name : calV yX11_name cX11_name 4 (some .int) 3 := ⟨⟨u1037, u9, by decide +kernel, by decide +kernel, by decide +kernel⟩, u1035, u1036⟩
set_option maxRecDepth 4000 in
theorem kX11_quarrel : calV yX11_quarrel cX11_quarrel 2 (some .boolean) 1 := ⟨⟨u1045, u9, by decide +kernel, by decide +kernel, by decide +kernel⟩, u1043, u1044⟩
set_option maxRecDepth 4000 in
theorem kX11_told : calV yX11_told cX11_told 3 (some .int) 2 := ⟨⟨u1049, u9, by decide +kernel, by decide +kernel, by decide +kernel⟩, u1047, u1048⟩
set_option maxRecDepth 4000 in
theorem kX11_married : calV yX11_married cX11_married 2 (some .int) 1 := ⟨⟨u1053, u9, by decide +kernel, by decide +kernel, by decide +kernel⟩, u1051, u1052⟩
set_option maxRecDepth 4000 in
theorem kX11_count : calV yX11_count cX11_count 4 (some .int) 1 := ⟨⟨u1057, u9, by decide +kernel, by decide +kernel, by decide +kernel⟩, u1055, u1056⟩
set_option maxRecDepth 4000 in
theorem kJ13_bitCount_95d88 : calS yJ13_bitCount_95d88 cJ13_bitCount_95d88 2 (some .int) 1 := ⟨⟨u509, u19, by decide +kernel, by decide +kernel, by decide +kernel⟩, u508⟩
set_option maxRecDepth 4000 in
theorem kJ9_max_7cf53 : calS yJ9_max_7cf53 cJ9_max_7cf53 2 (some .int) 2 := ⟨⟨u219, u11, by decide +kernel, by decide +kernel, by decide +kernel⟩, u218⟩
set_option maxRecDepth 4000 in
theorem kJ9_min_7cf53 : calS yJ9_min_7cf53 cJ9_min_7cf53 2 (some .int) 2 := ⟨⟨u252, u11, by decide +kernel, by decide +kernel, by decide +kernel⟩, u251⟩
set_option maxRecDepth 4000 in
theorem kJxa1e45_init_da8c8 : calI yJxa1e45_init_da8c8 cJxa1e45_init_da8c8 1 0 := ⟨⟨u59, u4, by decide +kernel, by decide +kernel, by decide +kernel⟩, rfl, u58⟩
set_option maxRecDepth 4000 in
theorem kJxc12de_init_da8c8 : calI yJxc12de_init_da8c8 cJxc12de_init_da8c8 1 0 := ⟨⟨u56, u5, by decide +kernel, by decide +kernel, by decide +kernel⟩, rfl, u55⟩
set_option maxRecDepth 4000 in
theorem kJx4a65c_init_da8c8 : calI yJx4a65c_init_da8c8 cJx4a65c_init_da8c8 1 0 := ⟨⟨u53, u6, by decide +kernel, by decide +kernel, by decide +kernel⟩, rfl, u52⟩
set_option maxRecDepth 4000 in
theorem kJx4a65c_grow_92f84 : calV yJx4a65c_grow_92f84 cJx4a65c_grow_92f84 4 (some (.array (.object "java/lang/Object"))) 1 := ⟨⟨u213, u6, by decide +kernel, by decide +kernel, by decide +kernel⟩, u212, us2⟩
set_option maxRecDepth 4000 in
theorem kJx4a65c_grow_d5877 : calV yJx4a65c_grow_d5877 cJx4a65c_grow_d5877 1 (some (.array (.object "java/lang/Object"))) 0 := ⟨⟨u209, u6, by decide +kernel, by decide +kernel, by decide +kernel⟩, u208, us1⟩
set_option maxRecDepth 4000 in
theorem kJx4a65c_size_8abf5 : calV yJx4a65c_size_8abf5 cJx4a65c_size_8abf5 1 (some .int) 0 := ⟨⟨u191, u6, by decide +kernel, by decide +kernel, by decide +kernel⟩, u189, u190⟩
set_option maxRecDepth 4000 in
theorem kJx4a65c_elementData_915e3 : calV yJx4a65c_elementData_915e3 cJx4a65c_elementData_915e3 2 (some (.object "java/lang/Object")) 1 := ⟨⟨u288, u6, by decide +kernel, by decide +kernel, by decide +kernel⟩, u286, u287⟩
set_option maxRecDepth 4000 in
theorem kJx4a65c_get_915e3 : calV yJx4a65c_get_915e3 cJx4a65c_get_915e3 2 (some (.object "java/lang/Object")) 1 := ⟨⟨u278, u6, by decide +kernel, by decide +kernel, by decide +kernel⟩, u276, u277⟩
set_option maxRecDepth 4000 in
theorem kJx4a65c_add_72be8 : calV yJx4a65c_add_72be8 cJx4a65c_add_72be8 4 none 3 := ⟨⟨u205, u6, by decide +kernel, by decide +kernel, by decide +kernel⟩, u204, us0⟩
set_option maxRecDepth 4000 in
theorem kJx4a65c_add_9ea2d : calV yJx4a65c_add_9ea2d cJx4a65c_add_9ea2d 2 (some .boolean) 1 := ⟨⟨u201, u6, by decide +kernel, by decide +kernel, by decide +kernel⟩, u199, u200⟩
set_option maxRecDepth 4000 in
theorem kJ7_fill_53178 : calS yJ7_fill_53178 cJ7_fill_53178 4 none 2 := ⟨⟨u592, u12, by decide +kernel, by decide +kernel, by decide +kernel⟩, u591⟩
set_option maxRecDepth 4000 in
theorem kJ7_copyOf_1904c : calS yJ7_copyOf_1904c cJ7_copyOf_1904c 2 (some (.array (.object "java/lang/Object"))) 2 := ⟨⟨u226, u12, by decide +kernel, by decide +kernel, by decide +kernel⟩, u225⟩
set_option maxRecDepth 4000 in
theorem kJ7_copyOf_6403c : calS yJ7_copyOf_6403c cJ7_copyOf_6403c 4 (some (.array (.object "java/lang/Object"))) 3 := ⟨⟨u246, u12, by decide +kernel, by decide +kernel, by decide +kernel⟩, u245⟩
set_option maxRecDepth 4000 in
theorem kJ15_checkIndex_7cf53 : calS yJ15_checkIndex_7cf53 cJ15_checkIndex_7cf53 2 (some .int) 2 := ⟨⟨u281, u15, by decide +kernel, by decide +kernel, by decide +kernel⟩, u280⟩
set_option maxRecDepth 4000 in
theorem kJ8_newLength_cabcc : calS yJ8_newLength_cabcc cJ8_newLength_cabcc 4 (some .int) 3 := ⟨⟨u216, u10, by decide +kernel, by decide +kernel, by decide +kernel⟩, u215⟩
set_option maxRecDepth 4000 in
theorem kJ8_hugeLength_7cf53 : calS yJ8_hugeLength_7cf53 cJ8_hugeLength_7cf53 3 (some .int) 2 := ⟨⟨u223, u10, by decide +kernel, by decide +kernel, by decide +kernel⟩, u222⟩
set_option maxRecDepth 4000 in
theorem kJ3_checkIndex_8e157 : calS yJ3_checkIndex_8e157 cJ3_checkIndex_8e157 3 (some .int) 3 := ⟨⟨u284, u16, by decide +kernel, by decide +kernel, by decide +kernel⟩, u283⟩
end
section
/-! THE REFERENCE'S CELLS as one table of numbers: σ t j is place j of the array in slot t (rows of laws 100 + i, of entries 200 + i), σ t 0 the number in slot t -/
abbrev St : Type := Nat → Nat → Int32
def sA (σ : St) (t j : Nat) (v : Int32) : St := fun u => if u = t then upd (σ t) j v else σ u
def sF (σ : St) (t : Nat) (g : Nat → Int32) : St := fun u => if u = t then g else σ u
def mfs (σ : St) (M : Nat → Nat) : List Value := [.int (σ 0 0), .ref (M 1), .int (σ 2 0), .ref (M 3), .ref (M 4), .ref (M 5), .ref (M 6), .ref (M 7), .ref (M 8), .ref (M 9), .ref (M 10), .int (σ 11 0), .ref (M 12), .ref (M 13), .ref (M 14), .int (σ 15 0), .ref (M 16), .ref (M 17), .ref (M 18), .ref (M 19), .ref (M 20), .ref (M 21), .ref (M 22), .int (σ 23 0), .ref (M 24), .ref (M 25), .int (σ 26 0), .ref (M 27), .int (σ 28 0), .ref (M 29), .int (σ 30 0), .ref (M 31), .ref (M 32), .ref (M 33), .ref (M 34), .int (σ 35 0)]
def mscal (t : Nat) : Bool := t == 0 || t == 2 || t == 11 || t == 15 || t == 23 || t == 26 || t == 28 || t == 30 || t == 35
def mint (t : Nat) : Bool := (decide (3 ≤ t) && decide (t ≤ 10)) || (decide (12 ≤ t) && decide (t ≤ 14)) || (decide (17 ≤ t) && decide (t ≤ 22)) || t == 24 || t == 25 || t == 27 || (decide (31 ≤ t) && decide (t ≤ 34)) || (decide (100 ≤ t) && decide (t < 160)) || (decide (200 ≤ t) && decide (t < 260))
def mval (t : Nat) : Bool := t == 0 || t == 1 || t == 29 || t == 16 || mint t
def mlen (t : Nat) : Nat := if t ≤ 10 then (if t = 3 then 8 else 40) else if t ≤ 14 then 200 else if t = 27 then 6 else if t ≤ 30 then 60 else if t < 100 then 100 else 8
def mcont (E : EV) (σ : St) (M : Nat → Nat) (t : Nat) : va_E :=
  if t = 0 then .inr (12, mfs σ M)
  else if t = 1 then .inl (E.2 4, 60, .inr (.inr (.inr (.inr (fun i => if i < 60 then some (M (100 + i)) else none)))))
  else if t = 29 then .inl (E.2 4, 60, .inr (.inr (.inr (.inr (fun i => if i < 60 then some (M (200 + i)) else none)))))
  else if t = 16 then .inl (E.2 2, 20001, .inl (σ 16))
  else .inl (E.2 0, mlen t, .inl (σ t))
def Md0 (E : EV) (A : Nat → Prop) (σ : St) (M : Nat → Nat) (H : Heap) : Prop := (∀ t, mval t = true → va_at E.1 vwCl (M t, mcont E σ M t) H) ∧ (∀ t u, mval t = true → mval u = true → M t = M u → t = u) ∧ ∀ t, mval t = true → A (M t)
/-- the reference's picture; its own row 'law' may hold anything -/
def Md (E : EV) (A : Nat → Prop) (σ : St) (M : Nat → Nat) (H : Heap) : Prop := ∃ g : Nat → Int32, Md0 E A (sF σ 3 g) M H
theorem mint_val {t : Nat} (h : mint t = true) : mval t = true := by simp [mval, h]
theorem mint_ne {t : Nat} (h : mint t = true) : t ≠ 0 ∧ t ≠ 1 ∧ t ≠ 29 ∧ t ≠ 16 := by
  refine ⟨?_, ?_, ?_, ?_⟩ <;> (rintro rfl; exact absurd h (by decide))
theorem mscal_not {t : Nat} (h : mscal t = true) : mint t = false ∧ t ≠ 1 ∧ t ≠ 29 ∧ t ≠ 16 ∧ t ≠ 3 := by
  simp only [mscal, Bool.or_eq_true, beq_iff_eq] at h
  rcases h with (((((((h | h) | h) | h) | h) | h) | h) | h) | h <;> subst h <;> decide
section MODEL
variable {E : EV} {A : Nat → Prop} {σ : St} {M : Nat → Nat} {H H1 : Heap}
theorem md_obj (h : Md E A σ M H) : ob E (M 0) 12 (mfs σ M) H := by
  obtain ⟨g, h⟩ := h
  exact h.1 0 rfl
theorem md_int (h : Md E A σ M H) (t : Nat) (ht : mint t = true) (h3 : t ≠ 3) : ia E (M t) (mlen t) (σ t) H := by
  obtain ⟨g, h⟩ := h
  have h1 := h.1 t (mint_val ht)
  obtain ⟨n0, n1, n2, n3⟩ := mint_ne ht
  simp only [mcont, if_neg n0, if_neg n1, if_neg n2, if_neg n3, sF, if_neg h3] at h1
  exact h1
theorem md_scr (h : Md E A σ M H) : ∃ g, ia E (M 3) 8 g H := by
  obtain ⟨g, h⟩ := h
  exact ⟨g, h.1 3 rfl⟩
theorem md_bool (h : Md E A σ M H) : za E (M 16) 20001 (σ 16) H := by
  obtain ⟨g, h⟩ := h
  exact h.1 16 rfl
theorem md_laws (h : Md E A σ M H) : ra E (M 1) 60 (fun i => if i < 60 then some (M (100 + i)) else none) H := by
  obtain ⟨g, h⟩ := h
  exact h.1 1 rfl
theorem md_ents (h : Md E A σ M H) : ra E (M 29) 60 (fun i => if i < 60 then some (M (200 + i)) else none) H := by
  obtain ⟨g, h⟩ := h
  exact h.1 29 rfl
theorem md_A (h : Md E A σ M H) (t : Nat) (ht : mval t = true) : A (M t) := by
  obtain ⟨g, h⟩ := h
  exact h.2.2 t ht
theorem mfs_sA {t j : Nat} {x : Int32} (ht : mscal t = false) : mfs (sA σ t j x) M = mfs σ M := by
  simp only [mscal, Bool.or_eq_false_iff, beq_eq_false_iff_ne, ne_eq] at ht
  obtain ⟨⟨⟨⟨⟨⟨⟨⟨a0, a1⟩, a2⟩, a3⟩, a4⟩, a5⟩, a6⟩, a7⟩, a8⟩ := ht
  simp only [mfs, sA, if_neg (Ne.symm a0), if_neg (Ne.symm a1), if_neg (Ne.symm a2), if_neg (Ne.symm a3), if_neg (Ne.symm a4), if_neg (Ne.symm a5), if_neg (Ne.symm a6), if_neg (Ne.symm a7), if_neg (Ne.symm a8)]
theorem mfs_sF {t : Nat} {g : Nat → Int32} (ht : mscal t = false) : mfs (sF σ t g) M = mfs σ M := by
  simp only [mscal, Bool.or_eq_false_iff, beq_eq_false_iff_ne, ne_eq] at ht
  obtain ⟨⟨⟨⟨⟨⟨⟨⟨a0, a1⟩, a2⟩, a3⟩, a4⟩, a5⟩, a6⟩, a7⟩, a8⟩ := ht
  simp only [mfs, sF, if_neg (Ne.symm a0), if_neg (Ne.symm a1), if_neg (Ne.symm a2), if_neg (Ne.symm a3), if_neg (Ne.symm a4), if_neg (Ne.symm a5), if_neg (Ne.symm a6), if_neg (Ne.symm a7), if_neg (Ne.symm a8)]
theorem mint_scal {t : Nat} (h : mint t = true) : mscal t = false := by
  cases hs : mscal t with
  | false => rfl
  | true => rw [(mscal_not hs).1] at h; cases h
/-- a write into one cell: the others stay -/
theorem md_upd {σ1 : St} {u : Nat} (h : Md E A σ M H) (hu : mval u = true) (o : ∀ q : Nat, q ≠ M u → H1[q]? = H[q]?) (hn : ∃ g, va_at E.1 vwCl (M u, mcont E (sF σ1 3 g) M u) H1) (he : ∀ (g : Nat → Int32) (t : Nat), mval t = true → t ≠ u → t ≠ 3 → mcont E (sF σ1 3 g) M t = mcont E (sF σ 3 g) M t) (h3 : u = 3 ∨ ∀ g g' : Nat → Int32, mcont E (sF σ1 3 g) M u = mcont E (sF σ1 3 g') M u) : Md E A σ1 M H1 := by
  obtain ⟨g, h⟩ := h
  obtain ⟨g1, hn⟩ := hn
  by_cases hu3 : u = 3
  · refine ⟨g1, fun t ht => ?_, h.2.1, h.2.2⟩
    by_cases e : t = u
    · subst e; exact hn
    · have e1 := he g1 t ht e (by rw [← hu3]; exact e)
      have e2 : mcont E (sF σ 3 g1) M t = mcont E (sF σ 3 g) M t := by
        have t3 : t ≠ 3 := by rw [← hu3]; exact e
        have z1 : mfs (sF σ 3 g1) M = mfs (sF σ 3 g) M := by rw [mfs_sF rfl, mfs_sF rfl]
        simp only [mcont, z1, sF, if_neg t3]
        rfl
      rw [e1, e2]
      exact (h.1 t ht).kept (o _ (fun z => e (h.2.1 t u ht hu z)))
  · refine ⟨g, fun t ht => ?_, h.2.1, h.2.2⟩
    by_cases e : t = u
    · subst e
      rcases h3 with h3 | h3
      · exact absurd h3 hu3
      · rw [h3 g g1]; exact hn
    · by_cases t3 : t = 3
      · subst t3
        have := h.1 3 rfl
        exact this.kept (o _ (fun z => e (h.2.1 3 u rfl hu z)))
      · rw [he g t ht e t3]
        exact (h.1 t ht).kept (o _ (fun z => e (h.2.1 t u ht hu z)))
theorem md_ast (h : Md E A σ M H) {t j : Nat} {x : Int32} (ht : mint t = true) (h3 : t ≠ 3) (hi : ia E (M t) (mlen t) (upd (σ t) j x) H1) (o : ∀ q : Nat, q ≠ M t → H1[q]? = H[q]?) : Md E A (sA σ t j x) M H1 := by
  obtain ⟨n0, n1, n2, n3⟩ := mint_ne ht
  have hc : ∀ g : Nat → Int32, mcont E (sF (sA σ t j x) 3 g) M t = .inl (E.2 0, mlen t, .inl (upd (σ t) j x)) := fun g => by
    simp only [mcont, if_neg n0, if_neg n1, if_neg n2, if_neg n3, sF, if_neg h3, sA, if_pos]
  refine md_upd h (mint_val ht) o ⟨fun _ => 0, by rw [hc]; exact hi⟩ (fun g u hu hne hu3 => ?_) (Or.inr fun g g' => by rw [hc, hc])
  have z1 : mfs (sF (sA σ t j x) 3 g) M = mfs (sF σ 3 g) M := by rw [mfs_sF rfl, mfs_sF rfl, mfs_sA (mint_scal ht)]
  simp only [mcont, z1, sF, if_neg hu3, sA, if_neg hne]
  simp only [show ¬ (16 : Nat) = t from fun z => n3 z.symm, if_false, show ¬ (16 : Nat) = 3 by decide]
theorem md_zst (h : Md E A σ M H) {j : Nat} {x : Int32} (hi : za E (M 16) 20001 (upd (σ 16) j x) H1) (o : ∀ q : Nat, q ≠ M 16 → H1[q]? = H[q]?) : Md E A (sA σ 16 j x) M H1 := by
  refine md_upd h (u := 16) rfl o ⟨fun _ => 0, hi⟩ (fun g u hu hne hu3 => ?_) (Or.inr fun g g' => rfl)
  have z1 : mfs (sF (sA σ 16 j x) 3 g) M = mfs (sF σ 3 g) M := by rw [mfs_sF rfl, mfs_sF rfl, mfs_sA rfl]
  simp only [mcont, z1, sF, if_neg hu3, sA, if_neg hne]
theorem md_scw (h : Md E A σ M H) {g : Nat → Int32} (hi : ia E (M 3) 8 g H1) (o : ∀ q : Nat, q ≠ M 3 → H1[q]? = H[q]?) : Md E A σ M H1 :=
  md_upd h (u := 3) rfl o ⟨g, hi⟩ (fun _ _ _ _ _ => rfl) (Or.inl rfl)
theorem mfs_set {k : Nat} {x : Int32} (hk : mscal k = true) : (mfs σ M).set k (.int x) = mfs (sA σ k 0 x) M := by
  simp only [mscal, Bool.or_eq_true, beq_iff_eq] at hk
  rcases hk with (((((((h | h) | h) | h) | h) | h) | h) | h) | h <;> subst h <;> rfl
theorem md_put (h : Md E A σ M H) {k : Nat} {x : Int32} (hk : mscal k = true) (hi : ob E (M 0) 12 ((mfs σ M).set k (.int x)) H1) (o : ∀ q : Nat, q ≠ M 0 → H1[q]? = H[q]?) : Md E A (sA σ k 0 x) M H1 := by
  obtain ⟨m0, m1, m2, m3, m4⟩ := mscal_not hk
  rw [mfs_set hk] at hi
  refine md_upd h (u := 0) rfl o ⟨fun _ => 0, by simp only [mcont, if_pos, mfs_sF (σ := sA σ k 0 x) (t := 3) rfl]; exact hi⟩ (fun g u hu hne hu3 => ?_) (Or.inr fun g g' => by simp only [mcont, if_pos, mfs_sF (σ := sA σ k 0 x) (t := 3) rfl])
  have hk2 : u = 1 ∨ u = 29 ∨ u ≠ k := by
    by_cases e : u = k
    · subst e
      simp only [mval, Bool.or_eq_true, beq_iff_eq, m0, Bool.false_eq_true, or_false] at hu
      omega
    · exact Or.inr (Or.inr e)
  simp only [mcont, if_neg hne]
  rcases hk2 with e | e | e
  · subst e; rfl
  · subst e; rfl
  · simp only [sF, if_neg hu3, sA, if_neg e]
    simp only [show ¬ (16 : Nat) = k from fun z => m3 z.symm, if_false, show ¬ (16 : Nat) = 3 by decide]
/-- the picture stays where its cells do -/
theorem md_kept (h : Md E A σ M H) (o : ∀ t, mval t = true → H1[M t]? = H[M t]?) : Md E A σ M H1 := by
  obtain ⟨g, h⟩ := h
  exact ⟨g, fun t ht => (h.1 t ht).kept (o t ht), h.2⟩
end MODEL
end
section
/-! THE REFERENCE'S METHODS as functions of its numbers, word for word as its code has them -/
abbrev rm (x y : Int32) : Int32 := x - x / y * y
def gA (σ : St) (t : Nat) (i : Int32) : Int32 := σ t i.toNatClampNeg
def gR (σ : St) (b : Nat) (i : Int32) (j : Nat) : Int32 := σ (b + i.toNatClampNeg) j
def bI (b : Bool) : Int32 := if b then 1 else 0
def nn (σ : St) (k : Nat) : Nat := (σ k 0).toNatClampNeg
def m_in (v lo hi : Int32) : Bool := !decide (v < lo) && !decide (hi < v)
def m_isP (σ : St) (p : Int32) : Bool := m_in p 0 (σ 11 0 - 1)
def m_isN (σ : St) (n : Int32) : Bool := m_in n 0 (σ 23 0 - 1)
def m_lawBad (σ : St) (land day what notice : Int32) : Bool := !m_in land 0 5 || !m_in day 0 20000 || decide (what < 0) || decide (30 < what / 1000000) || decide (3 < rm (what / 100000) 10) || decide (7 < rm (what / 10000) 10) || decide (2 < rm (what / 1000) 10) || !m_in (rm what 1000) 1 400 || !m_in notice 0 30 || decide (σ 2 0 = 60)
def m_lawS (σ : St) (land day what notice : Int32) : St :=
  sA (sA (sA (sA (sA (sA (sA (sA (sA σ (100 + nn σ 2) 0 land) (100 + nn σ 2) 1 day) (100 + nn σ 2) 2 (what / 1000000)) (100 + nn σ 2) 3 (rm (what / 100000) 10)) (100 + nn σ 2) 4 (rm (what / 10000) 10)) (100 + nn σ 2) 5 (rm what 1000)) (100 + nn σ 2) 6 notice) (100 + nn σ 2) 7 (rm (what / 1000) 10)) 2 0 (σ 2 0 + 1)
def m_ifC (σ : St) (land day : Int32) (k b : Int32) : Bool := decide (gR σ 100 k 0 = land) && (!decide (day < gR σ 100 k 1) && (decide (b = -1) || !decide (gR σ 100 k 1 < gR σ 100 b 1)))
def m_ifL (σ : St) (land day : Int32) : Nat → Nat → Int32 → Int32
  | 0, _, b => b
  | f + 1, k, b => m_ifL σ land day f (k + 1) (if m_ifC σ land day (nI k) b then nI k else b)
def m_best (σ : St) (land day : Int32) : Int32 := m_ifL σ land day (nn σ 2) 0 (-1)
def m_def (w : Nat) : Int32 := if w = 5 then 1 else 0
def m_ask (σ : St) (land day : Int32) (w : Nat) : Int32 := if m_best σ land day = -1 then m_def w else gR σ 100 (m_best σ land day) w
def m_asks (σ : St) (p day : Int32) (w : Nat) : Int32 := m_ask σ (gA σ 4 p) day w
def m_perBad (σ : St) (who born f mo : Int32) : Bool := decide (who < 0) || !decide (who / 1000000 < 6) || decide (31 < rm (who / 10000) 100) || decide (rm who 10000 < 1) || !m_in born (-30000) (σ 0 0) || (!decide (f = -1) && !m_isP σ f) || (!decide (mo = -1) && !m_isP σ mo)
def m_perBad2 (σ : St) (f mo : Int32) : Bool := (!decide (f = -1) && decide (f = mo)) || decide (σ 11 0 = 40)
def m_perS (σ : St) (who born f mo : Int32) : St :=
  sA (sA (sA (sA (sA (sA (sA (sA σ 4 (nn σ 11) (who / 1000000)) 8 (nn σ 11) (rm (who / 10000) 100)) 9 (nn σ 11) (rm who 10000)) 5 (nn σ 11) born) 6 (nn σ 11) f) 7 (nn σ 11) mo) 10 (nn σ 11) (-1)) 11 0 (σ 11 0 + 1)
def m_papBad (σ : St) (p kind day : Int32) : Bool := !m_isP σ p || !m_in kind 0 2 || !m_in day 0 (σ 0 0) || decide (σ 15 0 = 200)
def m_papS (σ : St) (p kind day : Int32) : St := sA (sA (sA (sA σ 12 (nn σ 15) p) 13 (nn σ 15) kind) 14 (nn σ 15) day) 15 0 (σ 15 0 + 1)
def m_hpC (σ : St) (p kind day k : Int32) : Bool := decide (gA σ 12 k = p) && (decide (gA σ 13 k = kind) && (!decide (day < gA σ 14 k) && decide (day - gA σ 14 k < m_asks σ p day 5)))
def m_hpL (σ : St) (p kind day : Int32) : Nat → Nat → Bool
  | 0, _ => false
  | f + 1, k => if m_hpC σ p kind day (nI k) then true else m_hpL σ p kind day f (k + 1)
def m_hasPaper (σ : St) (p kind day : Int32) : Bool := m_hpL σ p kind day (nn σ 15) 0
def m_isFree (σ : St) (d : Int32) : Bool := !decide (rm d 7 = 6) && decide (gA σ 16 d = 0)
def m_isParent (σ : St) (p c : Int32) : Bool := !decide (p = -1) && (decide (gA σ 6 c = p) || decide (gA σ 7 c = p))
def m_share (σ : St) (a b : Int32) : Bool := !decide (a = b) && ((!decide (gA σ 6 a = -1) && decide (gA σ 6 a = gA σ 6 b)) || (!decide (gA σ 7 a = -1) && decide (gA σ 7 a = gA σ 7 b)))
def m_parent (σ : St) (p which : Int32) : Int32 := if which = 0 then gA σ 6 p else gA σ 7 p
def m_k1 (σ : St) (a b : Int32) : Bool := m_isParent σ a b || m_isParent σ b a || m_share σ a b
def m_k2 (σ : St) (p b : Int32) : Bool := !decide (p = -1) && (m_share σ p b || m_isParent σ b p)
def m_k3 (σ : St) (p q : Int32) : Bool := !decide (q = -1) && m_share σ p q
def m_k3b (σ : St) (p b : Int32) (kin : Int32) : Int32 := if p = -1 then kin else (if m_k3 σ p (gA σ 7 b) then 3 else if m_k3 σ p (gA σ 6 b) then 3 else kin)
def m_kinOf (σ : St) (a b : Int32) : Int32 :=
  if m_k1 σ a b then 1
  else if m_k2 σ (gA σ 6 a) b then 2 else if m_k2 σ (gA σ 6 b) a then 2
  else if m_k2 σ (gA σ 7 a) b then 2 else if m_k2 σ (gA σ 7 b) a then 2
  else m_k3b σ (gA σ 7 a) b (m_k3b σ (gA σ 6 a) b 0)
def m_isYoung (σ : St) (p day : Int32) : Bool := decide (day - gA σ 5 p < 365 * m_asks σ p day 2)
def m_wants (σ : St) (p day k : Int32) : Bool := decide ((m_asks σ p day 4 >>> (k &&& 31)) &&& 1 = 1)
def m_lacks (σ : St) (p day : Int32) : Bool := (m_wants σ p day 0 && !m_hasPaper σ p 0 day) || (m_wants σ p day 1 && !m_hasPaper σ p 1 day) || (m_wants σ p day 2 && !m_hasPaper σ p 2 day)
def m_stands (σ : St) (a b day : Int32) : Int32 :=
  if !decide (gA σ 10 a = -1) || !decide (gA σ 10 b = -1) then 1
  else if m_isYoung σ a day || m_isYoung σ b day then 2
  else if decide (0 < m_kinOf σ a b) && (!decide (m_asks σ a day 3 < m_kinOf σ a b) || !decide (m_asks σ b day 3 < m_kinOf σ a b)) then 3
  else if m_lacks σ a day || m_lacks σ b day then 4 else 0
def m_postBad (σ : St) (a b : Int32) : Bool := !m_isP σ a || !m_isP σ b || decide (a = b) || !decide (gA σ 10 a = -1) || !decide (gA σ 10 b = -1) || decide (σ 23 0 = 60)
def m_poC (σ : St) (a b k : Int32) : Bool := decide (gA σ 20 k = 0) && ((decide (gA σ 17 k = a) && decide (gA σ 18 k = b)) || (decide (gA σ 17 k = b) && decide (gA σ 18 k = a)))
def m_poL (σ : St) (a b : Int32) : Nat → Nat → Bool
  | 0, _ => false
  | f + 1, k => if m_poC σ a b (nI k) then true else m_poL σ a b f (k + 1)
def m_postS (σ : St) (a b : Int32) : St := sA (sA (sA (sA (sA (sA σ 17 (nn σ 23) a) 18 (nn σ 23) b) 19 (nn σ 23) (σ 0 0)) 21 (nn σ 23) (-1)) 22 (nn σ 23) (-1)) 23 0 (σ 23 0 + 1)
def m_wdBad (σ : St) (n : Int32) : Bool := !m_isN σ n || !decide (gA σ 20 n = 0)
def m_wdS (σ : St) (n : Int32) : St := sA (sA (sA σ 20 n.toNatClampNeg 2) 21 n.toNatClampNeg (-1)) 22 n.toNatClampNeg (-1)
/-- the free days d, d + 1 .. of f days, added to many -/
def m_huL (σ : St) : Nat → Nat → Int32 → Int32
  | 0, _, r => r
  | f + 1, d, r => m_huL σ f (d + 1) (r + bI (m_isFree σ (nI d)))
/-- days posted + 1 .. day - 1, as numbers -/
def m_hung (σ : St) (n day : Int32) : Int32 := m_huL σ (day.toNatClampNeg - ((gA σ 19 n).toNatClampNeg + 1)) ((gA σ 19 n).toNatClampNeg + 1) 0
def m_max (a b : Int32) : Int32 := if a < b then b else a
def m_min (a b : Int32) : Int32 := if b < a then b else a
def m_wanted (σ : St) (n day : Int32) : Int32 := m_max (m_asks σ (gA σ 17 n) day 6) (m_asks σ (gA σ 18 n) day 6)
def m_riL (σ : St) (n : Int32) : Nat → Nat → Int32 → Int32
  | 0, _, _ => -1
  | f + 1, d, has => if !decide (has < m_wanted σ n (nI d)) then nI d else m_riL σ n f (d + 1) (if decide (gA σ 19 n < nI d) && m_isFree σ (nI d) then has + 1 else has)
def m_ripe (σ : St) (n : Int32) : Int32 := m_riL σ n (20001 - (gA σ 19 n).toNatClampNeg) (gA σ 19 n).toNatClampNeg 0
def m_obL (σ : St) (n : Int32) : Nat → Nat → Int32 → Int32
  | 0, _, r => r
  | f + 1, k, r => m_obL σ n f (k + 1) (r + bI (decide (gA σ 24 (nI k) = n) && decide (gA σ 25 (nI k) < 2)))
def m_objd (σ : St) (n : Int32) : Int32 := m_obL σ n (nn σ 26) 0 0
def m_isRipe (σ : St) (n day : Int32) : Bool := !decide (m_hung σ n day < m_wanted σ n day) && decide (m_objd σ n = 0)
def m_objBad (σ : St) (n : Int32) : Bool := !m_isN σ n || !decide (gA σ 20 n = 0) || decide (σ 26 0 = 60)
def m_objLate (σ : St) (n : Int32) : Bool := !decide (m_ripe σ n = -1) && !decide (σ 0 0 < m_ripe σ n)
def m_objS (σ : St) (n : Int32) : St := sA (sA σ 24 (nn σ 26) n) 26 0 (σ 26 0 + 1)
def m_jdBad (σ : St) (o : Int32) : Bool := !m_in o 0 (σ 26 0 - 1) || !decide (gA σ 25 o = 0)
def m_jdS (σ : St) (o up : Int32) : St := sA σ 25 o.toNatClampNeg (if up = 0 then 2 else 1)
def m_reBad (σ : St) (t : Int32) : Bool := !m_in t 0 31 || decide (σ 28 0 = 6)
def m_reS (σ : St) (t : Int32) : St := sA (sA σ 27 (nn σ 28) t) 28 0 (σ 28 0 + 1)
/-- what the booking of notice k adds to the worst -/
def m_b1 (σ : St) (hour hall reg k w : Int32) : Int32 :=
  let w1 := if decide (gA σ 22 k / 100 = hour) && decide (rm (gA σ 22 k / 10) 10 = hall) then m_min w 4 else w
  let w2 := if decide (gA σ 22 k / 100 = hour) && decide (rm (gA σ 22 k) 10 = reg) then m_min w1 5 else w1
  if (decide (gA σ 22 k / 100 = hour - 1) || decide (gA σ 22 k / 100 = hour + 1)) && (decide (rm (gA σ 22 k) 10 = reg) && !decide (rm (gA σ 22 k / 10) 10 = hall)) then m_min w2 6 else w2
def m_baL (σ : St) (n day hour hall reg : Int32) : Nat → Nat → Int32 → Int32
  | 0, _, w => w
  | f + 1, k, w => m_baL σ n day hour hall reg f (k + 1) (if decide (nI k = n) || !decide (gA σ 21 (nI k) = day) then w else m_b1 σ hour hall reg (nI k) w)
def m_dumb (σ : St) (n reg : Int32) : Bool := decide (gA σ 27 reg &&& gA σ 8 (gA σ 17 n) = 0) || decide (gA σ 27 reg &&& gA σ 8 (gA σ 18 n) = 0)
def m_worst (σ : St) (n day hour hall reg : Int32) : Int32 := if m_dumb σ n reg then m_min (m_baL σ n day hour hall reg (nn σ 23) 0 8) 7 else m_baL σ n day hour hall reg (nn σ 23) 0 8
def m_bars (σ : St) (n day hour hall reg : Int32) : Int32 :=
  if !decide (gA σ 20 n = 0) then 1 else if !m_isFree σ day then 2 else if !m_isRipe σ n day then 3
  else if m_worst σ n day hour hall reg = 8 then 0 else m_worst σ n day hour hall reg
def m_boBad (σ : St) (n day wh : Int32) : Bool := !m_isN σ n || decide (wh < 0) || !m_in (wh / 100) 8 17 || decide (3 < rm (wh / 10) 10) || !decide (rm wh 10 < σ 28 0) || !m_in day (σ 0 0) 20000
def m_boS (σ : St) (n day wh : Int32) : St := sA (sA σ 21 n.toNatClampNeg day) 22 n.toNatClampNeg wh
def m_book (σ : St) (n day wh : Int32) : Int32 := if m_boBad σ n day wh then -1 else m_bars σ n day (wh / 100) (rm (wh / 10) 10) (rm wh 10)
def m_fiR (σ : St) (n day : Int32) (h w : Nat) : Nat → Nat → Option Int32
  | 0, _ => none
  | f + 1, r => if decide (0 < m_bars σ n day (nI h) (nI w) (nI r)) then m_fiR σ n day h w f (r + 1) else some (100 * nI h + 10 * nI w + nI r)
def m_fiW (σ : St) (n day : Int32) (h : Nat) : Nat → Nat → Option Int32
  | 0, _ => none
  | f + 1, w => match m_fiR σ n day h w (nn σ 28) 0 with
    | some x => some x
    | none => m_fiW σ n day h f (w + 1)
def m_fiH (σ : St) (n day : Int32) : Nat → Nat → Option Int32
  | 0, _ => none
  | f + 1, h => match m_fiW σ n day h 4 0 with
    | some x => some x
    | none => m_fiH σ n day f (h + 1)
def m_find (σ : St) (n day : Int32) : Option Int32 := m_fiH σ n day 10 8
def m_finS (σ : St) (n day : Int32) : St := match m_find σ n day with
  | some x => m_boS σ n day x
  | none => σ
def m_orC (σ : St) (n day : Int32) : Bool := decide (gA σ 20 n = 0) && (decide (gA σ 21 n = -1) && decide (m_stands σ (gA σ 17 n) (gA σ 18 n) day = 0))
def m_orL (day : Int32) : Nat → Nat → Int32 → St → Int32 × St
  | 0, _, r, σ => (r, σ)
  | f + 1, n, r, σ => if m_orC σ (nI n) day then m_orL day f (n + 1) (if (m_find σ (nI n) day).isSome then r + 1 else r) (m_finS σ (nI n) day) else m_orL day f (n + 1) r σ
def m_order (σ : St) (day : Int32) : Int32 × St := if m_in day (σ 0 0) 20000 then m_orL day (nn σ 23) 0 0 σ else (-1, σ)
def m_weBad (σ : St) (n : Int32) : Bool := !m_isN σ n || !decide (gA σ 20 n = 0) || !decide (gA σ 21 n = σ 0 0) || !decide (m_stands σ (gA σ 17 n) (gA σ 18 n) (σ 0 0) = 0) || !m_isRipe σ n (σ 0 0) || decide (σ 30 0 = 60)
def m_weS (σ : St) (n : Int32) : St :=
  sA (sA (sA (sA (sA (sA (sA (sA (sA (sA (sA (sA σ 10 (gA σ 17 n).toNatClampNeg (gA σ 18 n)) 10 (gA σ 18 n).toNatClampNeg (gA σ 17 n)) 20 n.toNatClampNeg 1) (200 + nn σ 30) 0 (σ 0 0)) (200 + nn σ 30) 1 (gA σ 9 (gA σ 17 n))) (200 + nn σ 30) 2 (gA σ 9 (gA σ 18 n))) (200 + nn σ 30) 3 (rm (gA σ 22 n / 10) 10)) (200 + nn σ 30) 4 (rm (gA σ 22 n) 10)) (200 + nn σ 30) 5 (gA σ 17 n)) (200 + nn σ 30) 6 (gA σ 18 n)) (200 + nn σ 30) 7 n) 30 0 (σ 30 0 + 1)
def m_paBad (σ : St) (p : Int32) : Bool := !m_isP σ p || decide (gA σ 10 p = -1)
def m_paS (σ : St) (p : Int32) : St := sA (sA σ 10 (gA σ 10 p).toNatClampNeg (-1)) 10 p.toNatClampNeg (-1)
def m_coBad (σ : St) (e f v : Int32) : Bool := !m_in e 0 (σ 30 0 - 1) || !m_in f 0 4 || !m_in v 0 20000 || decide (σ 35 0 = 100)
def m_coS (σ : St) (e f v : Int32) : St := sA (sA (sA (sA (sA σ 31 (nn σ 35) e) 32 (nn σ 35) f) 33 (nn σ 35) v) 34 (nn σ 35) (σ 0 0)) 35 0 (σ 35 0 + 1)
def m_enBad (σ : St) (e f day : Int32) : Bool := !m_in e 0 (σ 30 0 - 1) || !m_in f 0 7 || !m_in day (gR σ 200 e 0) (σ 0 0)
def m_enC (σ : St) (e f day k : Int32) : Bool := decide (gA σ 31 k = e) && (decide (gA σ 32 k = f) && !decide (day < gA σ 34 k))
def m_enL (σ : St) (e f day : Int32) : Nat → Nat → Int32 → Int32
  | 0, _, v => v
  | n + 1, k, v => m_enL σ e f day n (k + 1) (if m_enC σ e f day (nI k) then gA σ 33 (nI k) else v)
def m_entry (σ : St) (e f day : Int32) : Int32 := if m_enBad σ e f day then -1 else m_enL σ e f day (nn σ 35) 0 (gR σ 200 e f.toNatClampNeg)
def m_how (σ : St) (e by_ : Int32) : Int32 := m_asks σ (gR σ 200 e (5 + by_).toNatClampNeg) (gR σ 200 e 0) 7
def m_nameOf (σ : St) (e which by_ : Int32) : Int32 := if m_how σ e by_ = 0 then gR σ 200 e (1 + which).toNatClampNeg else if m_how σ e by_ = 1 then gR σ 200 e 1 else 10000 * gR σ 200 e 1 + gR σ 200 e 2
def m_name (σ : St) (e which by_ : Int32) : Int32 := if m_in e 0 (σ 30 0 - 1) && (m_in which 0 1 && m_in by_ 0 1) then m_nameOf σ e which by_ else -1
def m_quarrel (σ : St) (e : Int32) : Bool := m_in e 0 (σ 30 0 - 1) && (!decide (m_nameOf σ e 0 0 = m_nameOf σ e 0 1) || !decide (m_nameOf σ e 1 0 = m_nameOf σ e 1 1))
def m_told (σ : St) (n what : Int32) : Int32 := if !m_isN σ n then -1 else if what = 0 then gA σ 20 n else if what = 1 then gA σ 19 n else if what = 2 then m_objd σ n else if what = 3 then gA σ 21 n else if what = 4 then gA σ 22 n else -1
def m_married (σ : St) (p : Int32) : Int32 := if m_isP σ p then gA σ 10 p else -1
def m_opL (σ : St) : Nat → Nat → Int32 → Int32
  | 0, _, r => r
  | f + 1, k, r => m_opL σ f (k + 1) (r + bI (decide (gA σ 20 (nI k) = 0) && !decide (gA σ 21 (nI k) = -1)))
def m_count (σ : St) (what : Int32) : Int32 := if what = 0 then σ 0 0 else if what = 1 then σ 11 0 else if what = 2 then σ 23 0 else if what = 3 then σ 30 0 else if what = 4 then σ 26 0 else if what = 5 then m_opL σ (nn σ 23) 0 0 else -1
/-! what the reference's numbers keep to -/
def okP (σ : St) (x : Int32) : Prop := 0 ≤ x.toInt ∧ x.toInt < (σ 11 0).toInt
def okPN (σ : St) (x : Int32) : Prop := x = -1 ∨ okP σ x
def bnd (x : Int32) (n : Int) : Prop := 0 ≤ x.toInt ∧ x.toInt ≤ n
def InvM (σ : St) : Prop :=
  (bnd (σ 0 0) 20000 ∧ bnd (σ 2 0) 60 ∧ bnd (σ 11 0) 40 ∧ bnd (σ 15 0) 200 ∧ bnd (σ 23 0) 60 ∧ bnd (σ 26 0) 60 ∧ bnd (σ 28 0) 6 ∧ bnd (σ 30 0) 60 ∧ bnd (σ 35 0) 100)
  ∧ (∀ i, i < nn σ 11 → okPN σ (σ 6 i) ∧ okPN σ (σ 7 i) ∧ okPN σ (σ 10 i))
  ∧ (∀ i, i < nn σ 23 → okP σ (σ 17 i) ∧ okP σ (σ 18 i) ∧ bnd (σ 19 i) 20000)
  ∧ (∀ i, i < nn σ 30 → okP σ (σ (200 + i) 5) ∧ okP σ (σ (200 + i) 6))
end
section
/-! ROWS OVER THE REFERENCE'S PICTURE -/
theorem vi_of {i : Int32} {n : Nat} (h1 : 0 ≤ i.toInt) (h2 : i.toInt < n) : vp_in i n := vp_in_iff.mpr ⟨h1, h2⟩
theorem i_lt (a b : Int32) : a < b ↔ a.toInt < b.toInt := Int32.lt_iff_toInt_lt
theorem i_le (a b : Int32) : a ≤ b ↔ a.toInt ≤ b.toInt := Int32.le_iff_toInt_le
theorem i_eq (a b : Int32) : a = b ↔ a.toInt = b.toInt := Int32.toInt_inj.symm
theorem i_rng (x : Int32) : -2147483648 ≤ x.toInt ∧ x.toInt < 2147483648 := by
  have h1 := Int32.le_toInt x
  have h2 := Int32.toInt_lt x
  omega
theorem i_sub {x y : Int32} (h1 : -2147483648 ≤ x.toInt - y.toInt) (h2 : x.toInt - y.toInt < 2147483648) : (x - y).toInt = x.toInt - y.toInt := by
  rw [Int32.toInt_sub]
  exact Int.bmod_eq_of_le (by omega) (by omega)
theorem i_add {x y : Int32} (h1 : -2147483648 ≤ x.toInt + y.toInt) (h2 : x.toInt + y.toInt < 2147483648) : (x + y).toInt = x.toInt + y.toInt := by
  rw [Int32.toInt_add]
  exact Int.bmod_eq_of_le (by omega) (by omega)
theorem i_clamp {x : Int32} (h : 0 ≤ x.toInt) : (x.toNatClampNeg : Int) = x.toInt := by
  show (x.toInt.toNat : Int) = x.toInt
  omega
theorem bI_1 {b : Bool} (h : b = true) : bI b = 1 := by rw [h]; rfl
theorem bI_0 {b : Bool} (h : b = false) : bI b = 0 := by rw [h]; rfl
theorem m_in_iff {v lo hi : Int32} : m_in v lo hi = true ↔ lo.toInt ≤ v.toInt ∧ v.toInt ≤ hi.toInt := by
  simp only [m_in, Bool.and_eq_true, Bool.not_eq_true', decide_eq_false_iff_not, i_lt]
  omega
theorem m_in_f {v lo hi : Int32} (h : m_in v lo hi = false) : v.toInt < lo.toInt ∨ hi.toInt < v.toInt := by
  rcases Int.lt_or_le v.toInt lo.toInt with a | a
  · exact Or.inl a
  · rcases Int.lt_or_le hi.toInt v.toInt with b | b
    · exact Or.inr b
    · rw [m_in_iff.mpr ⟨a, b⟩] at h; cases h
theorem cnt_pred {x : Int32} {n : Int} (h : bnd x n) : (x - 1).toInt = x.toInt - 1 := by
  have := i_rng x
  exact i_sub (by show _ ≤ x.toInt - 1; have := h.1; omega) (by show x.toInt - 1 < _; omega)
theorem isP_ok {σ : St} {p : Int32} (hI : InvM σ) (h : m_isP σ p = true) : okP σ p := by
  have h1 := m_in_iff.mp h
  rw [cnt_pred hI.1.2.2.1] at h1
  exact ⟨h1.1, by omega⟩
theorem okP_in {σ : St} {p : Int32} (hI : InvM σ) (h : okP σ p) : vp_in p 40 := vi_of h.1 (by have := hI.1.2.2.1.2; have := h.2; omega)
theorem okP_lt {σ : St} {p : Int32} (h : okP σ p) : p.toNatClampNeg < nn σ 11 := by
  have h1 := i_clamp h.1
  have h2 := i_clamp (x := σ 11 0) (by have := h.1; have := h.2; omega)
  have := h.2
  show p.toNatClampNeg < (σ 11 0).toNatClampNeg
  omega
def okN (σ : St) (n : Int32) : Prop := 0 ≤ n.toInt ∧ n.toInt < (σ 23 0).toInt
theorem isN_ok {σ : St} {p : Int32} (hI : InvM σ) (h : m_isN σ p = true) : okN σ p := by
  have h1 := m_in_iff.mp h
  rw [cnt_pred hI.1.2.2.2.2.1] at h1
  exact ⟨h1.1, by omega⟩
theorem okN_in {σ : St} {p : Int32} (hI : InvM σ) (h : okN σ p) : vp_in p 60 := vi_of h.1 (by have := hI.1.2.2.2.2.1.2; have := h.2; omega)
theorem okN_lt {σ : St} {p : Int32} (h : okN σ p) : p.toNatClampNeg < nn σ 23 := by
  have h1 := i_clamp h.1
  have h2 := i_clamp (x := σ 23 0) (by have := h.1; have := h.2; omega)
  have := h.2
  show p.toNatClampNeg < (σ 23 0).toNatClampNeg
  omega
/-- a count as a number of steps -/
theorem cnt_nI {σ : St} {k : Nat} {n : Int} (h : bnd (σ k 0) n) : σ k 0 = nI (nn σ k) := by
  have h1 := i_clamp h.1
  have h2 := i_rng (σ k 0)
  rw [i_eq, nI_toInt (by show (σ k 0).toNatClampNeg < _; omega)]
  exact h1.symm
theorem cnt_le {σ : St} {k N : Nat} (h : bnd (σ k 0) N) : nn σ k ≤ N := by
  have h1 := i_clamp h.1
  have := h.2
  show (σ k 0).toNatClampNeg ≤ N
  omega
section MROWS
variable {p : Program} {l : Launch} {e : Env} {R : Room} {s : State} {m : MethodId} {args : Array Value} {below : List Frame} {meth : Method} {c : Code} {H : Heap} {locs : List Loc} {cells slots : Nat} {Q : State → Prop} {E : EV}
variable {cc : ByteArray} {pc : Nat} {ls : Array Slot} {rest : List Value} {A : Nat → Prop} {a : Nat} {H0 : Heap} {σ : St} {M : Nat → Nat}
theorem onB {B : Bool} (k1 : B = true → W p l e R s m args below meth c H locs cells slots Q (F0 m pc ls (.int 1 :: rest))) (k0 : B = false → W p l e R s m args below meth c H locs cells slots Q (F0 m pc ls (.int 0 :: rest))) : W p l e R s m args below meth c H locs cells slots Q (F0 m pc ls (.int (bI B) :: rest)) := by
  cases B with
  | true => exact k1 rfl
  | false => exact k0 rfl
theorem mr_ld {t : Nat} {i : Int32} (hx : p.tables.exec = Jvm.exec) (hb : c.code = cc) (hE : evK E s) (hM : Md E A σ M H) (ht : mint t = true) (h3 : t ≠ 3) (hin : vp_in i (mlen t)) (hdg : decode cc pc = .ok (.iaload, 1))
    (kk : W p l e R s m args below meth c H locs cells slots Q (F0 m (pc + 1) ls (.int (gA σ t i) :: rest))) : W p l e R s m args below meth c H locs cells slots Q (F0 m pc ls (.int i :: .ref (M t) :: rest)) :=
  rd_iald hx hb hE (md_int hM t ht h3) hin hdg kk
theorem mr_lz {i : Int32} (hx : p.tables.exec = Jvm.exec) (hb : c.code = cc) (hE : evK E s) (hM : Md E A σ M H) (hin : vp_in i 20001) (hdg : decode cc pc = .ok (.baload, 1))
    (kk : W p l e R s m args below meth c H locs cells slots Q (F0 m (pc + 1) ls (.int (gA σ 16 i) :: rest))) : W p l e R s m args below meth c H locs cells slots Q (F0 m pc ls (.int i :: .ref (M 16) :: rest)) :=
  rd_zald hx hb hE (md_bool hM) hin hdg kk
theorem vi_lt {i : Int32} {n : Nat} (h : vp_in i n) : i.toNatClampNeg < n := Nat.not_le.mp fun q => h (Or.inr q)
theorem mr_rl {i : Int32} (hx : p.tables.exec = Jvm.exec) (hb : c.code = cc) (hE : evK E s) (hM : Md E A σ M H) (hin : vp_in i 60) (hdg : decode cc pc = .ok (.aaload, 1))
    (kk : W p l e R s m args below meth c H locs cells slots Q (F0 m (pc + 1) ls (.ref (M (100 + i.toNatClampNeg)) :: rest))) : W p l e R s m args below meth c H locs cells slots Q (F0 m pc ls (.int i :: .ref (M 1) :: rest)) :=
  rd_rald hx hb hE (md_laws hM) hin (if_pos (vi_lt hin)) hdg kk
theorem mr_re {i : Int32} (hx : p.tables.exec = Jvm.exec) (hb : c.code = cc) (hE : evK E s) (hM : Md E A σ M H) (hin : vp_in i 60) (hdg : decode cc pc = .ok (.aaload, 1))
    (kk : W p l e R s m args below meth c H locs cells slots Q (F0 m (pc + 1) ls (.ref (M (200 + i.toNatClampNeg)) :: rest))) : W p l e R s m args below meth c H locs cells slots Q (F0 m pc ls (.int i :: .ref (M 29) :: rest)) :=
  rd_rald hx hb hE (md_ents hM) hin (if_pos (vi_lt hin)) hdg kk
theorem mint_l {i : Nat} (h : i < 60) : mint (100 + i) = true ∧ 100 + i ≠ 3 ∧ mlen (100 + i) = 8 := by
  refine ⟨?_, by omega, ?_⟩
  · simp only [mint, Bool.or_eq_true, Bool.and_eq_true, decide_eq_true_eq, beq_iff_eq]; omega
  · simp only [mlen]; rw [if_neg (by omega), if_neg (by omega), if_neg (by omega), if_neg (by omega), if_neg (by omega)]
theorem mint_e {i : Nat} (h : i < 60) : mint (200 + i) = true ∧ 200 + i ≠ 3 ∧ mlen (200 + i) = 8 := by
  refine ⟨?_, by omega, ?_⟩
  · simp only [mint, Bool.or_eq_true, Bool.and_eq_true, decide_eq_true_eq, beq_iff_eq]; omega
  · simp only [mlen]; rw [if_neg (by omega), if_neg (by omega), if_neg (by omega), if_neg (by omega), if_neg (by omega)]
/-- a row's place -/
theorem mr_ldl {i j : Int32} {jn : Nat} (hx : p.tables.exec = Jvm.exec) (hb : c.code = cc) (hE : evK E s) (hM : Md E A σ M H) (hin : vp_in i 60) (hj : vp_in j 8) (hjn : j.toNatClampNeg = jn) (hdg : decode cc pc = .ok (.iaload, 1))
    (kk : W p l e R s m args below meth c H locs cells slots Q (F0 m (pc + 1) ls (.int (gR σ 100 i jn) :: rest))) : W p l e R s m args below meth c H locs cells slots Q (F0 m pc ls (.int j :: .ref (M (100 + i.toNatClampNeg)) :: rest)) := by
  subst hjn
  obtain ⟨g1, g2, g3⟩ := mint_l (vi_lt hin)
  have h := md_int hM _ g1 g2
  rw [g3] at h
  exact rd_iald hx hb hE h hj hdg kk
theorem mr_lde {i j : Int32} {jn : Nat} (hx : p.tables.exec = Jvm.exec) (hb : c.code = cc) (hE : evK E s) (hM : Md E A σ M H) (hin : vp_in i 60) (hj : vp_in j 8) (hjn : j.toNatClampNeg = jn) (hdg : decode cc pc = .ok (.iaload, 1))
    (kk : W p l e R s m args below meth c H locs cells slots Q (F0 m (pc + 1) ls (.int (gR σ 200 i jn) :: rest))) : W p l e R s m args below meth c H locs cells slots Q (F0 m pc ls (.int j :: .ref (M (200 + i.toNatClampNeg)) :: rest)) := by
  subst hjn
  obtain ⟨g1, g2, g3⟩ := mint_e (vi_lt hin)
  have h := md_int hM _ g1 g2
  rw [g3] at h
  exact rd_iald hx hb hE h hj hdg kk
theorem mr_st {t : Nat} {i x : Int32} (hx : p.tables.exec = Jvm.exec) (hb : c.code = cc) (hE : evK E s) (hS : va_S A H0 H locs) (hM : Md E A σ M H) (ht : mint t = true) (h3 : t ≠ 3) (hin : vp_in i (mlen t)) (hdg : decode cc pc = .ok (.iastore, 1))
    (kk : ∀ (H1 : Heap) (locs1 : List Loc), Md E A (sA σ t i.toNatClampNeg x) M H1 → va_S A H0 H1 locs1 → W p l e R s m args below meth c H1 locs1 cells slots Q (F0 m (pc + 1) ls rest)) : W p l e R s m args below meth c H locs cells slots Q (F0 m pc ls (.int x :: .int i :: .ref (M t) :: rest)) :=
  wr_iast hx hb hE hS (md_A hM t (mint_val ht)) (md_int hM t ht h3) hin hdg (fun H1 locs1 h1 _ h3' h4 => kk H1 locs1 (md_ast hM ht h3 h1 h3') h4)
theorem mr_stz {i x : Int32} (hx : p.tables.exec = Jvm.exec) (hb : c.code = cc) (hE : evK E s) (hS : va_S A H0 H locs) (hM : Md E A σ M H) (hin : vp_in i 20001) (hdg : decode cc pc = .ok (.bastore, 1))
    (kk : ∀ (H1 : Heap) (locs1 : List Loc), Md E A (sA σ 16 i.toNatClampNeg (vp_nar .boolean x)) M H1 → va_S A H0 H1 locs1 → W p l e R s m args below meth c H1 locs1 cells slots Q (F0 m (pc + 1) ls rest)) : W p l e R s m args below meth c H locs cells slots Q (F0 m pc ls (.int x :: .int i :: .ref (M 16) :: rest)) :=
  wr_zast hx hb hE hS (md_A hM 16 rfl) (md_bool hM) hin hdg (fun H1 locs1 h1 _ h3' h4 => kk H1 locs1 (md_zst hM h1 h3') h4)
theorem mr_stl {r : Nat} {j x : Int32} {jn : Nat} (hx : p.tables.exec = Jvm.exec) (hb : c.code = cc) (hE : evK E s) (hS : va_S A H0 H locs) (hM : Md E A σ M H) (hr : mint r = true ∧ r ≠ 3 ∧ mlen r = 8) (hj : vp_in j 8) (hjn : j.toNatClampNeg = jn) (hdg : decode cc pc = .ok (.iastore, 1))
    (kk : ∀ (H1 : Heap) (locs1 : List Loc), Md E A (sA σ r jn x) M H1 → va_S A H0 H1 locs1 → W p l e R s m args below meth c H1 locs1 cells slots Q (F0 m (pc + 1) ls rest)) : W p l e R s m args below meth c H locs cells slots Q (F0 m pc ls (.int x :: .int j :: .ref (M r) :: rest)) := by
  subst hjn
  exact mr_st hx hb hE hS hM hr.1 hr.2.1 (by rw [hr.2.2]; exact hj) hdg kk
theorem mr_put {own : String} {index k : Nat} {x : Int32} (hx : p.tables.exec = Jvm.exec) (hb : c.code = cc) (hown : s.vm.findClass own = some m.cls) (hu : ∀ w ∈ uw, w.before args s = true) (hE : evK E s) (hS : va_S A H0 H locs) (hM : Md E A σ M H) (hk : mscal k = true) (hk2 : k < 36) (hl : Cond.fieldLink own index "WeddingRegisterModel" (TX11 k).2.1 (TX11 k).2.2.1 ∈ uw) (hs : (TX11 k).1 = "WeddingRegisterModel") (hfin : (TX11 k).2.2.2 = false) (hty : tyX11 k = .int) (hdg : decode cc pc = .ok (.putfield index, 3))
    (kk : ∀ (H1 : Heap) (locs1 : List Loc), Md E A (sA σ k 0 x) M H1 → va_S A H0 H1 locs1 → W p l e R s m args below meth c H1 locs1 cells slots Q (F0 m (pc + 3) ls rest)) : W p l e R s m args below meth c H locs cells slots Q (F0 m pc ls (.int x :: .ref (M 0) :: rest)) :=
  wr_put hx hb hown hu hE ok12 hS (md_A hM 0 rfl) (md_obj hM) hk2 hl (Or.inl hs) hfin (by rw [hty]; rfl) (by rw [hty]; rfl) (by show k < 36; exact hk2) hdg (fun H1 locs1 h1 _ h3' h4 => kk H1 locs1 (md_put hM hk h1 h3') h4)
end MROWS
end
