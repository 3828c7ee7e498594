section
/-- a private method of a class that the tables say can be made, by its rows of tables_1 -/
def lw_okq (q : MethodName × Nat) : Prop := (q.1.cls ≠ "java/lang/invoke/MethodHandle" ∧ q.1.cls ≠ "java/lang/invoke/VarHandle") ∧ Cond.instantiable q.1.cls q.2 ∈ tables_1 ∧ Cond.privateMethod q.1 ∈ tables_1 ∧ Cond.instanceMethod q.1 ∈ tables_1
theorem lw_p0 : lw_okq (⟨"WingDoor$Text", "readToken", "()V"⟩, 7) := ⟨⟨by decide +kernel, by decide +kernel⟩, List.mem_of_getElem? (i := 27) (by decide +kernel), List.mem_of_getElem? (i := 297) (by decide +kernel), List.mem_of_getElem? (i := 298) (by decide +kernel)⟩
theorem lw_p1 : lw_okq (⟨"WingDoor$Text", "readDigits", "()V"⟩, 7) := ⟨⟨by decide +kernel, by decide +kernel⟩, List.mem_of_getElem? (i := 27) (by decide +kernel), List.mem_of_getElem? (i := 301) (by decide +kernel), List.mem_of_getElem? (i := 302) (by decide +kernel)⟩
theorem lw_p2 : lw_okq (⟨"WingDoor$Text", "readItem", "(LWingDoor$Plan;I)Z"⟩, 7) := ⟨⟨by decide +kernel, by decide +kernel⟩, List.mem_of_getElem? (i := 27) (by decide +kernel), List.mem_of_getElem? (i := 305) (by decide +kernel), List.mem_of_getElem? (i := 306) (by decide +kernel)⟩
theorem lw_p3 : lw_okq (⟨"WingDoor$Text", "readRooms", "(LWingDoor$Plan;)Z"⟩, 7) := ⟨⟨by decide +kernel, by decide +kernel⟩, List.mem_of_getElem? (i := 27) (by decide +kernel), List.mem_of_getElem? (i := 309) (by decide +kernel), List.mem_of_getElem? (i := 310) (by decide +kernel)⟩
theorem lw_p4 : lw_okq (⟨"WingDoor$Text", "readNumber", "(II)Z"⟩, 7) := ⟨⟨by decide +kernel, by decide +kernel⟩, List.mem_of_getElem? (i := 27) (by decide +kernel), List.mem_of_getElem? (i := 313) (by decide +kernel), List.mem_of_getElem? (i := 314) (by decide +kernel)⟩
theorem lw_p5 : lw_okq (⟨"WingDoor$Text", "readSemicolon", "()Z"⟩, 7) := ⟨⟨by decide +kernel, by decide +kernel⟩, List.mem_of_getElem? (i := 27) (by decide +kernel), List.mem_of_getElem? (i := 317) (by decide +kernel), List.mem_of_getElem? (i := 318) (by decide +kernel)⟩
theorem lw_p6 : lw_okq (⟨"WingDoor$Text", "readHard", "(LWingDoor$Plan;)Z"⟩, 7) := ⟨⟨by decide +kernel, by decide +kernel⟩, List.mem_of_getElem? (i := 27) (by decide +kernel), List.mem_of_getElem? (i := 321) (by decide +kernel), List.mem_of_getElem? (i := 322) (by decide +kernel)⟩
theorem lw_p7 : lw_okq (⟨"WingDoor$Text", "readSort", "(LWingDoor$Plan;)Z"⟩, 7) := ⟨⟨by decide +kernel, by decide +kernel⟩, List.mem_of_getElem? (i := 27) (by decide +kernel), List.mem_of_getElem? (i := 325) (by decide +kernel), List.mem_of_getElem? (i := 326) (by decide +kernel)⟩
theorem lw_p8 : lw_okq (⟨"WingDoor", "whenNow", "(I)I"⟩, 11) := ⟨⟨by decide +kernel, by decide +kernel⟩, List.mem_of_getElem? (i := 19) (by decide +kernel), List.mem_of_getElem? (i := 377) (by decide +kernel), List.mem_of_getElem? (i := 378) (by decide +kernel)⟩
theorem lw_p9 : lw_okq (⟨"WingDoor$Moment", "carry", "(I)Z"⟩, 8) := ⟨⟨by decide +kernel, by decide +kernel⟩, List.mem_of_getElem? (i := 97) (by decide +kernel), List.mem_of_getElem? (i := 417) (by decide +kernel), List.mem_of_getElem? (i := 418) (by decide +kernel)⟩
theorem lw_p10 : lw_okq (⟨"WingDoor$Moment", "fill", "()V"⟩, 8) := ⟨⟨by decide +kernel, by decide +kernel⟩, List.mem_of_getElem? (i := 97) (by decide +kernel), List.mem_of_getElem? (i := 429) (by decide +kernel), List.mem_of_getElem? (i := 430) (by decide +kernel)⟩
theorem lw_p11 : lw_okq (⟨"WingDoor", "sticksNow", "()I"⟩, 11) := ⟨⟨by decide +kernel, by decide +kernel⟩, List.mem_of_getElem? (i := 19) (by decide +kernel), List.mem_of_getElem? (i := 461) (by decide +kernel), List.mem_of_getElem? (i := 462) (by decide +kernel)⟩
theorem lw_p12 : lw_okq (⟨"WingDoor", "allNow", "()I"⟩, 11) := ⟨⟨by decide +kernel, by decide +kernel⟩, List.mem_of_getElem? (i := 19) (by decide +kernel), List.mem_of_getElem? (i := 469) (by decide +kernel), List.mem_of_getElem? (i := 470) (by decide +kernel)⟩
theorem lw_p13 : lw_okq (⟨"WingDoor", "bestHelper", "(IZ)I"⟩, 11) := ⟨⟨by decide +kernel, by decide +kernel⟩, List.mem_of_getElem? (i := 19) (by decide +kernel), List.mem_of_getElem? (i := 527) (by decide +kernel), List.mem_of_getElem? (i := 528) (by decide +kernel)⟩
theorem lw_p14 : lw_okq (⟨"WingDoor", "waysToGo", "(I)J"⟩, 11) := ⟨⟨by decide +kernel, by decide +kernel⟩, List.mem_of_getElem? (i := 19) (by decide +kernel), List.mem_of_getElem? (i := 540) (by decide +kernel), List.mem_of_getElem? (i := 541) (by decide +kernel)⟩
theorem lw_p15 : lw_okq (⟨"WingDoor", "addPusher", "(III)I"⟩, 11) := ⟨⟨by decide +kernel, by decide +kernel⟩, List.mem_of_getElem? (i := 19) (by decide +kernel), List.mem_of_getElem? (i := 551) (by decide +kernel), List.mem_of_getElem? (i := 552) (by decide +kernel)⟩
def lw_privs_1 : List (MethodName × Nat) := [(⟨"WingDoor$Text", "readToken", "()V"⟩, 7), (⟨"WingDoor$Text", "readDigits", "()V"⟩, 7), (⟨"WingDoor$Text", "readItem", "(LWingDoor$Plan;I)Z"⟩, 7), (⟨"WingDoor$Text", "readRooms", "(LWingDoor$Plan;)Z"⟩, 7), (⟨"WingDoor$Text", "readNumber", "(II)Z"⟩, 7), (⟨"WingDoor$Text", "readSemicolon", "()Z"⟩, 7), (⟨"WingDoor$Text", "readHard", "(LWingDoor$Plan;)Z"⟩, 7), (⟨"WingDoor$Text", "readSort", "(LWingDoor$Plan;)Z"⟩, 7), (⟨"WingDoor", "whenNow", "(I)I"⟩, 11), (⟨"WingDoor$Moment", "carry", "(I)Z"⟩, 8), (⟨"WingDoor$Moment", "fill", "()V"⟩, 8), (⟨"WingDoor", "sticksNow", "()I"⟩, 11), (⟨"WingDoor", "allNow", "()I"⟩, 11), (⟨"WingDoor", "bestHelper", "(IZ)I"⟩, 11), (⟨"WingDoor", "waysToGo", "(I)J"⟩, 11), (⟨"WingDoor", "addPusher", "(III)I"⟩, 11)]
theorem lw_r1 : ∀ q ∈ lw_privs_1, lw_okq q := List.forall_mem_cons.mpr ⟨lw_p0, List.forall_mem_cons.mpr ⟨lw_p1, List.forall_mem_cons.mpr ⟨lw_p2, List.forall_mem_cons.mpr ⟨lw_p3, List.forall_mem_cons.mpr ⟨lw_p4, List.forall_mem_cons.mpr ⟨lw_p5, List.forall_mem_cons.mpr ⟨lw_p6, List.forall_mem_cons.mpr ⟨lw_p7, List.forall_mem_cons.mpr ⟨lw_p8, List.forall_mem_cons.mpr ⟨lw_p9, List.forall_mem_cons.mpr ⟨lw_p10, List.forall_mem_cons.mpr ⟨lw_p11, List.forall_mem_cons.mpr ⟨lw_p12, List.forall_mem_cons.mpr ⟨lw_p13, List.forall_mem_cons.mpr ⟨lw_p14, List.forall_mem_cons.mpr ⟨lw_p15, fun _ h => absurd h List.not_mem_nil⟩⟩⟩⟩⟩⟩⟩⟩⟩⟩⟩⟩⟩⟩⟩⟩
theorem lw_p16 : lw_okq (⟨"WingDoor$Sightings", "allIsSoOf", "(I)Z"⟩, 5) := ⟨⟨by decide +kernel, by decide +kernel⟩, List.mem_of_getElem? (i := 155) (by decide +kernel), List.mem_of_getElem? (i := 590) (by decide +kernel), List.mem_of_getElem? (i := 591) (by decide +kernel)⟩
theorem lw_p17 : lw_okq (⟨"WingDoorModel", "reads", "()I"⟩, 27) := ⟨⟨by decide +kernel, by decide +kernel⟩, List.mem_of_getElem? (i := 670) (by decide +kernel), List.mem_of_getElem? (i := 774) (by decide +kernel), List.mem_of_getElem? (i := 775) (by decide +kernel)⟩
theorem lw_p18 : lw_okq (⟨"WingDoorModel", "nextToken", "()V"⟩, 27) := ⟨⟨by decide +kernel, by decide +kernel⟩, List.mem_of_getElem? (i := 670) (by decide +kernel), List.mem_of_getElem? (i := 778) (by decide +kernel), List.mem_of_getElem? (i := 779) (by decide +kernel)⟩
theorem lw_p19 : lw_okq (⟨"WingDoorModel", "here", "()I"⟩, 27) := ⟨⟨by decide +kernel, by decide +kernel⟩, List.mem_of_getElem? (i := 670) (by decide +kernel), List.mem_of_getElem? (i := 782) (by decide +kernel), List.mem_of_getElem? (i := 783) (by decide +kernel)⟩
theorem lw_p20 : lw_okq (⟨"WingDoorModel", "isFigure", "()Z"⟩, 27) := ⟨⟨by decide +kernel, by decide +kernel⟩, List.mem_of_getElem? (i := 670) (by decide +kernel), List.mem_of_getElem? (i := 786) (by decide +kernel), List.mem_of_getElem? (i := 787) (by decide +kernel)⟩
theorem lw_p21 : lw_okq (⟨"WingDoorModel", "readsFigures", "()V"⟩, 27) := ⟨⟨by decide +kernel, by decide +kernel⟩, List.mem_of_getElem? (i := 670) (by decide +kernel), List.mem_of_getElem? (i := 792) (by decide +kernel), List.mem_of_getElem? (i := 793) (by decide +kernel)⟩
theorem lw_p22 : lw_okq (⟨"WingDoorModel", "isItem", "(I)Z"⟩, 27) := ⟨⟨by decide +kernel, by decide +kernel⟩, List.mem_of_getElem? (i := 670) (by decide +kernel), List.mem_of_getElem? (i := 796) (by decide +kernel), List.mem_of_getElem? (i := 797) (by decide +kernel)⟩
theorem lw_p23 : lw_okq (⟨"WingDoorModel", "isRooms", "()Z"⟩, 27) := ⟨⟨by decide +kernel, by decide +kernel⟩, List.mem_of_getElem? (i := 670) (by decide +kernel), List.mem_of_getElem? (i := 800) (by decide +kernel), List.mem_of_getElem? (i := 801) (by decide +kernel)⟩
theorem lw_p24 : lw_okq (⟨"WingDoorModel", "number", "(II)Z"⟩, 27) := ⟨⟨by decide +kernel, by decide +kernel⟩, List.mem_of_getElem? (i := 670) (by decide +kernel), List.mem_of_getElem? (i := 804) (by decide +kernel), List.mem_of_getElem? (i := 805) (by decide +kernel)⟩
theorem lw_p25 : lw_okq (⟨"WingDoorModel", "isHard", "()Z"⟩, 27) := ⟨⟨by decide +kernel, by decide +kernel⟩, List.mem_of_getElem? (i := 670) (by decide +kernel), List.mem_of_getElem? (i := 808) (by decide +kernel), List.mem_of_getElem? (i := 809) (by decide +kernel)⟩
theorem lw_p26 : lw_okq (⟨"WingDoorModel", "isSort", "()Z"⟩, 27) := ⟨⟨by decide +kernel, by decide +kernel⟩, List.mem_of_getElem? (i := 670) (by decide +kernel), List.mem_of_getElem? (i := 812) (by decide +kernel), List.mem_of_getElem? (i := 813) (by decide +kernel)⟩
theorem lw_p27 : lw_okq (⟨"WingDoorModel", "isGoer", "(I)Z"⟩, 27) := ⟨⟨by decide +kernel, by decide +kernel⟩, List.mem_of_getElem? (i := 670) (by decide +kernel), List.mem_of_getElem? (i := 827) (by decide +kernel), List.mem_of_getElem? (i := 828) (by decide +kernel)⟩
theorem lw_p28 : lw_okq (⟨"WingDoorModel", "when", "(I)I"⟩, 27) := ⟨⟨by decide +kernel, by decide +kernel⟩, List.mem_of_getElem? (i := 670) (by decide +kernel), List.mem_of_getElem? (i := 834) (by decide +kernel), List.mem_of_getElem? (i := 835) (by decide +kernel)⟩
theorem lw_p29 : lw_okq (⟨"WingDoorModel", "layAside", "()V"⟩, 27) := ⟨⟨by decide +kernel, by decide +kernel⟩, List.mem_of_getElem? (i := 670) (by decide +kernel), List.mem_of_getElem? (i := 838) (by decide +kernel), List.mem_of_getElem? (i := 839) (by decide +kernel)⟩
theorem lw_p30 : lw_okq (⟨"WingDoorModel", "whenAside", "(I)I"⟩, 27) := ⟨⟨by decide +kernel, by decide +kernel⟩, List.mem_of_getElem? (i := 670) (by decide +kernel), List.mem_of_getElem? (i := 842) (by decide +kernel), List.mem_of_getElem? (i := 843) (by decide +kernel)⟩
theorem lw_p31 : lw_okq (⟨"WingDoorModel", "goes", "([I)I"⟩, 27) := ⟨⟨by decide +kernel, by decide +kernel⟩, List.mem_of_getElem? (i := 670) (by decide +kernel), List.mem_of_getElem? (i := 846) (by decide +kernel), List.mem_of_getElem? (i := 847) (by decide +kernel)⟩
def lw_privs_2 : List (MethodName × Nat) := [(⟨"WingDoor$Sightings", "allIsSoOf", "(I)Z"⟩, 5), (⟨"WingDoorModel", "reads", "()I"⟩, 27), (⟨"WingDoorModel", "nextToken", "()V"⟩, 27), (⟨"WingDoorModel", "here", "()I"⟩, 27), (⟨"WingDoorModel", "isFigure", "()Z"⟩, 27), (⟨"WingDoorModel", "readsFigures", "()V"⟩, 27), (⟨"WingDoorModel", "isItem", "(I)Z"⟩, 27), (⟨"WingDoorModel", "isRooms", "()Z"⟩, 27), (⟨"WingDoorModel", "number", "(II)Z"⟩, 27), (⟨"WingDoorModel", "isHard", "()Z"⟩, 27), (⟨"WingDoorModel", "isSort", "()Z"⟩, 27), (⟨"WingDoorModel", "isGoer", "(I)Z"⟩, 27), (⟨"WingDoorModel", "when", "(I)I"⟩, 27), (⟨"WingDoorModel", "layAside", "()V"⟩, 27), (⟨"WingDoorModel", "whenAside", "(I)I"⟩, 27), (⟨"WingDoorModel", "goes", "([I)I"⟩, 27)]
theorem lw_r2 : ∀ q ∈ lw_privs_2, lw_okq q := List.forall_mem_cons.mpr ⟨lw_p16, List.forall_mem_cons.mpr ⟨lw_p17, List.forall_mem_cons.mpr ⟨lw_p18, List.forall_mem_cons.mpr ⟨lw_p19, List.forall_mem_cons.mpr ⟨lw_p20, List.forall_mem_cons.mpr ⟨lw_p21, List.forall_mem_cons.mpr ⟨lw_p22, List.forall_mem_cons.mpr ⟨lw_p23, List.forall_mem_cons.mpr ⟨lw_p24, List.forall_mem_cons.mpr ⟨lw_p25, List.forall_mem_cons.mpr ⟨lw_p26, List.forall_mem_cons.mpr ⟨lw_p27, List.forall_mem_cons.mpr ⟨lw_p28, List.forall_mem_cons.mpr ⟨lw_p29, List.forall_mem_cons.mpr ⟨lw_p30, List.forall_mem_cons.mpr ⟨lw_p31, fun _ h => absurd h List.not_mem_nil⟩⟩⟩⟩⟩⟩⟩⟩⟩⟩⟩⟩⟩⟩⟩⟩
theorem lw_p32 : lw_okq (⟨"WingDoorModel", "sticksOn", "([I)Z"⟩, 27) := ⟨⟨by decide +kernel, by decide +kernel⟩, List.mem_of_getElem? (i := 670) (by decide +kernel), List.mem_of_getElem? (i := 850) (by decide +kernel), List.mem_of_getElem? (i := 851) (by decide +kernel)⟩
theorem lw_p33 : lw_okq (⟨"WingDoorModel", "loadOn", "([I)I"⟩, 27) := ⟨⟨by decide +kernel, by decide +kernel⟩, List.mem_of_getElem? (i := 670) (by decide +kernel), List.mem_of_getElem? (i := 857) (by decide +kernel), List.mem_of_getElem? (i := 858) (by decide +kernel)⟩
theorem lw_p34 : lw_okq (⟨"WingDoorModel", "dragOn", "([I)I"⟩, 27) := ⟨⟨by decide +kernel, by decide +kernel⟩, List.mem_of_getElem? (i := 670) (by decide +kernel), List.mem_of_getElem? (i := 861) (by decide +kernel), List.mem_of_getElem? (i := 862) (by decide +kernel)⟩
theorem lw_p35 : lw_okq (⟨"WingDoorModel", "placeOf", "(I)I"⟩, 27) := ⟨⟨by decide +kernel, by decide +kernel⟩, List.mem_of_getElem? (i := 670) (by decide +kernel), List.mem_of_getElem? (i := 868) (by decide +kernel), List.mem_of_getElem? (i := 869) (by decide +kernel)⟩
theorem lw_p36 : lw_okq (⟨"WingDoorModel", "fills", "([I)V"⟩, 27) := ⟨⟨by decide +kernel, by decide +kernel⟩, List.mem_of_getElem? (i := 670) (by decide +kernel), List.mem_of_getElem? (i := 872) (by decide +kernel), List.mem_of_getElem? (i := 873) (by decide +kernel)⟩
theorem lw_p37 : lw_okq (⟨"WingDoorModel", "bulkIn", "([II)I"⟩, 27) := ⟨⟨by decide +kernel, by decide +kernel⟩, List.mem_of_getElem? (i := 670) (by decide +kernel), List.mem_of_getElem? (i := 879) (by decide +kernel), List.mem_of_getElem? (i := 880) (by decide +kernel)⟩
theorem lw_p38 : lw_okq (⟨"WingDoorModel", "bulkOf", "([II)I"⟩, 27) := ⟨⟨by decide +kernel, by decide +kernel⟩, List.mem_of_getElem? (i := 670) (by decide +kernel), List.mem_of_getElem? (i := 889) (by decide +kernel), List.mem_of_getElem? (i := 890) (by decide +kernel)⟩
theorem lw_p39 : lw_okq (⟨"WingDoorModel", "sticksFirst", "()I"⟩, 27) := ⟨⟨by decide +kernel, by decide +kernel⟩, List.mem_of_getElem? (i := 670) (by decide +kernel), List.mem_of_getElem? (i := 904) (by decide +kernel), List.mem_of_getElem? (i := 905) (by decide +kernel)⟩
theorem lw_p40 : lw_okq (⟨"WingDoorModel", "allOut", "()I"⟩, 27) := ⟨⟨by decide +kernel, by decide +kernel⟩, List.mem_of_getElem? (i := 670) (by decide +kernel), List.mem_of_getElem? (i := 908) (by decide +kernel), List.mem_of_getElem? (i := 909) (by decide +kernel)⟩
theorem lw_p41 : lw_okq (⟨"WingDoorModel", "notes", "()V"⟩, 27) := ⟨⟨by decide +kernel, by decide +kernel⟩, List.mem_of_getElem? (i := 670) (by decide +kernel), List.mem_of_getElem? (i := 916) (by decide +kernel), List.mem_of_getElem? (i := 917) (by decide +kernel)⟩
theorem lw_p42 : lw_okq (⟨"WingDoorModel", "best", "(IZ)I"⟩, 27) := ⟨⟨by decide +kernel, by decide +kernel⟩, List.mem_of_getElem? (i := 670) (by decide +kernel), List.mem_of_getElem? (i := 946) (by decide +kernel), List.mem_of_getElem? (i := 947) (by decide +kernel)⟩
theorem lw_p43 : lw_okq (⟨"WingDoorModel", "of", "(II)I"⟩, 27) := ⟨⟨by decide +kernel, by decide +kernel⟩, List.mem_of_getElem? (i := 670) (by decide +kernel), List.mem_of_getElem? (i := 976) (by decide +kernel), List.mem_of_getElem? (i := 977) (by decide +kernel)⟩
theorem lw_p44 : lw_okq (⟨"WingDoorModel", "asDoor", "(I)I"⟩, 27) := ⟨⟨by decide +kernel, by decide +kernel⟩, List.mem_of_getElem? (i := 670) (by decide +kernel), List.mem_of_getElem? (i := 990) (by decide +kernel), List.mem_of_getElem? (i := 991) (by decide +kernel)⟩
theorem lw_p45 : lw_okq (⟨"WingDoorModel", "asBank", "(I)I"⟩, 27) := ⟨⟨by decide +kernel, by decide +kernel⟩, List.mem_of_getElem? (i := 670) (by decide +kernel), List.mem_of_getElem? (i := 994) (by decide +kernel), List.mem_of_getElem? (i := 995) (by decide +kernel)⟩
theorem lw_p46 : lw_okq (⟨"WingDoorModel", "asHotel", "(I)I"⟩, 27) := ⟨⟨by decide +kernel, by decide +kernel⟩, List.mem_of_getElem? (i := 670) (by decide +kernel), List.mem_of_getElem? (i := 998) (by decide +kernel), List.mem_of_getElem? (i := 999) (by decide +kernel)⟩
def lw_privs_3 : List (MethodName × Nat) := [(⟨"WingDoorModel", "sticksOn", "([I)Z"⟩, 27), (⟨"WingDoorModel", "loadOn", "([I)I"⟩, 27), (⟨"WingDoorModel", "dragOn", "([I)I"⟩, 27), (⟨"WingDoorModel", "placeOf", "(I)I"⟩, 27), (⟨"WingDoorModel", "fills", "([I)V"⟩, 27), (⟨"WingDoorModel", "bulkIn", "([II)I"⟩, 27), (⟨"WingDoorModel", "bulkOf", "([II)I"⟩, 27), (⟨"WingDoorModel", "sticksFirst", "()I"⟩, 27), (⟨"WingDoorModel", "allOut", "()I"⟩, 27), (⟨"WingDoorModel", "notes", "()V"⟩, 27), (⟨"WingDoorModel", "best", "(IZ)I"⟩, 27), (⟨"WingDoorModel", "of", "(II)I"⟩, 27), (⟨"WingDoorModel", "asDoor", "(I)I"⟩, 27), (⟨"WingDoorModel", "asBank", "(I)I"⟩, 27), (⟨"WingDoorModel", "asHotel", "(I)I"⟩, 27)]
theorem lw_r3 : ∀ q ∈ lw_privs_3, lw_okq q := List.forall_mem_cons.mpr ⟨lw_p32, List.forall_mem_cons.mpr ⟨lw_p33, List.forall_mem_cons.mpr ⟨lw_p34, List.forall_mem_cons.mpr ⟨lw_p35, List.forall_mem_cons.mpr ⟨lw_p36, List.forall_mem_cons.mpr ⟨lw_p37, List.forall_mem_cons.mpr ⟨lw_p38, List.forall_mem_cons.mpr ⟨lw_p39, List.forall_mem_cons.mpr ⟨lw_p40, List.forall_mem_cons.mpr ⟨lw_p41, List.forall_mem_cons.mpr ⟨lw_p42, List.forall_mem_cons.mpr ⟨lw_p43, List.forall_mem_cons.mpr ⟨lw_p44, List.forall_mem_cons.mpr ⟨lw_p45, List.forall_mem_cons.mpr ⟨lw_p46, fun _ h => absurd h List.not_mem_nil⟩⟩⟩⟩⟩⟩⟩⟩⟩⟩⟩⟩⟩⟩⟩
def lw_privs : List (MethodName × Nat) := lw_privs_1 ++ (lw_privs_2 ++ (lw_privs_3))
def lw_tbl : List Cond := k2_sels lw_privs ++ tables_1
theorem lw_privs_ok : ∀ q ∈ lw_privs, lw_okq q := by
  show ∀ q ∈ lw_privs_1 ++ (lw_privs_2 ++ (lw_privs_3)), lw_okq q
  exact List.forall_mem_append.mpr ⟨lw_r1, List.forall_mem_append.mpr ⟨lw_r2, lw_r3⟩⟩
end
section
def RX0 : String := "WingDoor$BankKind"
def TX0 : u_T := fun k => match k with
  | _ => ("WingDoor$DoorKind", "noted", "J", false)
def tyX0 : Nat → FieldType := fun k => match k with
  | _ => .long
abbrev wsX00 : List Cond := u_ws RX0 TX0 1
theorem nmX0 : ∀ a, a < 1 → ∀ b, b < 1 → a ≠ b → (TX0 a).2.1 ≠ (TX0 b).2.1 := by decide +kernel
theorem tyX0_ok : ∀ k, k < 1 → parseFieldDescriptor (TX0 k).2.2.1 = some (tyX0 k) := by decide +kernel
abbrev cX0_init : ByteArray := prog_2_method_1_code
def yX0_init : MethodName := ⟨RX0, "<init>", "()V"⟩
abbrev cX0_worth : ByteArray := prog_2_method_2_code
def yX0_worth : MethodName := ⟨RX0, "worth", "(LWingDoor$Moment;I)I"⟩
def RX1 : String := "WingDoor$CourtKind"
def TX1 : u_T := fun k => match k with
  | _ => ("WingDoor$DoorKind", "noted", "J", false)
def tyX1 : Nat → FieldType := fun k => match k with
  | _ => .long
abbrev wsX10 : List Cond := u_ws RX1 TX1 1
theorem nmX1 : ∀ a, a < 1 → ∀ b, b < 1 → a ≠ b → (TX1 a).2.1 ≠ (TX1 b).2.1 := by decide +kernel
theorem tyX1_ok : ∀ k, k < 1 → parseFieldDescriptor (TX1 k).2.2.1 = some (tyX1 k) := by decide +kernel
abbrev cX1_init : ByteArray := prog_3_method_1_code
def yX1_init : MethodName := ⟨RX1, "<init>", "()V"⟩
abbrev cX1_worth : ByteArray := prog_3_method_2_code
def yX1_worth : MethodName := ⟨RX1, "worth", "(LWingDoor$Moment;I)I"⟩
def RX2 : String := "WingDoor$DoorKind"
def TX2 : u_T := fun k => match k with
  | _ => ("WingDoor$DoorKind", "noted", "J", false)
def tyX2 : Nat → FieldType := fun k => match k with
  | _ => .long
abbrev wsX20 : List Cond := u_ws RX2 TX2 1
theorem nmX2 : ∀ a, a < 1 → ∀ b, b < 1 → a ≠ b → (TX2 a).2.1 ≠ (TX2 b).2.1 := by decide +kernel
theorem tyX2_ok : ∀ k, k < 1 → parseFieldDescriptor (TX2 k).2.2.1 = some (tyX2 k) := by decide +kernel
abbrev cX2_init : ByteArray := prog_4_method_1_code
def yX2_init : MethodName := ⟨RX2, "<init>", "()V"⟩
abbrev cX2_worth : ByteArray := prog_4_method_2_code
def yX2_worth : MethodName := ⟨RX2, "worth", "(LWingDoor$Moment;I)I"⟩
def RX3 : String := "WingDoor$GrandKind"
def TX3 : u_T := fun k => match k with
  | _ => ("WingDoor$DoorKind", "noted", "J", false)
def tyX3 : Nat → FieldType := fun k => match k with
  | _ => .long
abbrev wsX30 : List Cond := u_ws RX3 TX3 1
theorem nmX3 : ∀ a, a < 1 → ∀ b, b < 1 → a ≠ b → (TX3 a).2.1 ≠ (TX3 b).2.1 := by decide +kernel
theorem tyX3_ok : ∀ k, k < 1 → parseFieldDescriptor (TX3 k).2.2.1 = some (tyX3 k) := by decide +kernel
abbrev cX3_init : ByteArray := prog_5_method_1_code
def yX3_init : MethodName := ⟨RX3, "<init>", "()V"⟩
abbrev cX3_worth : ByteArray := prog_5_method_2_code
def yX3_worth : MethodName := ⟨RX3, "worth", "(LWingDoor$Moment;I)I"⟩
def RX4 : String := "WingDoor$HotelKind"
def TX4 : u_T := fun k => match k with
  | _ => ("WingDoor$DoorKind", "noted", "J", false)
def tyX4 : Nat → FieldType := fun k => match k with
  | _ => .long
abbrev wsX40 : List Cond := u_ws RX4 TX4 1
theorem nmX4 : ∀ a, a < 1 → ∀ b, b < 1 → a ≠ b → (TX4 a).2.1 ≠ (TX4 b).2.1 := by decide +kernel
theorem tyX4_ok : ∀ k, k < 1 → parseFieldDescriptor (TX4 k).2.2.1 = some (tyX4 k) := by decide +kernel
abbrev cX4_init : ByteArray := prog_6_method_1_code
def yX4_init : MethodName := ⟨RX4, "<init>", "()V"⟩
abbrev cX4_worth : ByteArray := prog_6_method_2_code
def yX4_worth : MethodName := ⟨RX4, "worth", "(LWingDoor$Moment;I)I"⟩
def RX5 : String := "WingDoor$Moment"
def TX5 : u_T := fun k => match k with
  | 0 => ("WingDoor$Moment", "plan", "LWingDoor$Plan;", true)
  | 1 => ("WingDoor$Moment", "step", "I", false)
  | 2 => ("WingDoor$Moment", "goers", "I", false)
  | 3 => ("WingDoor$Moment", "sortOf", "[I", true)
  | 4 => ("WingDoor$Moment", "sideOf", "[I", true)
  | 5 => ("WingDoor$Moment", "whereOf", "[I", true)
  | 6 => ("WingDoor$Moment", "placeOf", "[I", true)
  | _ => ("WingDoor$Moment", "turnOf", "[I", true)
def tyX5 : Nat → FieldType := fun k => match k with
  | 0 => .object "WingDoor$Plan"
  | 1 => .int
  | 2 => .int
  | 3 => .array .int
  | 4 => .array .int
  | 5 => .array .int
  | 6 => .array .int
  | _ => .array .int
abbrev wsX50 : List Cond := u_ws RX5 TX5 8
theorem nmX5 : ∀ a, a < 8 → ∀ b, b < 8 → a ≠ b → (TX5 a).2.1 ≠ (TX5 b).2.1 := by decide +kernel
theorem tyX5_ok : ∀ k, k < 8 → parseFieldDescriptor (TX5 k).2.2.1 = some (tyX5 k) := by decide +kernel
abbrev cX5_init : ByteArray := prog_7_method_1_code
def yX5_init : MethodName := ⟨RX5, "<init>", "(LWingDoor$Plan;)V"⟩
abbrev cX5_empty : ByteArray := prog_7_method_2_code
def yX5_empty : MethodName := ⟨RX5, "empty", "()V"⟩
abbrev cX5_copy : ByteArray := prog_7_method_3_code
def yX5_copy : MethodName := ⟨RX5, "copy", "(LWingDoor$Moment;)V"⟩
abbrev cX5_hasGoer : ByteArray := prog_7_method_4_code
def yX5_hasGoer : MethodName := ⟨RX5, "hasGoer", "(I)Z"⟩
abbrev cX5_bulkOf : ByteArray := prog_7_method_5_code
def yX5_bulkOf : MethodName := ⟨RX5, "bulkOf", "(I)I"⟩
abbrev cX5_pushOf : ByteArray := prog_7_method_6_code
def yX5_pushOf : MethodName := ⟨RX5, "pushOf", "(I)I"⟩
abbrev cX5_howManyOfSort : ByteArray := prog_7_method_7_code
def yX5_howManyOfSort : MethodName := ⟨RX5, "howManyOfSort", "(I)I"⟩
abbrev cX5_whoIs : ByteArray := prog_7_method_8_code
def yX5_whoIs : MethodName := ⟨RX5, "whoIs", "(I)I"⟩
abbrev cX5_howManyAre : ByteArray := prog_7_method_9_code
def yX5_howManyAre : MethodName := ⟨RX5, "howManyAre", "(I)I"⟩
abbrev cX5_whoIsInRoomAt : ByteArray := prog_7_method_10_code
def yX5_whoIsInRoomAt : MethodName := ⟨RX5, "whoIsInRoomAt", "(I)I"⟩
abbrev cX5_bulkInRoomAt : ByteArray := prog_7_method_11_code
def yX5_bulkInRoomAt : MethodName := ⟨RX5, "bulkInRoomAt", "(I)I"⟩
abbrev cX5_load : ByteArray := prog_7_method_12_code
def yX5_load : MethodName := ⟨RX5, "load", "()I"⟩
abbrev cX5_drag : ByteArray := prog_7_method_13_code
def yX5_drag : MethodName := ⟨RX5, "drag", "()I"⟩
abbrev cX5_sticks : ByteArray := prog_7_method_14_code
def yX5_sticks : MethodName := ⟨RX5, "sticks", "()Z"⟩
abbrev cX5_firstOn : ByteArray := prog_7_method_15_code
def yX5_firstOn : MethodName := ⟨RX5, "firstOn", "(I)I"⟩
abbrev cX5_howManyAheadOf : ByteArray := prog_7_method_16_code
def yX5_howManyAheadOf : MethodName := ⟨RX5, "howManyAheadOf", "(I)I"⟩
abbrev cX5_letCome : ByteArray := prog_7_method_17_code
def yX5_letCome : MethodName := ⟨RX5, "letCome", "(II)I"⟩
abbrev cX5_giveUp : ByteArray := prog_7_method_18_code
def yX5_giveUp : MethodName := ⟨RX5, "giveUp", "(I)V"⟩
abbrev cX5_letAhead : ByteArray := prog_7_method_19_code
def yX5_letAhead : MethodName := ⟨RX5, "letAhead", "(I)V"⟩
abbrev cX5_turn : ByteArray := prog_7_method_20_code
def yX5_turn : MethodName := ⟨RX5, "turn", "()I"⟩
abbrev cX5_carry : ByteArray := prog_7_method_21_code
def yX5_carry : MethodName := ⟨RX5, "carry", "(I)Z"⟩
abbrev cX5_fill : ByteArray := prog_7_method_22_code
def yX5_fill : MethodName := ⟨RX5, "fill", "()V"⟩
abbrev cX5_runUntilThrough : ByteArray := prog_7_method_23_code
def yX5_runUntilThrough : MethodName := ⟨RX5, "runUntilThrough", "(I)I"⟩
abbrev cX5_runUntilItSticks : ByteArray := prog_7_method_24_code
def yX5_runUntilItSticks : MethodName := ⟨RX5, "runUntilItSticks", "()I"⟩
abbrev cX5_runUntilEmpty : ByteArray := prog_7_method_25_code
def yX5_runUntilEmpty : MethodName := ⟨RX5, "runUntilEmpty", "()I"⟩
def RX6 : String := "WingDoor$Past"
def TX6 : u_T := fun k => match k with
  | 0 => ("WingDoor$Past", "moments", "[LWingDoor$Moment;", true)
  | 1 => ("WingDoor$Past", "oldest", "I", false)
  | _ => ("WingDoor$Past", "size", "I", false)
def tyX6 : Nat → FieldType := fun k => match k with
  | 0 => .array (.object "WingDoor$Moment")
  | 1 => .int
  | _ => .int
abbrev wsX60 : List Cond := u_ws RX6 TX6 3
theorem nmX6 : ∀ a, a < 3 → ∀ b, b < 3 → a ≠ b → (TX6 a).2.1 ≠ (TX6 b).2.1 := by decide +kernel
theorem tyX6_ok : ∀ k, k < 3 → parseFieldDescriptor (TX6 k).2.2.1 = some (tyX6 k) := by decide +kernel
abbrev cX6_init : ByteArray := prog_8_method_1_code
def yX6_init : MethodName := ⟨RX6, "<init>", "(LWingDoor$Plan;)V"⟩
abbrev cX6_remember : ByteArray := prog_8_method_2_code
def yX6_remember : MethodName := ⟨RX6, "remember", "(LWingDoor$Moment;)V"⟩
abbrev cX6_recall : ByteArray := prog_8_method_3_code
def yX6_recall : MethodName := ⟨RX6, "recall", "(LWingDoor$Moment;)V"⟩
def RX7 : String := "WingDoor$Plan"
def TX7 : u_T := fun k => match k with
  | 0 => ("WingDoor$Plan", "rooms", "I", false)
  | 1 => ("WingDoor$Plan", "wide", "I", false)
  | 2 => ("WingDoor$Plan", "hard", "I", false)
  | 3 => ("WingDoor$Plan", "sorts", "I", false)
  | 4 => ("WingDoor$Plan", "bulk", "[I", true)
  | _ => ("WingDoor$Plan", "push", "[I", true)
def tyX7 : Nat → FieldType := fun k => match k with
  | 0 => .int
  | 1 => .int
  | 2 => .int
  | 3 => .int
  | 4 => .array .int
  | _ => .array .int
abbrev wsX70 : List Cond := u_ws RX7 TX7 6
theorem nmX7 : ∀ a, a < 6 → ∀ b, b < 6 → a ≠ b → (TX7 a).2.1 ≠ (TX7 b).2.1 := by decide +kernel
theorem tyX7_ok : ∀ k, k < 6 → parseFieldDescriptor (TX7 k).2.2.1 = some (tyX7 k) := by decide +kernel
abbrev cX7_init : ByteArray := prog_9_method_1_code
def yX7_init : MethodName := ⟨RX7, "<init>", "()V"⟩
abbrev cX7_setFirst : ByteArray := prog_9_method_2_code
def yX7_setFirst : MethodName := ⟨RX7, "setFirst", "()V"⟩
abbrev cX7_copy : ByteArray := prog_9_method_3_code
def yX7_copy : MethodName := ⟨RX7, "copy", "(LWingDoor$Plan;)V"⟩
abbrev cX7_addSort : ByteArray := prog_9_method_4_code
def yX7_addSort : MethodName := ⟨RX7, "addSort", "(II)V"⟩
abbrev cX7_hasSort : ByteArray := prog_9_method_5_code
def yX7_hasSort : MethodName := ⟨RX7, "hasSort", "(I)Z"⟩
abbrev cX7_bulkOf : ByteArray := prog_9_method_6_code
def yX7_bulkOf : MethodName := ⟨RX7, "bulkOf", "(I)I"⟩
abbrev cX7_pushOf : ByteArray := prog_9_method_7_code
def yX7_pushOf : MethodName := ⟨RX7, "pushOf", "(I)I"⟩
abbrev cX7_isAtMost : ByteArray := prog_9_method_8_code
def yX7_isAtMost : MethodName := ⟨RX7, "isAtMost", "(III)Z"⟩
abbrev cX7_howManyAtMost : ByteArray := prog_9_method_9_code
def yX7_howManyAtMost : MethodName := ⟨RX7, "howManyAtMost", "(III)I"⟩
abbrev cX7_placeOfSide : ByteArray := prog_9_method_10_code
def yX7_placeOfSide : MethodName := ⟨RX7, "placeOfSide", "(I)I"⟩
abbrev cX7_placeBehind : ByteArray := prog_9_method_11_code
def yX7_placeBehind : MethodName := ⟨RX7, "placeBehind", "(I)I"⟩
def RX8 : String := "WingDoor$Sightings"
def TX8 : u_T := fun k => match k with
  | 0 => ("WingDoor$Sightings", "plan", "LWingDoor$Plan;", true)
  | 1 => ("WingDoor$Sightings", "what", "[I", true)
  | 2 => ("WingDoor$Sightings", "bound", "[I", true)
  | 3 => ("WingDoor$Sightings", "most", "[I", true)
  | _ => ("WingDoor$Sightings", "size", "I", false)
def tyX8 : Nat → FieldType := fun k => match k with
  | 0 => .object "WingDoor$Plan"
  | 1 => .array .int
  | 2 => .array .int
  | 3 => .array .int
  | _ => .int
abbrev wsX80 : List Cond := u_ws RX8 TX8 5
theorem nmX8 : ∀ a, a < 5 → ∀ b, b < 5 → a ≠ b → (TX8 a).2.1 ≠ (TX8 b).2.1 := by decide +kernel
theorem tyX8_ok : ∀ k, k < 5 → parseFieldDescriptor (TX8 k).2.2.1 = some (tyX8 k) := by decide +kernel
abbrev cX8_init : ByteArray := prog_10_method_1_code
def yX8_init : MethodName := ⟨RX8, "<init>", "(LWingDoor$Plan;)V"⟩
abbrev cX8_add : ByteArray := prog_10_method_2_code
def yX8_add : MethodName := ⟨RX8, "add", "(III)Z"⟩
abbrev cX8_possibleSorts : ByteArray := prog_10_method_3_code
def yX8_possibleSorts : MethodName := ⟨RX8, "possibleSorts", "()I"⟩
abbrev cX8_allIsSoOf : ByteArray := prog_10_method_4_code
def yX8_allIsSoOf : MethodName := ⟨RX8, "allIsSoOf", "(I)Z"⟩
def RX9 : String := "WingDoor$StoreKind"
def TX9 : u_T := fun k => match k with
  | _ => ("WingDoor$DoorKind", "noted", "J", false)
def tyX9 : Nat → FieldType := fun k => match k with
  | _ => .long
abbrev wsX90 : List Cond := u_ws RX9 TX9 1
theorem nmX9 : ∀ a, a < 1 → ∀ b, b < 1 → a ≠ b → (TX9 a).2.1 ≠ (TX9 b).2.1 := by decide +kernel
theorem tyX9_ok : ∀ k, k < 1 → parseFieldDescriptor (TX9 k).2.2.1 = some (tyX9 k) := by decide +kernel
abbrev cX9_init : ByteArray := prog_11_method_1_code
def yX9_init : MethodName := ⟨RX9, "<init>", "()V"⟩
abbrev cX9_worth : ByteArray := prog_11_method_2_code
def yX9_worth : MethodName := ⟨RX9, "worth", "(LWingDoor$Moment;I)I"⟩
def RX10 : String := "WingDoor$Text"
def TX10 : u_T := fun k => match k with
  | 0 => ("WingDoor$Text", "letters", "[I", true)
  | 1 => ("WingDoor$Text", "length", "I", false)
  | 2 => ("WingDoor$Text", "at", "I", false)
  | 3 => ("WingDoor$Text", "token", "I", false)
  | 4 => ("WingDoor$Text", "tokenAt", "I", false)
  | 5 => ("WingDoor$Text", "number", "I", false)
  | _ => ("WingDoor$Text", "hardIsTold", "Z", false)
def tyX10 : Nat → FieldType := fun k => match k with
  | 0 => .array .int
  | 1 => .int
  | 2 => .int
  | 3 => .int
  | 4 => .int
  | 5 => .int
  | _ => .boolean
abbrev wsX100 : List Cond := u_ws RX10 TX10 7
theorem nmX10 : ∀ a, a < 7 → ∀ b, b < 7 → a ≠ b → (TX10 a).2.1 ≠ (TX10 b).2.1 := by decide +kernel
theorem tyX10_ok : ∀ k, k < 7 → parseFieldDescriptor (TX10 k).2.2.1 = some (tyX10 k) := by decide +kernel
abbrev cX10_init : ByteArray := prog_12_method_1_code
def yX10_init : MethodName := ⟨RX10, "<init>", "()V"⟩
abbrev cX10_add : ByteArray := prog_12_method_2_code
def yX10_add : MethodName := ⟨RX10, "add", "(I)Z"⟩
abbrev cX10_tellTo : ByteArray := prog_12_method_3_code
def yX10_tellTo : MethodName := ⟨RX10, "tellTo", "(LWingDoor$Plan;)I"⟩
abbrev cX10_readItem : ByteArray := prog_12_method_4_code
def yX10_readItem : MethodName := ⟨RX10, "readItem", "(LWingDoor$Plan;I)Z"⟩
abbrev cX10_readRooms : ByteArray := prog_12_method_5_code
def yX10_readRooms : MethodName := ⟨RX10, "readRooms", "(LWingDoor$Plan;)Z"⟩
abbrev cX10_readHard : ByteArray := prog_12_method_6_code
def yX10_readHard : MethodName := ⟨RX10, "readHard", "(LWingDoor$Plan;)Z"⟩
abbrev cX10_readSort : ByteArray := prog_12_method_7_code
def yX10_readSort : MethodName := ⟨RX10, "readSort", "(LWingDoor$Plan;)Z"⟩
abbrev cX10_readNumber : ByteArray := prog_12_method_8_code
def yX10_readNumber : MethodName := ⟨RX10, "readNumber", "(II)Z"⟩
abbrev cX10_readSemicolon : ByteArray := prog_12_method_9_code
def yX10_readSemicolon : MethodName := ⟨RX10, "readSemicolon", "()Z"⟩
abbrev cX10_readToken : ByteArray := prog_12_method_10_code
def yX10_readToken : MethodName := ⟨RX10, "readToken", "()V"⟩
abbrev cX10_readDigits : ByteArray := prog_12_method_11_code
def yX10_readDigits : MethodName := ⟨RX10, "readDigits", "()V"⟩
def RX11 : String := "WingDoor"
def TX11 : u_T := fun k => match k with
  | 0 => ("WingDoor", "text", "LWingDoor$Text;", true)
  | 1 => ("WingDoor", "plan", "LWingDoor$Plan;", true)
  | 2 => ("WingDoor", "draft", "LWingDoor$Plan;", true)
  | 3 => ("WingDoor", "state", "LWingDoor$Moment;", true)
  | 4 => ("WingDoor", "trial", "LWingDoor$Moment;", true)
  | 5 => ("WingDoor", "past", "LWingDoor$Past;", true)
  | 6 => ("WingDoor", "images", "[LWingDoor$Moment;", true)
  | 7 => ("WingDoor", "imageKept", "[Z", true)
  | 8 => ("WingDoor", "sightings", "LWingDoor$Sightings;", true)
  | 9 => ("WingDoor", "ways", "[J", true)
  | _ => ("WingDoor", "kinds", "[LWingDoor$DoorKind;", true)
def tyX11 : Nat → FieldType := fun k => match k with
  | 0 => .object "WingDoor$Text"
  | 1 => .object "WingDoor$Plan"
  | 2 => .object "WingDoor$Plan"
  | 3 => .object "WingDoor$Moment"
  | 4 => .object "WingDoor$Moment"
  | 5 => .object "WingDoor$Past"
  | 6 => .array (.object "WingDoor$Moment")
  | 7 => .array .boolean
  | 8 => .object "WingDoor$Sightings"
  | 9 => .array .long
  | _ => .array (.object "WingDoor$DoorKind")
abbrev wsX110 : List Cond := u_ws RX11 TX11 11
theorem nmX11 : ∀ a, a < 11 → ∀ b, b < 11 → a ≠ b → (TX11 a).2.1 ≠ (TX11 b).2.1 := by decide +kernel
theorem tyX11_ok : ∀ k, k < 11 → parseFieldDescriptor (TX11 k).2.2.1 = some (tyX11 k) := by decide +kernel
abbrev cX11_init : ByteArray := prog_1_method_1_code
def yX11_init : MethodName := ⟨RX11, "<init>", "()V"⟩
abbrev cX11_type : ByteArray := prog_1_method_2_code
def yX11_type : MethodName := ⟨RX11, "type", "(I)I"⟩
abbrev cX11_clear : ByteArray := prog_1_method_3_code
def yX11_clear : MethodName := ⟨RX11, "clear", "()I"⟩
abbrev cX11_door : ByteArray := prog_1_method_4_code
def yX11_door : MethodName := ⟨RX11, "door", "()I"⟩
abbrev cX11_sort : ByteArray := prog_1_method_5_code
def yX11_sort : MethodName := ⟨RX11, "sort", "(II)I"⟩
abbrev cX11_goer : ByteArray := prog_1_method_6_code
def yX11_goer : MethodName := ⟨RX11, "goer", "(II)I"⟩
abbrev cX11_room : ByteArray := prog_1_method_7_code
def yX11_room : MethodName := ⟨RX11, "room", "(II)I"⟩
abbrev cX11_now : ByteArray := prog_1_method_8_code
def yX11_now : MethodName := ⟨RX11, "now", "(I)I"⟩
abbrev cX11_comes : ByteArray := prog_1_method_9_code
def yX11_comes : MethodName := ⟨RX11, "comes", "(II)I"⟩
abbrev cX11_steps : ByteArray := prog_1_method_10_code
def yX11_steps : MethodName := ⟨RX11, "steps", "()I"⟩
abbrev cX11_leaves : ByteArray := prog_1_method_11_code
def yX11_leaves : MethodName := ⟨RX11, "leaves", "(I)I"⟩
abbrev cX11_lets : ByteArray := prog_1_method_12_code
def yX11_lets : MethodName := ⟨RX11, "lets", "(I)I"⟩
abbrev cX11_undo : ByteArray := prog_1_method_13_code
def yX11_undo : MethodName := ⟨RX11, "undo", "()I"⟩
abbrev cX11_spare : ByteArray := prog_1_method_14_code
def yX11_spare : MethodName := ⟨RX11, "spare", "(I)I"⟩
abbrev cX11_ahead : ByteArray := prog_1_method_15_code
def yX11_ahead : MethodName := ⟨RX11, "ahead", "(I)I"⟩
abbrev cX11_odds : ByteArray := prog_1_method_16_code
def yX11_odds : MethodName := ⟨RX11, "odds", "(II)I"⟩
abbrev cX11_sees : ByteArray := prog_1_method_17_code
def yX11_sees : MethodName := ⟨RX11, "sees", "(III)I"⟩
abbrev cX11_forget : ByteArray := prog_1_method_18_code
def yX11_forget : MethodName := ⟨RX11, "forget", "()I"⟩
abbrev cX11_which : ByteArray := prog_1_method_19_code
def yX11_which : MethodName := ⟨RX11, "which", "()I"⟩
abbrev cX11_look : ByteArray := prog_1_method_20_code
def yX11_look : MethodName := ⟨RX11, "look", "(I)I"⟩
abbrev cX11_rate : ByteArray := prog_1_method_21_code
def yX11_rate : MethodName := ⟨RX11, "rate", "(II)I"⟩
abbrev cX11_keep : ByteArray := prog_1_method_22_code
def yX11_keep : MethodName := ⟨RX11, "keep", "(I)I"⟩
abbrev cX11_back : ByteArray := prog_1_method_23_code
def yX11_back : MethodName := ⟨RX11, "back", "(I)I"⟩
abbrev cX11_count : ByteArray := prog_1_method_24_code
def yX11_count : MethodName := ⟨RX11, "count", "(I)I"⟩
abbrev cX11_trace : ByteArray := prog_1_method_25_code
def yX11_trace : MethodName := ⟨RX11, "trace", "()J"⟩
abbrev cX11_orNone : ByteArray := prog_1_method_26_code
def yX11_orNone : MethodName := ⟨RX11, "orNone", "(I)I"⟩
abbrev cX11_whenNow : ByteArray := prog_1_method_27_code
def yX11_whenNow : MethodName := ⟨RX11, "whenNow", "(I)I"⟩
abbrev cX11_sticksNow : ByteArray := prog_1_method_28_code
def yX11_sticksNow : MethodName := ⟨RX11, "sticksNow", "()I"⟩
abbrev cX11_allNow : ByteArray := prog_1_method_29_code
def yX11_allNow : MethodName := ⟨RX11, "allNow", "()I"⟩
abbrev cX11_bestHelper : ByteArray := prog_1_method_30_code
def yX11_bestHelper : MethodName := ⟨RX11, "bestHelper", "(IZ)I"⟩
abbrev cX11_waysToGo : ByteArray := prog_1_method_31_code
def yX11_waysToGo : MethodName := ⟨RX11, "waysToGo", "(I)J"⟩
abbrev cX11_addPusher : ByteArray := prog_1_method_32_code
def yX11_addPusher : MethodName := ⟨RX11, "addPusher", "(III)I"⟩
abbrev cX11_greatestDivisor : ByteArray := prog_1_method_33_code
def yX11_greatestDivisor : MethodName := ⟨RX11, "greatestDivisor", "(JJ)J"⟩
abbrev cX11_leastOf : ByteArray := prog_1_method_34_code
def yX11_leastOf : MethodName := ⟨RX11, "leastOf", "(I)I"⟩
abbrev cX11_mostOf : ByteArray := prog_1_method_35_code
def yX11_mostOf : MethodName := ⟨RX11, "mostOf", "(I)I"⟩
def RX12 : String := "WingDoorModel"
def TX12 : u_T := fun k => match k with
  | 0 => ("WingDoorModel", "rooms", "I", false)
  | 1 => ("WingDoorModel", "wide", "I", false)
  | 2 => ("WingDoorModel", "hard", "I", false)
  | 3 => ("WingDoorModel", "sorts", "I", false)
  | 4 => ("WingDoorModel", "bulk", "[I", true)
  | 5 => ("WingDoorModel", "push", "[I", true)
  | 6 => ("WingDoorModel", "now", "[I", true)
  | 7 => ("WingDoorModel", "aside", "[I", true)
  | 8 => ("WingDoorModel", "past", "[I", true)
  | 9 => ("WingDoorModel", "undos", "I", false)
  | 10 => ("WingDoorModel", "images", "[I", true)
  | 11 => ("WingDoorModel", "isKept", "[Z", true)
  | 12 => ("WingDoorModel", "seen", "[I", true)
  | 13 => ("WingDoorModel", "seenMany", "I", false)
  | 14 => ("WingDoorModel", "trace", "J", false)
  | 15 => ("WingDoorModel", "text", "[I", true)
  | 16 => ("WingDoorModel", "typed", "I", false)
  | 17 => ("WingDoorModel", "at", "I", false)
  | 18 => ("WingDoorModel", "begin", "I", false)
  | 19 => ("WingDoorModel", "token", "I", false)
  | 20 => ("WingDoorModel", "value", "I", false)
  | 21 => ("WingDoorModel", "readRooms", "I", false)
  | 22 => ("WingDoorModel", "readWide", "I", false)
  | 23 => ("WingDoorModel", "readHard", "I", false)
  | 24 => ("WingDoorModel", "readSorts", "I", false)
  | 25 => ("WingDoorModel", "readBulk", "[I", true)
  | _ => ("WingDoorModel", "readPush", "[I", true)
def tyX12 : Nat → FieldType := fun k => match k with
  | 0 => .int
  | 1 => .int
  | 2 => .int
  | 3 => .int
  | 4 => .array .int
  | 5 => .array .int
  | 6 => .array .int
  | 7 => .array .int
  | 8 => .array .int
  | 9 => .int
  | 10 => .array .int
  | 11 => .array .boolean
  | 12 => .array .int
  | 13 => .int
  | 14 => .long
  | 15 => .array .int
  | 16 => .int
  | 17 => .int
  | 18 => .int
  | 19 => .int
  | 20 => .int
  | 21 => .int
  | 22 => .int
  | 23 => .int
  | 24 => .int
  | 25 => .array .int
  | _ => .array .int
abbrev wsX120 : List Cond := u_ws RX12 TX12 27
theorem nmX12 : ∀ a, a < 27 → ∀ b, b < 27 → a ≠ b → (TX12 a).2.1 ≠ (TX12 b).2.1 := by decide +kernel
theorem tyX12_ok : ∀ k, k < 27 → parseFieldDescriptor (TX12 k).2.2.1 = some (tyX12 k) := by decide +kernel
abbrev cX12_init : ByteArray := prog_14_method_1_code
def yX12_init : MethodName := ⟨RX12, "<init>", "()V"⟩
abbrev cX12_in : ByteArray := prog_14_method_3_code
def yX12_in : MethodName := ⟨RX12, "in", "(JJJ)Z"⟩
abbrev cX12_has : ByteArray := prog_14_method_4_code
def yX12_has : MethodName := ⟨RX12, "has", "(II)Z"⟩
abbrev cX12_bits : ByteArray := prog_14_method_5_code
def yX12_bits : MethodName := ⟨RX12, "bits", "(I)I"⟩
abbrev cX12_copies : ByteArray := prog_14_method_6_code
def yX12_copies : MethodName := ⟨RX12, "copies", "([II[III)V"⟩
abbrev cX12_type : ByteArray := prog_14_method_7_code
def yX12_type : MethodName := ⟨RX12, "type", "(I)I"⟩
abbrev cX12_clear : ByteArray := prog_14_method_8_code
def yX12_clear : MethodName := ⟨RX12, "clear", "()I"⟩
abbrev cX12_here : ByteArray := prog_14_method_9_code
def yX12_here : MethodName := ⟨RX12, "here", "()I"⟩
abbrev cX12_isFigure : ByteArray := prog_14_method_10_code
def yX12_isFigure : MethodName := ⟨RX12, "isFigure", "()Z"⟩
abbrev cX12_nextToken : ByteArray := prog_14_method_11_code
def yX12_nextToken : MethodName := ⟨RX12, "nextToken", "()V"⟩
abbrev cX12_readsFigures : ByteArray := prog_14_method_12_code
def yX12_readsFigures : MethodName := ⟨RX12, "readsFigures", "()V"⟩
abbrev cX12_number : ByteArray := prog_14_method_13_code
def yX12_number : MethodName := ⟨RX12, "number", "(II)Z"⟩
abbrev cX12_isRooms : ByteArray := prog_14_method_14_code
def yX12_isRooms : MethodName := ⟨RX12, "isRooms", "()Z"⟩
abbrev cX12_isHard : ByteArray := prog_14_method_15_code
def yX12_isHard : MethodName := ⟨RX12, "isHard", "()Z"⟩
abbrev cX12_isSort : ByteArray := prog_14_method_16_code
def yX12_isSort : MethodName := ⟨RX12, "isSort", "()Z"⟩
abbrev cX12_isItem : ByteArray := prog_14_method_17_code
def yX12_isItem : MethodName := ⟨RX12, "isItem", "(I)Z"⟩
abbrev cX12_reads : ByteArray := prog_14_method_18_code
def yX12_reads : MethodName := ⟨RX12, "reads", "()I"⟩
abbrev cX12_door : ByteArray := prog_14_method_19_code
def yX12_door : MethodName := ⟨RX12, "door", "()I"⟩
abbrev cX12_isBit : ByteArray := prog_14_method_20_code
def yX12_isBit : MethodName := ⟨RX12, "isBit", "(I)Z"⟩
abbrev cX12_isGoer : ByteArray := prog_14_method_21_code
def yX12_isGoer : MethodName := ⟨RX12, "isGoer", "(I)Z"⟩
abbrev cX12_bulkOf : ByteArray := prog_14_method_22_code
def yX12_bulkOf : MethodName := ⟨RX12, "bulkOf", "([II)I"⟩
abbrev cX12_those : ByteArray := prog_14_method_23_code
def yX12_those : MethodName := ⟨RX12, "those", "([II)I"⟩
abbrev cX12_inRoom : ByteArray := prog_14_method_24_code
def yX12_inRoom : MethodName := ⟨RX12, "inRoom", "([II)I"⟩
abbrev cX12_bulkIn : ByteArray := prog_14_method_25_code
def yX12_bulkIn : MethodName := ⟨RX12, "bulkIn", "([II)I"⟩
abbrev cX12_firstOn : ByteArray := prog_14_method_26_code
def yX12_firstOn : MethodName := ⟨RX12, "firstOn", "([II)I"⟩
abbrev cX12_placeOf : ByteArray := prog_14_method_27_code
def yX12_placeOf : MethodName := ⟨RX12, "placeOf", "(I)I"⟩
abbrev cX12_fills : ByteArray := prog_14_method_28_code
def yX12_fills : MethodName := ⟨RX12, "fills", "([I)V"⟩
abbrev cX12_loadOn : ByteArray := prog_14_method_29_code
def yX12_loadOn : MethodName := ⟨RX12, "loadOn", "([I)I"⟩
abbrev cX12_dragOn : ByteArray := prog_14_method_30_code
def yX12_dragOn : MethodName := ⟨RX12, "dragOn", "([I)I"⟩
abbrev cX12_sticksOn : ByteArray := prog_14_method_31_code
def yX12_sticksOn : MethodName := ⟨RX12, "sticksOn", "([I)Z"⟩
abbrev cX12_goes : ByteArray := prog_14_method_32_code
def yX12_goes : MethodName := ⟨RX12, "goes", "([I)I"⟩
abbrev cX12_aheadOf : ByteArray := prog_14_method_33_code
def yX12_aheadOf : MethodName := ⟨RX12, "aheadOf", "([II)I"⟩
abbrev cX12_layAside : ByteArray := prog_14_method_34_code
def yX12_layAside : MethodName := ⟨RX12, "layAside", "()V"⟩
abbrev cX12_whenAside : ByteArray := prog_14_method_35_code
def yX12_whenAside : MethodName := ⟨RX12, "whenAside", "(I)I"⟩
abbrev cX12_when : ByteArray := prog_14_method_36_code
def yX12_when : MethodName := ⟨RX12, "when", "(I)I"⟩
abbrev cX12_sticksFirst : ByteArray := prog_14_method_37_code
def yX12_sticksFirst : MethodName := ⟨RX12, "sticksFirst", "()I"⟩
abbrev cX12_allOut : ByteArray := prog_14_method_38_code
def yX12_allOut : MethodName := ⟨RX12, "allOut", "()I"⟩
abbrev cX12_sort : ByteArray := prog_14_method_39_code
def yX12_sort : MethodName := ⟨RX12, "sort", "(II)I"⟩
abbrev cX12_goer : ByteArray := prog_14_method_40_code
def yX12_goer : MethodName := ⟨RX12, "goer", "(II)I"⟩
abbrev cX12_room : ByteArray := prog_14_method_41_code
def yX12_room : MethodName := ⟨RX12, "room", "(II)I"⟩
abbrev cX12_now : ByteArray := prog_14_method_42_code
def yX12_now : MethodName := ⟨RX12, "now", "(I)I"⟩
abbrev cX12_notes : ByteArray := prog_14_method_43_code
def yX12_notes : MethodName := ⟨RX12, "notes", "()V"⟩
abbrev cX12_comes : ByteArray := prog_14_method_44_code
def yX12_comes : MethodName := ⟨RX12, "comes", "(II)I"⟩
abbrev cX12_steps : ByteArray := prog_14_method_45_code
def yX12_steps : MethodName := ⟨RX12, "steps", "()I"⟩
abbrev cX12_leavesOn : ByteArray := prog_14_method_46_code
def yX12_leavesOn : MethodName := ⟨RX12, "leavesOn", "([II)V"⟩
abbrev cX12_leaves : ByteArray := prog_14_method_47_code
def yX12_leaves : MethodName := ⟨RX12, "leaves", "(I)I"⟩
abbrev cX12_letsOn : ByteArray := prog_14_method_48_code
def yX12_letsOn : MethodName := ⟨RX12, "letsOn", "([II)V"⟩
abbrev cX12_lets : ByteArray := prog_14_method_49_code
def yX12_lets : MethodName := ⟨RX12, "lets", "(I)I"⟩
abbrev cX12_undo : ByteArray := prog_14_method_50_code
def yX12_undo : MethodName := ⟨RX12, "undo", "()I"⟩
abbrev cX12_best : ByteArray := prog_14_method_51_code
def yX12_best : MethodName := ⟨RX12, "best", "(IZ)I"⟩
abbrev cX12_spare : ByteArray := prog_14_method_52_code
def yX12_spare : MethodName := ⟨RX12, "spare", "(I)I"⟩
abbrev cX12_ahead : ByteArray := prog_14_method_53_code
def yX12_ahead : MethodName := ⟨RX12, "ahead", "(I)I"⟩
abbrev cX12_power : ByteArray := prog_14_method_54_code
def yX12_power : MethodName := ⟨RX12, "power", "(JI)J"⟩
abbrev cX12_odds : ByteArray := prog_14_method_55_code
def yX12_odds : MethodName := ⟨RX12, "odds", "(II)I"⟩
abbrev cX12_sees : ByteArray := prog_14_method_56_code
def yX12_sees : MethodName := ⟨RX12, "sees", "(III)I"⟩
abbrev cX12_forget : ByteArray := prog_14_method_57_code
def yX12_forget : MethodName := ⟨RX12, "forget", "()I"⟩
abbrev cX12_of : ByteArray := prog_14_method_58_code
def yX12_of : MethodName := ⟨RX12, "of", "(II)I"⟩
abbrev cX12_which : ByteArray := prog_14_method_59_code
def yX12_which : MethodName := ⟨RX12, "which", "()I"⟩
abbrev cX12_look : ByteArray := prog_14_method_60_code
def yX12_look : MethodName := ⟨RX12, "look", "(I)I"⟩
abbrev cX12_asDoor : ByteArray := prog_14_method_61_code
def yX12_asDoor : MethodName := ⟨RX12, "asDoor", "(I)I"⟩
abbrev cX12_asBank : ByteArray := prog_14_method_62_code
def yX12_asBank : MethodName := ⟨RX12, "asBank", "(I)I"⟩
abbrev cX12_asHotel : ByteArray := prog_14_method_63_code
def yX12_asHotel : MethodName := ⟨RX12, "asHotel", "(I)I"⟩
abbrev cX12_rate : ByteArray := prog_14_method_64_code
def yX12_rate : MethodName := ⟨RX12, "rate", "(II)I"⟩
abbrev cX12_keep : ByteArray := prog_14_method_65_code
def yX12_keep : MethodName := ⟨RX12, "keep", "(I)I"⟩
abbrev cX12_back : ByteArray := prog_14_method_66_code
def yX12_back : MethodName := ⟨RX12, "back", "(I)I"⟩
abbrev cX12_count : ByteArray := prog_14_method_67_code
def yX12_count : MethodName := ⟨RX12, "count", "(I)I"⟩
abbrev cX12_trace : ByteArray := prog_14_method_68_code
def yX12_trace : MethodName := ⟨RX12, "trace", "()J"⟩
def RJ6 : String := "java/lang/Integer"
def TJ6 : u_T := fun k => match k with
  | _ => ("", "", "", false)
def tyJ6 : Nat → FieldType := fun k => match k with
  | _ => .int
abbrev wsJ60 : List Cond := u_ws RJ6 TJ6 0
theorem nmJ6 : ∀ a, a < 0 → ∀ b, b < 0 → a ≠ b → (TJ6 a).2.1 ≠ (TJ6 b).2.1 := by decide +kernel
theorem tyJ6_ok : ∀ k, k < 0 → parseFieldDescriptor (TJ6 k).2.2.1 = some (tyJ6 k) := by decide +kernel
abbrev cJ6_bitCount_0f7a4 : ByteArray := prog_15_method_49_code
def yJ6_bitCount_0f7a4 : MethodName := ⟨RJ6, "bitCount", "(I)I"⟩
def RJ9 : String := "java/lang/Math"
def TJ9 : u_T := fun k => match k with
  | _ => ("", "", "", false)
def tyJ9 : Nat → FieldType := fun k => match k with
  | _ => .int
abbrev wsJ90 : List Cond := u_ws RJ9 TJ9 0
theorem nmJ9 : ∀ a, a < 0 → ∀ b, b < 0 → a ≠ b → (TJ9 a).2.1 ≠ (TJ9 b).2.1 := by decide +kernel
theorem tyJ9_ok : ∀ k, k < 0 → parseFieldDescriptor (TJ9 k).2.2.1 = some (tyJ9 k) := by decide +kernel
abbrev cJ9_max_7cf53 : ByteArray := prog_16_method_65_code
def yJ9_max_7cf53 : MethodName := ⟨RJ9, "max", "(II)I"⟩
abbrev cJ9_max_f86c9 : ByteArray := prog_16_method_66_code
def yJ9_max_f86c9 : MethodName := ⟨RJ9, "max", "(JJ)J"⟩
abbrev cJ9_min_7cf53 : ByteArray := prog_16_method_69_code
def yJ9_min_7cf53 : MethodName := ⟨RJ9, "min", "(II)I"⟩
def RJ10 : String := "java/lang/System"
def TJ10 : u_T := fun k => match k with
  | _ => ("", "", "", false)
def tyJ10 : Nat → FieldType := fun k => match k with
  | _ => .int
abbrev wsJ100 : List Cond := u_ws RJ10 TJ10 0
theorem nmJ10 : ∀ a, a < 0 → ∀ b, b < 0 → a ≠ b → (TJ10 a).2.1 ≠ (TJ10 b).2.1 := by decide +kernel
theorem tyJ10_ok : ∀ k, k < 0 → parseFieldDescriptor (TJ10 k).2.2.1 = some (tyJ10 k) := by decide +kernel
def RJ7 : String := "java/util/Arrays"
def TJ7 : u_T := fun k => match k with
  | _ => ("", "", "", false)
def tyJ7 : Nat → FieldType := fun k => match k with
  | _ => .int
abbrev wsJ70 : List Cond := u_ws RJ7 TJ7 0
theorem nmJ7 : ∀ a, a < 0 → ∀ b, b < 0 → a ≠ b → (TJ7 a).2.1 ≠ (TJ7 b).2.1 := by decide +kernel
theorem tyJ7_ok : ∀ k, k < 0 → parseFieldDescriptor (TJ7 k).2.2.1 = some (tyJ7 k) := by decide +kernel
abbrev cJ7_fill_d0a16 : ByteArray := prog_18_method_101_code
def yJ7_fill_d0a16 : MethodName := ⟨RJ7, "fill", "([JJ)V"⟩
def RL : String := "WingDoorLaw"
abbrev cL_law : ByteArray := code
def yL_law : MethodName := ⟨RL, "law", "([I)Z"⟩
abbrev vwCl : List vw_C := [(RX0, TX0, 1), (RX1, TX1, 1), (RX2, TX2, 1), (RX3, TX3, 1), (RX4, TX4, 1), (RX5, TX5, 8), (RX6, TX6, 3), (RX7, TX7, 6), (RX8, TX8, 5), (RX9, TX9, 1), (RX10, TX10, 7), (RX11, TX11, 11), (RX12, TX12, 27)]
end
section
/-- the words that a callee may take along: all of the tables that are good -/
def zG : List Cond := lw_tbl.filter goodWord
theorem zG_in {w : Cond} (h : w ∈ zG) : w ∈ lw_tbl := (List.mem_filter.mp h).1
theorem zG_good {w : Cond} (h : w ∈ zG) : (w.onTables && w.keeps) = true ∨ ∃ ty, w = .arrayClass ty := good_of_word (List.mem_filter.mp h).2
theorem zG_mk {w : Cond} (h : w ∈ lw_tbl) (hg : goodWord w = true) : w ∈ zG := List.mem_filter.mpr ⟨h, hg⟩
theorem zG_t1 {w : Cond} (h : w ∈ tables_1_1) : w ∈ lw_tbl := List.mem_append_right _ (show w ∈ tables_1 from List.mem_append_left _ h)
theorem zG_t2 {w : Cond} (h : w ∈ tables_1_2) : w ∈ lw_tbl := List.mem_append_right _ (show w ∈ tables_1 from List.mem_append_right _ (List.mem_append_left _ h))
theorem zG_t3 {w : Cond} (h : w ∈ tables_1_3) : w ∈ lw_tbl := List.mem_append_right _ (show w ∈ tables_1 from List.mem_append_right _ (List.mem_append_right _ (List.mem_append_left _ h)))
theorem zG_t4 {w : Cond} (h : w ∈ tables_1_4) : w ∈ lw_tbl := List.mem_append_right _ (show w ∈ tables_1 from List.mem_append_right _ (List.mem_append_right _ (List.mem_append_right _ (List.mem_append_left _ h))))
theorem zG_t5 {w : Cond} (h : w ∈ tables_1_5) : w ∈ lw_tbl := List.mem_append_right _ (show w ∈ tables_1 from List.mem_append_right _ (List.mem_append_right _ (List.mem_append_right _ (List.mem_append_right _ (h)))))
theorem gw_1_0 : (Cond.initialized "WingDoorLaw") ∈ zG := zG_mk (zG_t1 (List.mem_of_getElem? (i := 0) rfl)) rfl
theorem gw_1_1 : (Cond.initialized "WingDoor") ∈ zG := zG_mk (zG_t1 (List.mem_of_getElem? (i := 1) rfl)) rfl
theorem gw_1_2 : (Cond.initialized "WingDoor$Text") ∈ zG := zG_mk (zG_t1 (List.mem_of_getElem? (i := 2) rfl)) rfl
theorem gw_1_3 : (Cond.initialized "WingDoor$Plan") ∈ zG := zG_mk (zG_t1 (List.mem_of_getElem? (i := 3) rfl)) rfl
theorem gw_1_4 : (Cond.initialized "WingDoor$Moment") ∈ zG := zG_mk (zG_t1 (List.mem_of_getElem? (i := 4) rfl)) rfl
theorem gw_1_5 : (Cond.initialized "WingDoor$Past") ∈ zG := zG_mk (zG_t1 (List.mem_of_getElem? (i := 5) rfl)) rfl
theorem gw_1_6 : (Cond.initialized "WingDoor$Sightings") ∈ zG := zG_mk (zG_t1 (List.mem_of_getElem? (i := 6) rfl)) rfl
theorem gw_1_7 : (Cond.initialized "WingDoor$DoorKind") ∈ zG := zG_mk (zG_t1 (List.mem_of_getElem? (i := 7) rfl)) rfl
theorem gw_1_8 : (Cond.initialized "WingDoor$BankKind") ∈ zG := zG_mk (zG_t1 (List.mem_of_getElem? (i := 8) rfl)) rfl
theorem gw_1_9 : (Cond.initialized "WingDoor$HotelKind") ∈ zG := zG_mk (zG_t1 (List.mem_of_getElem? (i := 9) rfl)) rfl
theorem gw_1_10 : (Cond.initialized "WingDoor$CourtKind") ∈ zG := zG_mk (zG_t1 (List.mem_of_getElem? (i := 10) rfl)) rfl
theorem gw_1_11 : (Cond.initialized "WingDoor$GrandKind") ∈ zG := zG_mk (zG_t1 (List.mem_of_getElem? (i := 11) rfl)) rfl
theorem gw_1_12 : (Cond.initialized "WingDoor$StoreKind") ∈ zG := zG_mk (zG_t1 (List.mem_of_getElem? (i := 12) rfl)) rfl
theorem gw_1_13 : (Cond.initialized "WingDoorModel") ∈ zG := zG_mk (zG_t1 (List.mem_of_getElem? (i := 13) rfl)) rfl
theorem gw_1_14 : (Cond.initialized "java/lang/System") ∈ zG := zG_mk (zG_t1 (List.mem_of_getElem? (i := 14) rfl)) rfl
theorem gw_1_15 : (Cond.initialized "java/lang/Integer") ∈ zG := zG_mk (zG_t1 (List.mem_of_getElem? (i := 15) rfl)) rfl
theorem gw_1_16 : (Cond.initialized "java/util/Arrays") ∈ zG := zG_mk (zG_t1 (List.mem_of_getElem? (i := 16) rfl)) rfl
theorem gw_1_17 : (Cond.initialized "java/lang/Math") ∈ zG := zG_mk (zG_t1 (List.mem_of_getElem? (i := 17) rfl)) rfl
theorem gw_1_18 : (Cond.classLink "WingDoorLaw" 7 "WingDoor") ∈ zG := zG_mk (zG_t1 (List.mem_of_getElem? (i := 18) rfl)) rfl
theorem gw_1_19 : (Cond.instantiable "WingDoor" 11) ∈ zG := zG_mk (zG_t1 (List.mem_of_getElem? (i := 19) rfl)) rfl
theorem gw_1_20 : (Cond.methodLink "WingDoorLaw" 9 ⟨"WingDoor", "<init>", "()V"⟩) ∈ zG := zG_mk (zG_t1 (List.mem_of_getElem? (i := 20) rfl)) rfl
theorem gw_1_21 : (Cond.instanceMethod ⟨"WingDoor", "<init>", "()V"⟩) ∈ zG := zG_mk (zG_t1 (List.mem_of_getElem? (i := 21) rfl)) rfl
theorem gw_1_22 : (Cond.code ⟨"WingDoor", "<init>", "()V"⟩ prog_1_method_1_code 1 none) ∈ zG := zG_mk (zG_t1 (List.mem_of_getElem? (i := 22) rfl)) rfl
theorem gw_1_23 : (Cond.methodLink "WingDoor" 1 ⟨"java/lang/Object", "<init>", "()V"⟩) ∈ zG := zG_mk (zG_t1 (List.mem_of_getElem? (i := 23) rfl)) rfl
theorem gw_1_24 : (Cond.instanceMethod ⟨"java/lang/Object", "<init>", "()V"⟩) ∈ zG := zG_mk (zG_t1 (List.mem_of_getElem? (i := 24) rfl)) rfl
theorem gw_1_25 : (Cond.code ⟨"java/lang/Object", "<init>", "()V"⟩ object_method_1_code 1 none) ∈ zG := zG_mk (zG_t1 (List.mem_of_getElem? (i := 25) rfl)) rfl
theorem gw_1_26 : (Cond.classLink "WingDoor" 7 "WingDoor$Text") ∈ zG := zG_mk (zG_t1 (List.mem_of_getElem? (i := 26) rfl)) rfl
theorem gw_1_27 : (Cond.instantiable "WingDoor$Text" 7) ∈ zG := zG_mk (zG_t1 (List.mem_of_getElem? (i := 27) rfl)) rfl
theorem gw_1_29 : (Cond.instanceMethod ⟨"WingDoor$Text", "<init>", "()V"⟩) ∈ zG := zG_mk (zG_t1 (List.mem_of_getElem? (i := 29) rfl)) rfl
theorem gw_1_30 : (Cond.code ⟨"WingDoor$Text", "<init>", "()V"⟩ prog_12_method_1_code 1 none) ∈ zG := zG_mk (zG_t1 (List.mem_of_getElem? (i := 30) rfl)) rfl
theorem gw_1_31 : (Cond.methodLink "WingDoor$Text" 3 ⟨"java/lang/Object", "<init>", "()V"⟩) ∈ zG := zG_mk (zG_t1 (List.mem_of_getElem? (i := 31) rfl)) rfl
theorem gw_1_32 : (Cond.fieldLink "WingDoor$Text" 9 "WingDoor$Text" "letters" "[I") ∈ zG := zG_mk (zG_t1 (List.mem_of_getElem? (i := 32) rfl)) rfl
theorem gw_1_33 : (Cond.fieldLink "WingDoor$Text" 15 "WingDoor$Text" "length" "I") ∈ zG := zG_mk (zG_t1 (List.mem_of_getElem? (i := 33) rfl)) rfl
theorem gw_1_35 : (Cond.fieldLink "WingDoor$Text" 28 "WingDoor$Text" "at" "I") ∈ zG := zG_mk (zG_t1 (List.mem_of_getElem? (i := 35) rfl)) rfl
theorem gw_1_36 : (Cond.fieldLink "WingDoor$Text" 34 "WingDoor$Text" "token" "I") ∈ zG := zG_mk (zG_t1 (List.mem_of_getElem? (i := 36) rfl)) rfl
theorem gw_1_37 : (Cond.fieldLink "WingDoor$Text" 41 "WingDoor$Text" "tokenAt" "I") ∈ zG := zG_mk (zG_t1 (List.mem_of_getElem? (i := 37) rfl)) rfl
theorem gw_1_38 : (Cond.fieldLink "WingDoor$Text" 61 "WingDoor$Text" "number" "I") ∈ zG := zG_mk (zG_t1 (List.mem_of_getElem? (i := 38) rfl)) rfl
theorem gw_1_39 : (Cond.fieldLink "WingDoor$Text" 24 "WingDoor$Text" "hardIsTold" "Z") ∈ zG := zG_mk (zG_t1 (List.mem_of_getElem? (i := 39) rfl)) rfl
theorem gw_1_40 : (Cond.laysFinal "WingDoor$Text" "WingDoor$Text" "letters" "[I") ∈ zG := zG_mk (zG_t1 (List.mem_of_getElem? (i := 40) rfl)) rfl
theorem gw_1_42 : (Cond.lays "WingDoor$Text" "WingDoor$Text" "length" "I") ∈ zG := zG_mk (zG_t1 (List.mem_of_getElem? (i := 42) rfl)) rfl
theorem gw_1_44 : (Cond.lays "WingDoor$Text" "WingDoor$Text" "at" "I") ∈ zG := zG_mk (zG_t1 (List.mem_of_getElem? (i := 44) rfl)) rfl
theorem gw_1_46 : (Cond.lays "WingDoor$Text" "WingDoor$Text" "token" "I") ∈ zG := zG_mk (zG_t1 (List.mem_of_getElem? (i := 46) rfl)) rfl
theorem gw_1_48 : (Cond.lays "WingDoor$Text" "WingDoor$Text" "tokenAt" "I") ∈ zG := zG_mk (zG_t1 (List.mem_of_getElem? (i := 48) rfl)) rfl
theorem gw_1_50 : (Cond.lays "WingDoor$Text" "WingDoor$Text" "number" "I") ∈ zG := zG_mk (zG_t1 (List.mem_of_getElem? (i := 50) rfl)) rfl
theorem gw_1_52 : (Cond.lays "WingDoor$Text" "WingDoor$Text" "hardIsTold" "Z") ∈ zG := zG_mk (zG_t1 (List.mem_of_getElem? (i := 52) rfl)) rfl
theorem gw_1_54 : (Cond.superclass "WingDoor$Text" "java/lang/Object") ∈ zG := zG_mk (zG_t1 (List.mem_of_getElem? (i := 54) rfl)) rfl
theorem gw_1_55 : (Cond.arrayClass .int) ∈ zG := zG_mk (zG_t1 (List.mem_of_getElem? (i := 55) rfl)) rfl
theorem gw_1_56 : (Cond.classLink "WingDoor" 16 "WingDoor$Plan") ∈ zG := zG_mk (zG_t1 (List.mem_of_getElem? (i := 56) rfl)) rfl
theorem gw_1_57 : (Cond.instantiable "WingDoor$Plan" 6) ∈ zG := zG_mk (zG_t1 (List.mem_of_getElem? (i := 57) rfl)) rfl
theorem gw_1_58 : (Cond.methodLink "WingDoor" 18 ⟨"WingDoor$Plan", "<init>", "()V"⟩) ∈ zG := zG_mk (zG_t1 (List.mem_of_getElem? (i := 58) rfl)) rfl
theorem gw_1_59 : (Cond.instanceMethod ⟨"WingDoor$Plan", "<init>", "()V"⟩) ∈ zG := zG_mk (zG_t1 (List.mem_of_getElem? (i := 59) rfl)) rfl
theorem gw_1_60 : (Cond.code ⟨"WingDoor$Plan", "<init>", "()V"⟩ prog_9_method_1_code 1 none) ∈ zG := zG_mk (zG_t1 (List.mem_of_getElem? (i := 60) rfl)) rfl
theorem gw_1_61 : (Cond.methodLink "WingDoor$Plan" 3 ⟨"java/lang/Object", "<init>", "()V"⟩) ∈ zG := zG_mk (zG_t1 (List.mem_of_getElem? (i := 61) rfl)) rfl
theorem gw_1_62 : (Cond.methodLink "WingDoor$Plan" 18 ⟨"WingDoor$Plan", "setFirst", "()V"⟩) ∈ zG := zG_mk (zG_t1 (List.mem_of_getElem? (i := 62) rfl)) rfl
theorem gw_1_63 : (Cond.instanceMethod ⟨"WingDoor$Plan", "setFirst", "()V"⟩) ∈ zG := zG_mk (zG_t1 (List.mem_of_getElem? (i := 63) rfl)) rfl
theorem gw_1_64 : (Cond.selects "WingDoor$Plan" ⟨"WingDoor$Plan", "setFirst", "()V"⟩ ⟨"WingDoor$Plan", "setFirst", "()V"⟩) ∈ zG := zG_mk (zG_t1 (List.mem_of_getElem? (i := 64) rfl)) rfl
theorem gw_1_65 : (Cond.code ⟨"WingDoor$Plan", "setFirst", "()V"⟩ prog_9_method_2_code 1 none) ∈ zG := zG_mk (zG_t1 (List.mem_of_getElem? (i := 65) rfl)) rfl
theorem gw_1_66 : (Cond.fieldLink "WingDoor$Plan" 21 "WingDoor$Plan" "rooms" "I") ∈ zG := zG_mk (zG_t1 (List.mem_of_getElem? (i := 66) rfl)) rfl
theorem gw_1_69 : (Cond.fieldLink "WingDoor$Plan" 25 "WingDoor$Plan" "wide" "I") ∈ zG := zG_mk (zG_t1 (List.mem_of_getElem? (i := 69) rfl)) rfl
theorem gw_1_73 : (Cond.fieldLink "WingDoor$Plan" 28 "WingDoor$Plan" "hard" "I") ∈ zG := zG_mk (zG_t1 (List.mem_of_getElem? (i := 73) rfl)) rfl
theorem gw_1_77 : (Cond.fieldLink "WingDoor$Plan" 31 "WingDoor$Plan" "sorts" "I") ∈ zG := zG_mk (zG_t1 (List.mem_of_getElem? (i := 77) rfl)) rfl
theorem gw_1_81 : (Cond.fieldLink "WingDoor$Plan" 9 "WingDoor$Plan" "bulk" "[I") ∈ zG := zG_mk (zG_t1 (List.mem_of_getElem? (i := 81) rfl)) rfl
theorem gw_1_82 : (Cond.fieldLink "WingDoor$Plan" 15 "WingDoor$Plan" "push" "[I") ∈ zG := zG_mk (zG_t1 (List.mem_of_getElem? (i := 82) rfl)) rfl
theorem gw_1_83 : (Cond.lays "WingDoor$Plan" "WingDoor$Plan" "rooms" "I") ∈ zG := zG_mk (zG_t1 (List.mem_of_getElem? (i := 83) rfl)) rfl
theorem gw_1_85 : (Cond.lays "WingDoor$Plan" "WingDoor$Plan" "wide" "I") ∈ zG := zG_mk (zG_t1 (List.mem_of_getElem? (i := 85) rfl)) rfl
theorem gw_1_87 : (Cond.lays "WingDoor$Plan" "WingDoor$Plan" "hard" "I") ∈ zG := zG_mk (zG_t1 (List.mem_of_getElem? (i := 87) rfl)) rfl
theorem gw_1_89 : (Cond.lays "WingDoor$Plan" "WingDoor$Plan" "sorts" "I") ∈ zG := zG_mk (zG_t1 (List.mem_of_getElem? (i := 89) rfl)) rfl
theorem gw_1_91 : (Cond.laysFinal "WingDoor$Plan" "WingDoor$Plan" "bulk" "[I") ∈ zG := zG_mk (zG_t1 (List.mem_of_getElem? (i := 91) rfl)) rfl
theorem gw_1_93 : (Cond.laysFinal "WingDoor$Plan" "WingDoor$Plan" "push" "[I") ∈ zG := zG_mk (zG_t1 (List.mem_of_getElem? (i := 93) rfl)) rfl
theorem gw_1_95 : (Cond.superclass "WingDoor$Plan" "java/lang/Object") ∈ zG := zG_mk (zG_t1 (List.mem_of_getElem? (i := 95) rfl)) rfl
theorem gw_1_96 : (Cond.classLink "WingDoor" 26 "WingDoor$Moment") ∈ zG := zG_mk (zG_t1 (List.mem_of_getElem? (i := 96) rfl)) rfl
theorem gw_1_97 : (Cond.instantiable "WingDoor$Moment" 8) ∈ zG := zG_mk (zG_t1 (List.mem_of_getElem? (i := 97) rfl)) rfl
theorem gw_1_98 : (Cond.methodLink "WingDoor" 28 ⟨"WingDoor$Moment", "<init>", "(LWingDoor$Plan;)V"⟩) ∈ zG := zG_mk (zG_t1 (List.mem_of_getElem? (i := 98) rfl)) rfl
theorem gw_1_99 : (Cond.instanceMethod ⟨"WingDoor$Moment", "<init>", "(LWingDoor$Plan;)V"⟩) ∈ zG := zG_mk (zG_t1 (List.mem_of_getElem? (i := 99) rfl)) rfl
theorem gw_1_100 : (Cond.code ⟨"WingDoor$Moment", "<init>", "(LWingDoor$Plan;)V"⟩ prog_7_method_1_code 2 none) ∈ zG := zG_mk (zG_t1 (List.mem_of_getElem? (i := 100) rfl)) rfl
theorem gw_1_101 : (Cond.methodLink "WingDoor$Moment" 3 ⟨"java/lang/Object", "<init>", "()V"⟩) ∈ zG := zG_mk (zG_t1 (List.mem_of_getElem? (i := 101) rfl)) rfl
theorem gw_1_102 : (Cond.fieldLink "WingDoor$Moment" 27 "WingDoor$Moment" "plan" "LWingDoor$Plan;") ∈ zG := zG_mk (zG_t1 (List.mem_of_getElem? (i := 102) rfl)) rfl
theorem gw_1_103 : (Cond.fieldLink "WingDoor$Moment" 31 "WingDoor$Moment" "step" "I") ∈ zG := zG_mk (zG_t1 (List.mem_of_getElem? (i := 103) rfl)) rfl
theorem gw_1_106 : (Cond.fieldLink "WingDoor$Moment" 35 "WingDoor$Moment" "goers" "I") ∈ zG := zG_mk (zG_t1 (List.mem_of_getElem? (i := 106) rfl)) rfl
theorem gw_1_108 : (Cond.fieldLink "WingDoor$Moment" 9 "WingDoor$Moment" "sortOf" "[I") ∈ zG := zG_mk (zG_t1 (List.mem_of_getElem? (i := 108) rfl)) rfl
theorem gw_1_110 : (Cond.fieldLink "WingDoor$Moment" 15 "WingDoor$Moment" "sideOf" "[I") ∈ zG := zG_mk (zG_t1 (List.mem_of_getElem? (i := 110) rfl)) rfl
theorem gw_1_112 : (Cond.fieldLink "WingDoor$Moment" 18 "WingDoor$Moment" "whereOf" "[I") ∈ zG := zG_mk (zG_t1 (List.mem_of_getElem? (i := 112) rfl)) rfl
theorem gw_1_114 : (Cond.fieldLink "WingDoor$Moment" 21 "WingDoor$Moment" "placeOf" "[I") ∈ zG := zG_mk (zG_t1 (List.mem_of_getElem? (i := 114) rfl)) rfl
theorem gw_1_116 : (Cond.fieldLink "WingDoor$Moment" 24 "WingDoor$Moment" "turnOf" "[I") ∈ zG := zG_mk (zG_t1 (List.mem_of_getElem? (i := 116) rfl)) rfl
theorem gw_1_117 : (Cond.laysFinal "WingDoor$Moment" "WingDoor$Moment" "plan" "LWingDoor$Plan;") ∈ zG := zG_mk (zG_t1 (List.mem_of_getElem? (i := 117) rfl)) rfl
theorem gw_1_119 : (Cond.lays "WingDoor$Moment" "WingDoor$Moment" "step" "I") ∈ zG := zG_mk (zG_t1 (List.mem_of_getElem? (i := 119) rfl)) rfl
theorem gw_1_121 : (Cond.lays "WingDoor$Moment" "WingDoor$Moment" "goers" "I") ∈ zG := zG_mk (zG_t1 (List.mem_of_getElem? (i := 121) rfl)) rfl
theorem gw_1_123 : (Cond.laysFinal "WingDoor$Moment" "WingDoor$Moment" "sortOf" "[I") ∈ zG := zG_mk (zG_t1 (List.mem_of_getElem? (i := 123) rfl)) rfl
theorem gw_1_125 : (Cond.laysFinal "WingDoor$Moment" "WingDoor$Moment" "sideOf" "[I") ∈ zG := zG_mk (zG_t1 (List.mem_of_getElem? (i := 125) rfl)) rfl
theorem gw_1_127 : (Cond.laysFinal "WingDoor$Moment" "WingDoor$Moment" "whereOf" "[I") ∈ zG := zG_mk (zG_t1 (List.mem_of_getElem? (i := 127) rfl)) rfl
theorem gw_1_129 : (Cond.laysFinal "WingDoor$Moment" "WingDoor$Moment" "placeOf" "[I") ∈ zG := zG_mk (zG_t1 (List.mem_of_getElem? (i := 129) rfl)) rfl
theorem gw_1_131 : (Cond.laysFinal "WingDoor$Moment" "WingDoor$Moment" "turnOf" "[I") ∈ zG := zG_mk (zG_t1 (List.mem_of_getElem? (i := 131) rfl)) rfl
theorem gw_1_133 : (Cond.superclass "WingDoor$Moment" "java/lang/Object") ∈ zG := zG_mk (zG_t1 (List.mem_of_getElem? (i := 133) rfl)) rfl
theorem gw_1_134 : (Cond.classLink "WingDoor" 38 "WingDoor$Past") ∈ zG := zG_mk (zG_t1 (List.mem_of_getElem? (i := 134) rfl)) rfl
theorem gw_1_135 : (Cond.instantiable "WingDoor$Past" 3) ∈ zG := zG_mk (zG_t1 (List.mem_of_getElem? (i := 135) rfl)) rfl
theorem gw_1_136 : (Cond.methodLink "WingDoor" 40 ⟨"WingDoor$Past", "<init>", "(LWingDoor$Plan;)V"⟩) ∈ zG := zG_mk (zG_t1 (List.mem_of_getElem? (i := 136) rfl)) rfl
theorem gw_1_137 : (Cond.instanceMethod ⟨"WingDoor$Past", "<init>", "(LWingDoor$Plan;)V"⟩) ∈ zG := zG_mk (zG_t1 (List.mem_of_getElem? (i := 137) rfl)) rfl
theorem gw_1_138 : (Cond.code ⟨"WingDoor$Past", "<init>", "(LWingDoor$Plan;)V"⟩ prog_8_method_1_code 3 none) ∈ zG := zG_mk (zG_t1 (List.mem_of_getElem? (i := 138) rfl)) rfl
theorem gw_1_139 : (Cond.methodLink "WingDoor$Past" 3 ⟨"java/lang/Object", "<init>", "()V"⟩) ∈ zG := zG_mk (zG_t1 (List.mem_of_getElem? (i := 139) rfl)) rfl
theorem gw_1_140 : (Cond.classLink "WingDoor$Past" 9 "WingDoor$Moment") ∈ zG := zG_mk (zG_t1 (List.mem_of_getElem? (i := 140) rfl)) rfl
theorem gw_1_142 : (Cond.methodLink "WingDoor$Past" 17 ⟨"WingDoor$Moment", "<init>", "(LWingDoor$Plan;)V"⟩) ∈ zG := zG_mk (zG_t1 (List.mem_of_getElem? (i := 142) rfl)) rfl
theorem gw_1_143 : (Cond.fieldLink "WingDoor$Past" 11 "WingDoor$Past" "moments" "[LWingDoor$Moment;") ∈ zG := zG_mk (zG_t1 (List.mem_of_getElem? (i := 143) rfl)) rfl
theorem gw_1_144 : (Cond.fieldLink "WingDoor$Past" 20 "WingDoor$Past" "oldest" "I") ∈ zG := zG_mk (zG_t1 (List.mem_of_getElem? (i := 144) rfl)) rfl
theorem gw_1_145 : (Cond.fieldLink "WingDoor$Past" 24 "WingDoor$Past" "size" "I") ∈ zG := zG_mk (zG_t1 (List.mem_of_getElem? (i := 145) rfl)) rfl
theorem gw_1_147 : (Cond.laysFinal "WingDoor$Past" "WingDoor$Past" "moments" "[LWingDoor$Moment;") ∈ zG := zG_mk (zG_t1 (List.mem_of_getElem? (i := 147) rfl)) rfl
theorem gw_1_149 : (Cond.lays "WingDoor$Past" "WingDoor$Past" "oldest" "I") ∈ zG := zG_mk (zG_t1 (List.mem_of_getElem? (i := 149) rfl)) rfl
theorem gw_1_151 : (Cond.lays "WingDoor$Past" "WingDoor$Past" "size" "I") ∈ zG := zG_mk (zG_t1 (List.mem_of_getElem? (i := 151) rfl)) rfl
theorem gw_1_153 : (Cond.superclass "WingDoor$Past" "java/lang/Object") ∈ zG := zG_mk (zG_t1 (List.mem_of_getElem? (i := 153) rfl)) rfl
theorem gw_1_154 : (Cond.classLink "WingDoor" 53 "WingDoor$Sightings") ∈ zG := zG_mk (zG_t1 (List.mem_of_getElem? (i := 154) rfl)) rfl
theorem gw_1_155 : (Cond.instantiable "WingDoor$Sightings" 5) ∈ zG := zG_mk (zG_t1 (List.mem_of_getElem? (i := 155) rfl)) rfl
theorem gw_1_156 : (Cond.methodLink "WingDoor" 55 ⟨"WingDoor$Sightings", "<init>", "(LWingDoor$Plan;)V"⟩) ∈ zG := zG_mk (zG_t1 (List.mem_of_getElem? (i := 156) rfl)) rfl
theorem gw_1_157 : (Cond.instanceMethod ⟨"WingDoor$Sightings", "<init>", "(LWingDoor$Plan;)V"⟩) ∈ zG := zG_mk (zG_t1 (List.mem_of_getElem? (i := 157) rfl)) rfl
theorem gw_1_158 : (Cond.code ⟨"WingDoor$Sightings", "<init>", "(LWingDoor$Plan;)V"⟩ prog_10_method_1_code 2 none) ∈ zG := zG_mk (zG_t1 (List.mem_of_getElem? (i := 158) rfl)) rfl
theorem gw_1_159 : (Cond.methodLink "WingDoor$Sightings" 3 ⟨"java/lang/Object", "<init>", "()V"⟩) ∈ zG := zG_mk (zG_t1 (List.mem_of_getElem? (i := 159) rfl)) rfl
theorem gw_1_160 : (Cond.fieldLink "WingDoor$Sightings" 21 "WingDoor$Sightings" "plan" "LWingDoor$Plan;") ∈ zG := zG_mk (zG_t1 (List.mem_of_getElem? (i := 160) rfl)) rfl
theorem gw_1_161 : (Cond.fieldLink "WingDoor$Sightings" 9 "WingDoor$Sightings" "what" "[I") ∈ zG := zG_mk (zG_t1 (List.mem_of_getElem? (i := 161) rfl)) rfl
theorem gw_1_162 : (Cond.fieldLink "WingDoor$Sightings" 15 "WingDoor$Sightings" "bound" "[I") ∈ zG := zG_mk (zG_t1 (List.mem_of_getElem? (i := 162) rfl)) rfl
theorem gw_1_163 : (Cond.fieldLink "WingDoor$Sightings" 18 "WingDoor$Sightings" "most" "[I") ∈ zG := zG_mk (zG_t1 (List.mem_of_getElem? (i := 163) rfl)) rfl
theorem gw_1_164 : (Cond.fieldLink "WingDoor$Sightings" 25 "WingDoor$Sightings" "size" "I") ∈ zG := zG_mk (zG_t1 (List.mem_of_getElem? (i := 164) rfl)) rfl
theorem gw_1_166 : (Cond.laysFinal "WingDoor$Sightings" "WingDoor$Sightings" "plan" "LWingDoor$Plan;") ∈ zG := zG_mk (zG_t1 (List.mem_of_getElem? (i := 166) rfl)) rfl
theorem gw_1_168 : (Cond.laysFinal "WingDoor$Sightings" "WingDoor$Sightings" "what" "[I") ∈ zG := zG_mk (zG_t1 (List.mem_of_getElem? (i := 168) rfl)) rfl
theorem gw_1_170 : (Cond.laysFinal "WingDoor$Sightings" "WingDoor$Sightings" "bound" "[I") ∈ zG := zG_mk (zG_t1 (List.mem_of_getElem? (i := 170) rfl)) rfl
theorem gw_1_172 : (Cond.laysFinal "WingDoor$Sightings" "WingDoor$Sightings" "most" "[I") ∈ zG := zG_mk (zG_t1 (List.mem_of_getElem? (i := 172) rfl)) rfl
theorem gw_1_174 : (Cond.lays "WingDoor$Sightings" "WingDoor$Sightings" "size" "I") ∈ zG := zG_mk (zG_t1 (List.mem_of_getElem? (i := 174) rfl)) rfl
theorem gw_1_176 : (Cond.superclass "WingDoor$Sightings" "java/lang/Object") ∈ zG := zG_mk (zG_t1 (List.mem_of_getElem? (i := 176) rfl)) rfl
theorem gw_1_177 : (Cond.arrayClass .boolean) ∈ zG := zG_mk (zG_t1 (List.mem_of_getElem? (i := 177) rfl)) rfl
theorem gw_1_178 : (Cond.classLink "WingDoor" 64 "WingDoor$DoorKind") ∈ zG := zG_mk (zG_t1 (List.mem_of_getElem? (i := 178) rfl)) rfl
theorem gw_1_180 : (Cond.instantiable "WingDoor$DoorKind" 1) ∈ zG := zG_mk (zG_t1 (List.mem_of_getElem? (i := 180) rfl)) rfl
theorem gw_1_182 : (Cond.instanceMethod ⟨"WingDoor$DoorKind", "<init>", "()V"⟩) ∈ zG := zG_mk (zG_t1 (List.mem_of_getElem? (i := 182) rfl)) rfl
theorem gw_1_183 : (Cond.code ⟨"WingDoor$DoorKind", "<init>", "()V"⟩ prog_4_method_1_code 1 none) ∈ zG := zG_mk (zG_t1 (List.mem_of_getElem? (i := 183) rfl)) rfl
theorem gw_1_184 : (Cond.methodLink "WingDoor$DoorKind" 1 ⟨"java/lang/Object", "<init>", "()V"⟩) ∈ zG := zG_mk (zG_t1 (List.mem_of_getElem? (i := 184) rfl)) rfl
theorem gw_1_185 : (Cond.fieldLink "WingDoor$DoorKind" 7 "WingDoor$DoorKind" "noted" "J") ∈ zG := zG_mk (zG_t1 (List.mem_of_getElem? (i := 185) rfl)) rfl
theorem gw_1_186 : (Cond.fieldLink "WingDoor$BankKind" 7 "WingDoor$BankKind" "noted" "J") ∈ zG := zG_mk (zG_t1 (List.mem_of_getElem? (i := 186) rfl)) rfl
theorem gw_1_187 : (Cond.sameField "WingDoor$BankKind" "WingDoor$DoorKind" "noted" "J") ∈ zG := zG_mk (zG_t1 (List.mem_of_getElem? (i := 187) rfl)) rfl
theorem gw_1_188 : (Cond.fieldLink "WingDoor$CourtKind" 7 "WingDoor$CourtKind" "noted" "J") ∈ zG := zG_mk (zG_t1 (List.mem_of_getElem? (i := 188) rfl)) rfl
theorem gw_1_189 : (Cond.sameField "WingDoor$CourtKind" "WingDoor$DoorKind" "noted" "J") ∈ zG := zG_mk (zG_t1 (List.mem_of_getElem? (i := 189) rfl)) rfl
theorem gw_1_190 : (Cond.fieldLink "WingDoor$GrandKind" 7 "WingDoor$GrandKind" "noted" "J") ∈ zG := zG_mk (zG_t1 (List.mem_of_getElem? (i := 190) rfl)) rfl
theorem gw_1_191 : (Cond.sameField "WingDoor$GrandKind" "WingDoor$DoorKind" "noted" "J") ∈ zG := zG_mk (zG_t1 (List.mem_of_getElem? (i := 191) rfl)) rfl
theorem gw_1_192 : (Cond.fieldLink "WingDoor$HotelKind" 9 "WingDoor$HotelKind" "noted" "J") ∈ zG := zG_mk (zG_t1 (List.mem_of_getElem? (i := 192) rfl)) rfl
theorem gw_1_193 : (Cond.sameField "WingDoor$HotelKind" "WingDoor$DoorKind" "noted" "J") ∈ zG := zG_mk (zG_t1 (List.mem_of_getElem? (i := 193) rfl)) rfl
theorem gw_1_194 : (Cond.fieldLink "WingDoor$StoreKind" 7 "WingDoor$StoreKind" "noted" "J") ∈ zG := zG_mk (zG_t1 (List.mem_of_getElem? (i := 194) rfl)) rfl
theorem gw_1_195 : (Cond.sameField "WingDoor$StoreKind" "WingDoor$DoorKind" "noted" "J") ∈ zG := zG_mk (zG_t1 (List.mem_of_getElem? (i := 195) rfl)) rfl
theorem gw_1_196 : (Cond.fieldLink "WingDoor" 259 "WingDoor$DoorKind" "noted" "J") ∈ zG := zG_mk (zG_t1 (List.mem_of_getElem? (i := 196) rfl)) rfl
theorem gw_1_197 : (Cond.lays "WingDoor$DoorKind" "WingDoor$DoorKind" "noted" "J") ∈ zG := zG_mk (zG_t1 (List.mem_of_getElem? (i := 197) rfl)) rfl
theorem gw_1_199 : (Cond.superclass "WingDoor$DoorKind" "java/lang/Object") ∈ zG := zG_mk (zG_t1 (List.mem_of_getElem? (i := 199) rfl)) rfl
theorem gw_1_200 : (Cond.arrayClass .long) ∈ zG := zG_mk (zG_t1 (List.mem_of_getElem? (i := 200) rfl)) rfl
theorem gw_1_201 : (Cond.classLink "WingDoor" 67 "WingDoor$BankKind") ∈ zG := zG_mk (zG_t1 (List.mem_of_getElem? (i := 201) rfl)) rfl
theorem gw_1_202 : (Cond.instantiable "WingDoor$BankKind" 1) ∈ zG := zG_mk (zG_t1 (List.mem_of_getElem? (i := 202) rfl)) rfl
theorem gw_1_204 : (Cond.instanceMethod ⟨"WingDoor$BankKind", "<init>", "()V"⟩) ∈ zG := zG_mk (zG_t1 (List.mem_of_getElem? (i := 204) rfl)) rfl
theorem gw_1_205 : (Cond.code ⟨"WingDoor$BankKind", "<init>", "()V"⟩ prog_2_method_1_code 1 none) ∈ zG := zG_mk (zG_t1 (List.mem_of_getElem? (i := 205) rfl)) rfl
theorem gw_1_207 : (Cond.lays "WingDoor$BankKind" "WingDoor$DoorKind" "noted" "J") ∈ zG := zG_mk (zG_t1 (List.mem_of_getElem? (i := 207) rfl)) rfl
theorem gw_1_208 : (Cond.superclass "WingDoor$BankKind" "WingDoor$DoorKind") ∈ zG := zG_mk (zG_t1 (List.mem_of_getElem? (i := 208) rfl)) rfl
theorem gw_1_209 : (Cond.classLink "WingDoor" 70 "WingDoor$HotelKind") ∈ zG := zG_mk (zG_t1 (List.mem_of_getElem? (i := 209) rfl)) rfl
theorem gw_1_210 : (Cond.instantiable "WingDoor$HotelKind" 1) ∈ zG := zG_mk (zG_t1 (List.mem_of_getElem? (i := 210) rfl)) rfl
theorem gw_1_212 : (Cond.instanceMethod ⟨"WingDoor$HotelKind", "<init>", "()V"⟩) ∈ zG := zG_mk (zG_t1 (List.mem_of_getElem? (i := 212) rfl)) rfl
theorem gw_1_213 : (Cond.code ⟨"WingDoor$HotelKind", "<init>", "()V"⟩ prog_6_method_1_code 1 none) ∈ zG := zG_mk (zG_t1 (List.mem_of_getElem? (i := 213) rfl)) rfl
theorem gw_1_215 : (Cond.lays "WingDoor$HotelKind" "WingDoor$DoorKind" "noted" "J") ∈ zG := zG_mk (zG_t1 (List.mem_of_getElem? (i := 215) rfl)) rfl
theorem gw_1_216 : (Cond.superclass "WingDoor$HotelKind" "WingDoor$DoorKind") ∈ zG := zG_mk (zG_t1 (List.mem_of_getElem? (i := 216) rfl)) rfl
theorem gw_1_217 : (Cond.classLink "WingDoor" 73 "WingDoor$CourtKind") ∈ zG := zG_mk (zG_t1 (List.mem_of_getElem? (i := 217) rfl)) rfl
theorem gw_1_218 : (Cond.instantiable "WingDoor$CourtKind" 1) ∈ zG := zG_mk (zG_t1 (List.mem_of_getElem? (i := 218) rfl)) rfl
theorem gw_1_220 : (Cond.instanceMethod ⟨"WingDoor$CourtKind", "<init>", "()V"⟩) ∈ zG := zG_mk (zG_t1 (List.mem_of_getElem? (i := 220) rfl)) rfl
theorem gw_1_221 : (Cond.code ⟨"WingDoor$CourtKind", "<init>", "()V"⟩ prog_3_method_1_code 1 none) ∈ zG := zG_mk (zG_t1 (List.mem_of_getElem? (i := 221) rfl)) rfl
theorem gw_1_223 : (Cond.lays "WingDoor$CourtKind" "WingDoor$DoorKind" "noted" "J") ∈ zG := zG_mk (zG_t1 (List.mem_of_getElem? (i := 223) rfl)) rfl
theorem gw_1_224 : (Cond.superclass "WingDoor$CourtKind" "WingDoor$BankKind") ∈ zG := zG_mk (zG_t1 (List.mem_of_getElem? (i := 224) rfl)) rfl
theorem gw_1_225 : (Cond.classLink "WingDoor" 76 "WingDoor$GrandKind") ∈ zG := zG_mk (zG_t1 (List.mem_of_getElem? (i := 225) rfl)) rfl
theorem gw_1_226 : (Cond.instantiable "WingDoor$GrandKind" 1) ∈ zG := zG_mk (zG_t1 (List.mem_of_getElem? (i := 226) rfl)) rfl
theorem gw_1_228 : (Cond.instanceMethod ⟨"WingDoor$GrandKind", "<init>", "()V"⟩) ∈ zG := zG_mk (zG_t1 (List.mem_of_getElem? (i := 228) rfl)) rfl
theorem gw_1_229 : (Cond.code ⟨"WingDoor$GrandKind", "<init>", "()V"⟩ prog_5_method_1_code 1 none) ∈ zG := zG_mk (zG_t1 (List.mem_of_getElem? (i := 229) rfl)) rfl
theorem gw_1_231 : (Cond.lays "WingDoor$GrandKind" "WingDoor$DoorKind" "noted" "J") ∈ zG := zG_mk (zG_t1 (List.mem_of_getElem? (i := 231) rfl)) rfl
theorem gw_1_232 : (Cond.superclass "WingDoor$GrandKind" "WingDoor$HotelKind") ∈ zG := zG_mk (zG_t1 (List.mem_of_getElem? (i := 232) rfl)) rfl
theorem gw_1_233 : (Cond.classLink "WingDoor" 79 "WingDoor$StoreKind") ∈ zG := zG_mk (zG_t1 (List.mem_of_getElem? (i := 233) rfl)) rfl
theorem gw_1_234 : (Cond.instantiable "WingDoor$StoreKind" 1) ∈ zG := zG_mk (zG_t1 (List.mem_of_getElem? (i := 234) rfl)) rfl
theorem gw_1_236 : (Cond.instanceMethod ⟨"WingDoor$StoreKind", "<init>", "()V"⟩) ∈ zG := zG_mk (zG_t1 (List.mem_of_getElem? (i := 236) rfl)) rfl
theorem gw_1_237 : (Cond.code ⟨"WingDoor$StoreKind", "<init>", "()V"⟩ prog_11_method_1_code 1 none) ∈ zG := zG_mk (zG_t1 (List.mem_of_getElem? (i := 237) rfl)) rfl
theorem gw_1_239 : (Cond.lays "WingDoor$StoreKind" "WingDoor$DoorKind" "noted" "J") ∈ zG := zG_mk (zG_t1 (List.mem_of_getElem? (i := 239) rfl)) rfl
theorem gw_2_0 : (Cond.superclass "WingDoor$StoreKind" "WingDoor$DoorKind") ∈ zG := zG_mk (zG_t2 (List.mem_of_getElem? (i := 0) rfl)) rfl
theorem gw_2_1 : (Cond.fieldLink "WingDoor" 10 "WingDoor" "text" "LWingDoor$Text;") ∈ zG := zG_mk (zG_t2 (List.mem_of_getElem? (i := 1) rfl)) rfl
theorem gw_2_2 : (Cond.fieldLink "WingDoor" 19 "WingDoor" "plan" "LWingDoor$Plan;") ∈ zG := zG_mk (zG_t2 (List.mem_of_getElem? (i := 2) rfl)) rfl
theorem gw_2_3 : (Cond.fieldLink "WingDoor" 23 "WingDoor" "draft" "LWingDoor$Plan;") ∈ zG := zG_mk (zG_t2 (List.mem_of_getElem? (i := 3) rfl)) rfl
theorem gw_2_4 : (Cond.fieldLink "WingDoor" 31 "WingDoor" "state" "LWingDoor$Moment;") ∈ zG := zG_mk (zG_t2 (List.mem_of_getElem? (i := 4) rfl)) rfl
theorem gw_2_5 : (Cond.fieldLink "WingDoor" 35 "WingDoor" "trial" "LWingDoor$Moment;") ∈ zG := zG_mk (zG_t2 (List.mem_of_getElem? (i := 5) rfl)) rfl
theorem gw_2_6 : (Cond.fieldLink "WingDoor" 41 "WingDoor" "past" "LWingDoor$Past;") ∈ zG := zG_mk (zG_t2 (List.mem_of_getElem? (i := 6) rfl)) rfl
theorem gw_2_7 : (Cond.fieldLink "WingDoor" 45 "WingDoor" "images" "[LWingDoor$Moment;") ∈ zG := zG_mk (zG_t2 (List.mem_of_getElem? (i := 7) rfl)) rfl
theorem gw_2_8 : (Cond.fieldLink "WingDoor" 49 "WingDoor" "imageKept" "[Z") ∈ zG := zG_mk (zG_t2 (List.mem_of_getElem? (i := 8) rfl)) rfl
theorem gw_2_9 : (Cond.fieldLink "WingDoor" 56 "WingDoor" "sightings" "LWingDoor$Sightings;") ∈ zG := zG_mk (zG_t2 (List.mem_of_getElem? (i := 9) rfl)) rfl
theorem gw_2_10 : (Cond.fieldLink "WingDoor" 60 "WingDoor" "ways" "[J") ∈ zG := zG_mk (zG_t2 (List.mem_of_getElem? (i := 10) rfl)) rfl
theorem gw_2_11 : (Cond.fieldLink "WingDoor" 82 "WingDoor" "kinds" "[LWingDoor$DoorKind;") ∈ zG := zG_mk (zG_t2 (List.mem_of_getElem? (i := 11) rfl)) rfl
theorem gw_2_12 : (Cond.laysFinal "WingDoor" "WingDoor" "text" "LWingDoor$Text;") ∈ zG := zG_mk (zG_t2 (List.mem_of_getElem? (i := 12) rfl)) rfl
theorem gw_2_14 : (Cond.laysFinal "WingDoor" "WingDoor" "plan" "LWingDoor$Plan;") ∈ zG := zG_mk (zG_t2 (List.mem_of_getElem? (i := 14) rfl)) rfl
theorem gw_2_16 : (Cond.laysFinal "WingDoor" "WingDoor" "draft" "LWingDoor$Plan;") ∈ zG := zG_mk (zG_t2 (List.mem_of_getElem? (i := 16) rfl)) rfl
theorem gw_2_18 : (Cond.laysFinal "WingDoor" "WingDoor" "state" "LWingDoor$Moment;") ∈ zG := zG_mk (zG_t2 (List.mem_of_getElem? (i := 18) rfl)) rfl
theorem gw_2_20 : (Cond.laysFinal "WingDoor" "WingDoor" "trial" "LWingDoor$Moment;") ∈ zG := zG_mk (zG_t2 (List.mem_of_getElem? (i := 20) rfl)) rfl
theorem gw_2_22 : (Cond.laysFinal "WingDoor" "WingDoor" "past" "LWingDoor$Past;") ∈ zG := zG_mk (zG_t2 (List.mem_of_getElem? (i := 22) rfl)) rfl
theorem gw_2_24 : (Cond.laysFinal "WingDoor" "WingDoor" "images" "[LWingDoor$Moment;") ∈ zG := zG_mk (zG_t2 (List.mem_of_getElem? (i := 24) rfl)) rfl
theorem gw_2_26 : (Cond.laysFinal "WingDoor" "WingDoor" "imageKept" "[Z") ∈ zG := zG_mk (zG_t2 (List.mem_of_getElem? (i := 26) rfl)) rfl
theorem gw_2_28 : (Cond.laysFinal "WingDoor" "WingDoor" "sightings" "LWingDoor$Sightings;") ∈ zG := zG_mk (zG_t2 (List.mem_of_getElem? (i := 28) rfl)) rfl
theorem gw_2_30 : (Cond.laysFinal "WingDoor" "WingDoor" "ways" "[J") ∈ zG := zG_mk (zG_t2 (List.mem_of_getElem? (i := 30) rfl)) rfl
theorem gw_2_32 : (Cond.laysFinal "WingDoor" "WingDoor" "kinds" "[LWingDoor$DoorKind;") ∈ zG := zG_mk (zG_t2 (List.mem_of_getElem? (i := 32) rfl)) rfl
theorem gw_2_34 : (Cond.superclass "WingDoor" "java/lang/Object") ∈ zG := zG_mk (zG_t2 (List.mem_of_getElem? (i := 34) rfl)) rfl
theorem gw_2_35 : (Cond.methodLink "WingDoorLaw" 13 ⟨"WingDoor", "type", "(I)I"⟩) ∈ zG := zG_mk (zG_t2 (List.mem_of_getElem? (i := 35) rfl)) rfl
theorem gw_2_36 : (Cond.instanceMethod ⟨"WingDoor", "type", "(I)I"⟩) ∈ zG := zG_mk (zG_t2 (List.mem_of_getElem? (i := 36) rfl)) rfl
theorem gw_2_37 : (Cond.selects "WingDoor" ⟨"WingDoor", "type", "(I)I"⟩ ⟨"WingDoor", "type", "(I)I"⟩) ∈ zG := zG_mk (zG_t2 (List.mem_of_getElem? (i := 37) rfl)) rfl
theorem gw_2_38 : (Cond.code ⟨"WingDoor", "type", "(I)I"⟩ prog_1_method_2_code 2 (some .int)) ∈ zG := zG_mk (zG_t2 (List.mem_of_getElem? (i := 38) rfl)) rfl
theorem gw_2_39 : (Cond.methodLink "WingDoor" 86 ⟨"WingDoor$Text", "add", "(I)Z"⟩) ∈ zG := zG_mk (zG_t2 (List.mem_of_getElem? (i := 39) rfl)) rfl
theorem gw_2_40 : (Cond.instanceMethod ⟨"WingDoor$Text", "add", "(I)Z"⟩) ∈ zG := zG_mk (zG_t2 (List.mem_of_getElem? (i := 40) rfl)) rfl
theorem gw_2_41 : (Cond.selects "WingDoor$Text" ⟨"WingDoor$Text", "add", "(I)Z"⟩ ⟨"WingDoor$Text", "add", "(I)Z"⟩) ∈ zG := zG_mk (zG_t2 (List.mem_of_getElem? (i := 41) rfl)) rfl
theorem gw_2_42 : (Cond.code ⟨"WingDoor$Text", "add", "(I)Z"⟩ prog_12_method_2_code 2 (some .boolean)) ∈ zG := zG_mk (zG_t2 (List.mem_of_getElem? (i := 42) rfl)) rfl
theorem gw_2_43 : (Cond.methodLink "WingDoorLaw" 18 ⟨"WingDoor", "clear", "()I"⟩) ∈ zG := zG_mk (zG_t2 (List.mem_of_getElem? (i := 43) rfl)) rfl
theorem gw_2_44 : (Cond.instanceMethod ⟨"WingDoor", "clear", "()I"⟩) ∈ zG := zG_mk (zG_t2 (List.mem_of_getElem? (i := 44) rfl)) rfl
theorem gw_2_45 : (Cond.selects "WingDoor" ⟨"WingDoor", "clear", "()I"⟩ ⟨"WingDoor", "clear", "()I"⟩) ∈ zG := zG_mk (zG_t2 (List.mem_of_getElem? (i := 45) rfl)) rfl
theorem gw_2_46 : (Cond.code ⟨"WingDoor", "clear", "()I"⟩ prog_1_method_3_code 2 (some .int)) ∈ zG := zG_mk (zG_t2 (List.mem_of_getElem? (i := 46) rfl)) rfl
theorem gw_2_47 : (Cond.methodLink "WingDoorLaw" 23 ⟨"WingDoor", "door", "()I"⟩) ∈ zG := zG_mk (zG_t2 (List.mem_of_getElem? (i := 47) rfl)) rfl
theorem gw_2_48 : (Cond.instanceMethod ⟨"WingDoor", "door", "()I"⟩) ∈ zG := zG_mk (zG_t2 (List.mem_of_getElem? (i := 48) rfl)) rfl
theorem gw_2_49 : (Cond.selects "WingDoor" ⟨"WingDoor", "door", "()I"⟩ ⟨"WingDoor", "door", "()I"⟩) ∈ zG := zG_mk (zG_t2 (List.mem_of_getElem? (i := 49) rfl)) rfl
theorem gw_2_50 : (Cond.code ⟨"WingDoor", "door", "()I"⟩ prog_1_method_4_code 3 (some .int)) ∈ zG := zG_mk (zG_t2 (List.mem_of_getElem? (i := 50) rfl)) rfl
theorem gw_2_51 : (Cond.methodLink "WingDoor" 94 ⟨"WingDoor$Text", "tellTo", "(LWingDoor$Plan;)I"⟩) ∈ zG := zG_mk (zG_t2 (List.mem_of_getElem? (i := 51) rfl)) rfl
theorem gw_2_52 : (Cond.instanceMethod ⟨"WingDoor$Text", "tellTo", "(LWingDoor$Plan;)I"⟩) ∈ zG := zG_mk (zG_t2 (List.mem_of_getElem? (i := 52) rfl)) rfl
theorem gw_2_53 : (Cond.selects "WingDoor$Text" ⟨"WingDoor$Text", "tellTo", "(LWingDoor$Plan;)I"⟩ ⟨"WingDoor$Text", "tellTo", "(LWingDoor$Plan;)I"⟩) ∈ zG := zG_mk (zG_t2 (List.mem_of_getElem? (i := 53) rfl)) rfl
theorem gw_2_54 : (Cond.code ⟨"WingDoor$Text", "tellTo", "(LWingDoor$Plan;)I"⟩ prog_12_method_3_code 3 (some .int)) ∈ zG := zG_mk (zG_t2 (List.mem_of_getElem? (i := 54) rfl)) rfl
theorem gw_2_55 : (Cond.methodLink "WingDoor$Text" 19 ⟨"WingDoor$Plan", "setFirst", "()V"⟩) ∈ zG := zG_mk (zG_t2 (List.mem_of_getElem? (i := 55) rfl)) rfl
theorem gw_2_56 : (Cond.methodLink "WingDoor$Text" 31 ⟨"WingDoor$Text", "readToken", "()V"⟩) ∈ zG := zG_mk (zG_t2 (List.mem_of_getElem? (i := 56) rfl)) rfl
theorem gw_2_58 : (Cond.instanceMethod ⟨"WingDoor$Text", "readToken", "()V"⟩) ∈ zG := zG_mk (zG_t2 (List.mem_of_getElem? (i := 58) rfl)) rfl
theorem gw_2_59 : (Cond.code ⟨"WingDoor$Text", "readToken", "()V"⟩ prog_12_method_10_code 2 none) ∈ zG := zG_mk (zG_t2 (List.mem_of_getElem? (i := 59) rfl)) rfl
theorem gw_2_60 : (Cond.methodLink "WingDoor$Text" 81 ⟨"WingDoor$Text", "readDigits", "()V"⟩) ∈ zG := zG_mk (zG_t2 (List.mem_of_getElem? (i := 60) rfl)) rfl
theorem gw_2_62 : (Cond.instanceMethod ⟨"WingDoor$Text", "readDigits", "()V"⟩) ∈ zG := zG_mk (zG_t2 (List.mem_of_getElem? (i := 62) rfl)) rfl
theorem gw_2_63 : (Cond.code ⟨"WingDoor$Text", "readDigits", "()V"⟩ prog_12_method_11_code 3 none) ∈ zG := zG_mk (zG_t2 (List.mem_of_getElem? (i := 63) rfl)) rfl
theorem gw_2_64 : (Cond.methodLink "WingDoor$Text" 37 ⟨"WingDoor$Text", "readItem", "(LWingDoor$Plan;I)Z"⟩) ∈ zG := zG_mk (zG_t2 (List.mem_of_getElem? (i := 64) rfl)) rfl
theorem gw_2_66 : (Cond.instanceMethod ⟨"WingDoor$Text", "readItem", "(LWingDoor$Plan;I)Z"⟩) ∈ zG := zG_mk (zG_t2 (List.mem_of_getElem? (i := 66) rfl)) rfl
theorem gw_2_67 : (Cond.code ⟨"WingDoor$Text", "readItem", "(LWingDoor$Plan;I)Z"⟩ prog_12_method_4_code 3 (some .boolean)) ∈ zG := zG_mk (zG_t2 (List.mem_of_getElem? (i := 67) rfl)) rfl
theorem gw_2_68 : (Cond.methodLink "WingDoor$Text" 44 ⟨"WingDoor$Text", "readRooms", "(LWingDoor$Plan;)Z"⟩) ∈ zG := zG_mk (zG_t2 (List.mem_of_getElem? (i := 68) rfl)) rfl
theorem gw_2_70 : (Cond.instanceMethod ⟨"WingDoor$Text", "readRooms", "(LWingDoor$Plan;)Z"⟩) ∈ zG := zG_mk (zG_t2 (List.mem_of_getElem? (i := 70) rfl)) rfl
theorem gw_2_71 : (Cond.code ⟨"WingDoor$Text", "readRooms", "(LWingDoor$Plan;)Z"⟩ prog_12_method_5_code 2 (some .boolean)) ∈ zG := zG_mk (zG_t2 (List.mem_of_getElem? (i := 71) rfl)) rfl
theorem gw_2_72 : (Cond.methodLink "WingDoor$Text" 57 ⟨"WingDoor$Text", "readNumber", "(II)Z"⟩) ∈ zG := zG_mk (zG_t2 (List.mem_of_getElem? (i := 72) rfl)) rfl
theorem gw_2_74 : (Cond.instanceMethod ⟨"WingDoor$Text", "readNumber", "(II)Z"⟩) ∈ zG := zG_mk (zG_t2 (List.mem_of_getElem? (i := 74) rfl)) rfl
theorem gw_2_75 : (Cond.code ⟨"WingDoor$Text", "readNumber", "(II)Z"⟩ prog_12_method_8_code 3 (some .boolean)) ∈ zG := zG_mk (zG_t2 (List.mem_of_getElem? (i := 75) rfl)) rfl
theorem gw_2_76 : (Cond.methodLink "WingDoor$Text" 70 ⟨"WingDoor$Text", "readSemicolon", "()Z"⟩) ∈ zG := zG_mk (zG_t2 (List.mem_of_getElem? (i := 76) rfl)) rfl
theorem gw_2_78 : (Cond.instanceMethod ⟨"WingDoor$Text", "readSemicolon", "()Z"⟩) ∈ zG := zG_mk (zG_t2 (List.mem_of_getElem? (i := 78) rfl)) rfl
theorem gw_2_79 : (Cond.code ⟨"WingDoor$Text", "readSemicolon", "()Z"⟩ prog_12_method_9_code 1 (some .boolean)) ∈ zG := zG_mk (zG_t2 (List.mem_of_getElem? (i := 79) rfl)) rfl
theorem gw_2_80 : (Cond.methodLink "WingDoor$Text" 48 ⟨"WingDoor$Text", "readHard", "(LWingDoor$Plan;)Z"⟩) ∈ zG := zG_mk (zG_t2 (List.mem_of_getElem? (i := 80) rfl)) rfl
theorem gw_2_82 : (Cond.instanceMethod ⟨"WingDoor$Text", "readHard", "(LWingDoor$Plan;)Z"⟩) ∈ zG := zG_mk (zG_t2 (List.mem_of_getElem? (i := 82) rfl)) rfl
theorem gw_2_83 : (Cond.code ⟨"WingDoor$Text", "readHard", "(LWingDoor$Plan;)Z"⟩ prog_12_method_6_code 2 (some .boolean)) ∈ zG := zG_mk (zG_t2 (List.mem_of_getElem? (i := 83) rfl)) rfl
theorem gw_2_84 : (Cond.methodLink "WingDoor$Text" 54 ⟨"WingDoor$Text", "readSort", "(LWingDoor$Plan;)Z"⟩) ∈ zG := zG_mk (zG_t2 (List.mem_of_getElem? (i := 84) rfl)) rfl
theorem gw_2_86 : (Cond.instanceMethod ⟨"WingDoor$Text", "readSort", "(LWingDoor$Plan;)Z"⟩) ∈ zG := zG_mk (zG_t2 (List.mem_of_getElem? (i := 86) rfl)) rfl
theorem gw_2_87 : (Cond.code ⟨"WingDoor$Text", "readSort", "(LWingDoor$Plan;)Z"⟩ prog_12_method_7_code 3 (some .boolean)) ∈ zG := zG_mk (zG_t2 (List.mem_of_getElem? (i := 87) rfl)) rfl
theorem gw_2_88 : (Cond.methodLink "WingDoor$Text" 77 ⟨"WingDoor$Plan", "addSort", "(II)V"⟩) ∈ zG := zG_mk (zG_t2 (List.mem_of_getElem? (i := 88) rfl)) rfl
theorem gw_2_89 : (Cond.instanceMethod ⟨"WingDoor$Plan", "addSort", "(II)V"⟩) ∈ zG := zG_mk (zG_t2 (List.mem_of_getElem? (i := 89) rfl)) rfl
theorem gw_2_90 : (Cond.selects "WingDoor$Plan" ⟨"WingDoor$Plan", "addSort", "(II)V"⟩ ⟨"WingDoor$Plan", "addSort", "(II)V"⟩) ∈ zG := zG_mk (zG_t2 (List.mem_of_getElem? (i := 90) rfl)) rfl
theorem gw_2_91 : (Cond.code ⟨"WingDoor$Plan", "addSort", "(II)V"⟩ prog_9_method_4_code 3 none) ∈ zG := zG_mk (zG_t2 (List.mem_of_getElem? (i := 91) rfl)) rfl
theorem gw_2_92 : (Cond.methodLink "WingDoor" 98 ⟨"WingDoor$Plan", "copy", "(LWingDoor$Plan;)V"⟩) ∈ zG := zG_mk (zG_t2 (List.mem_of_getElem? (i := 92) rfl)) rfl
theorem gw_2_93 : (Cond.instanceMethod ⟨"WingDoor$Plan", "copy", "(LWingDoor$Plan;)V"⟩) ∈ zG := zG_mk (zG_t2 (List.mem_of_getElem? (i := 93) rfl)) rfl
theorem gw_2_94 : (Cond.selects "WingDoor$Plan" ⟨"WingDoor$Plan", "copy", "(LWingDoor$Plan;)V"⟩ ⟨"WingDoor$Plan", "copy", "(LWingDoor$Plan;)V"⟩) ∈ zG := zG_mk (zG_t2 (List.mem_of_getElem? (i := 94) rfl)) rfl
theorem gw_2_95 : (Cond.code ⟨"WingDoor$Plan", "copy", "(LWingDoor$Plan;)V"⟩ prog_9_method_3_code 2 none) ∈ zG := zG_mk (zG_t2 (List.mem_of_getElem? (i := 95) rfl)) rfl
theorem gw_2_96 : (Cond.methodLink "WingDoor$Plan" 34 ⟨"java/lang/System", "arraycopy", "(Ljava/lang/Object;ILjava/lang/Object;II)V"⟩) ∈ zG := zG_mk (zG_t2 (List.mem_of_getElem? (i := 96) rfl)) rfl
theorem gw_2_97 : (Cond.static ⟨"java/lang/System", "arraycopy", "(Ljava/lang/Object;ILjava/lang/Object;II)V"⟩) ∈ zG := zG_mk (zG_t2 (List.mem_of_getElem? (i := 97) rfl)) rfl
theorem gw_2_98 : (Cond.native ⟨"java/lang/System", "arraycopy", "(Ljava/lang/Object;ILjava/lang/Object;II)V"⟩) ∈ zG := zG_mk (zG_t2 (List.mem_of_getElem? (i := 98) rfl)) rfl
theorem gw_2_99 : (Cond.methodLink "WingDoor" 101 ⟨"WingDoor$Moment", "empty", "()V"⟩) ∈ zG := zG_mk (zG_t2 (List.mem_of_getElem? (i := 99) rfl)) rfl
theorem gw_2_100 : (Cond.instanceMethod ⟨"WingDoor$Moment", "empty", "()V"⟩) ∈ zG := zG_mk (zG_t2 (List.mem_of_getElem? (i := 100) rfl)) rfl
theorem gw_2_101 : (Cond.selects "WingDoor$Moment" ⟨"WingDoor$Moment", "empty", "()V"⟩ ⟨"WingDoor$Moment", "empty", "()V"⟩) ∈ zG := zG_mk (zG_t2 (List.mem_of_getElem? (i := 101) rfl)) rfl
theorem gw_2_102 : (Cond.code ⟨"WingDoor$Moment", "empty", "()V"⟩ prog_7_method_2_code 1 none) ∈ zG := zG_mk (zG_t2 (List.mem_of_getElem? (i := 102) rfl)) rfl
theorem gw_2_103 : (Cond.methodLink "WingDoorLaw" 27 ⟨"WingDoor", "sort", "(II)I"⟩) ∈ zG := zG_mk (zG_t2 (List.mem_of_getElem? (i := 103) rfl)) rfl
theorem gw_2_104 : (Cond.instanceMethod ⟨"WingDoor", "sort", "(II)I"⟩) ∈ zG := zG_mk (zG_t2 (List.mem_of_getElem? (i := 104) rfl)) rfl
theorem gw_2_105 : (Cond.selects "WingDoor" ⟨"WingDoor", "sort", "(II)I"⟩ ⟨"WingDoor", "sort", "(II)I"⟩) ∈ zG := zG_mk (zG_t2 (List.mem_of_getElem? (i := 105) rfl)) rfl
theorem gw_2_106 : (Cond.code ⟨"WingDoor", "sort", "(II)I"⟩ prog_1_method_5_code 3 (some .int)) ∈ zG := zG_mk (zG_t2 (List.mem_of_getElem? (i := 106) rfl)) rfl
theorem gw_2_107 : (Cond.methodLink "WingDoor" 108 ⟨"WingDoor$Plan", "hasSort", "(I)Z"⟩) ∈ zG := zG_mk (zG_t2 (List.mem_of_getElem? (i := 107) rfl)) rfl
theorem gw_2_108 : (Cond.instanceMethod ⟨"WingDoor$Plan", "hasSort", "(I)Z"⟩) ∈ zG := zG_mk (zG_t2 (List.mem_of_getElem? (i := 108) rfl)) rfl
theorem gw_2_109 : (Cond.selects "WingDoor$Plan" ⟨"WingDoor$Plan", "hasSort", "(I)Z"⟩ ⟨"WingDoor$Plan", "hasSort", "(I)Z"⟩) ∈ zG := zG_mk (zG_t2 (List.mem_of_getElem? (i := 109) rfl)) rfl
theorem gw_2_110 : (Cond.code ⟨"WingDoor$Plan", "hasSort", "(I)Z"⟩ prog_9_method_5_code 2 (some .boolean)) ∈ zG := zG_mk (zG_t2 (List.mem_of_getElem? (i := 110) rfl)) rfl
theorem gw_2_111 : (Cond.methodLink "WingDoor" 111 ⟨"WingDoor$Plan", "bulkOf", "(I)I"⟩) ∈ zG := zG_mk (zG_t2 (List.mem_of_getElem? (i := 111) rfl)) rfl
theorem gw_2_112 : (Cond.instanceMethod ⟨"WingDoor$Plan", "bulkOf", "(I)I"⟩) ∈ zG := zG_mk (zG_t2 (List.mem_of_getElem? (i := 112) rfl)) rfl
theorem gw_2_113 : (Cond.selects "WingDoor$Plan" ⟨"WingDoor$Plan", "bulkOf", "(I)I"⟩ ⟨"WingDoor$Plan", "bulkOf", "(I)I"⟩) ∈ zG := zG_mk (zG_t2 (List.mem_of_getElem? (i := 113) rfl)) rfl
theorem gw_2_114 : (Cond.code ⟨"WingDoor$Plan", "bulkOf", "(I)I"⟩ prog_9_method_6_code 2 (some .int)) ∈ zG := zG_mk (zG_t2 (List.mem_of_getElem? (i := 114) rfl)) rfl
theorem gw_2_115 : (Cond.methodLink "WingDoor" 115 ⟨"WingDoor$Plan", "pushOf", "(I)I"⟩) ∈ zG := zG_mk (zG_t2 (List.mem_of_getElem? (i := 115) rfl)) rfl
theorem gw_2_116 : (Cond.instanceMethod ⟨"WingDoor$Plan", "pushOf", "(I)I"⟩) ∈ zG := zG_mk (zG_t2 (List.mem_of_getElem? (i := 116) rfl)) rfl
theorem gw_2_117 : (Cond.selects "WingDoor$Plan" ⟨"WingDoor$Plan", "pushOf", "(I)I"⟩ ⟨"WingDoor$Plan", "pushOf", "(I)I"⟩) ∈ zG := zG_mk (zG_t2 (List.mem_of_getElem? (i := 117) rfl)) rfl
theorem gw_2_118 : (Cond.code ⟨"WingDoor$Plan", "pushOf", "(I)I"⟩ prog_9_method_7_code 2 (some .int)) ∈ zG := zG_mk (zG_t2 (List.mem_of_getElem? (i := 118) rfl)) rfl
theorem gw_2_119 : (Cond.methodLink "WingDoor" 118 ⟨"WingDoor$Moment", "howManyOfSort", "(I)I"⟩) ∈ zG := zG_mk (zG_t2 (List.mem_of_getElem? (i := 119) rfl)) rfl
theorem gw_2_120 : (Cond.instanceMethod ⟨"WingDoor$Moment", "howManyOfSort", "(I)I"⟩) ∈ zG := zG_mk (zG_t2 (List.mem_of_getElem? (i := 120) rfl)) rfl
theorem gw_2_121 : (Cond.selects "WingDoor$Moment" ⟨"WingDoor$Moment", "howManyOfSort", "(I)I"⟩ ⟨"WingDoor$Moment", "howManyOfSort", "(I)I"⟩) ∈ zG := zG_mk (zG_t2 (List.mem_of_getElem? (i := 121) rfl)) rfl
theorem gw_2_122 : (Cond.code ⟨"WingDoor$Moment", "howManyOfSort", "(I)I"⟩ prog_7_method_7_code 4 (some .int)) ∈ zG := zG_mk (zG_t2 (List.mem_of_getElem? (i := 122) rfl)) rfl
theorem gw_2_123 : (Cond.methodLink "WingDoorLaw" 32 ⟨"WingDoor", "goer", "(II)I"⟩) ∈ zG := zG_mk (zG_t2 (List.mem_of_getElem? (i := 123) rfl)) rfl
theorem gw_2_124 : (Cond.instanceMethod ⟨"WingDoor", "goer", "(II)I"⟩) ∈ zG := zG_mk (zG_t2 (List.mem_of_getElem? (i := 124) rfl)) rfl
theorem gw_2_125 : (Cond.selects "WingDoor" ⟨"WingDoor", "goer", "(II)I"⟩ ⟨"WingDoor", "goer", "(II)I"⟩) ∈ zG := zG_mk (zG_t2 (List.mem_of_getElem? (i := 125) rfl)) rfl
theorem gw_2_126 : (Cond.code ⟨"WingDoor", "goer", "(II)I"⟩ prog_1_method_6_code 3 (some .int)) ∈ zG := zG_mk (zG_t2 (List.mem_of_getElem? (i := 126) rfl)) rfl
theorem gw_2_127 : (Cond.methodLink "WingDoor" 121 ⟨"WingDoor$Moment", "hasGoer", "(I)Z"⟩) ∈ zG := zG_mk (zG_t2 (List.mem_of_getElem? (i := 127) rfl)) rfl
theorem gw_2_128 : (Cond.instanceMethod ⟨"WingDoor$Moment", "hasGoer", "(I)Z"⟩) ∈ zG := zG_mk (zG_t2 (List.mem_of_getElem? (i := 128) rfl)) rfl
theorem gw_2_129 : (Cond.selects "WingDoor$Moment" ⟨"WingDoor$Moment", "hasGoer", "(I)Z"⟩ ⟨"WingDoor$Moment", "hasGoer", "(I)Z"⟩) ∈ zG := zG_mk (zG_t2 (List.mem_of_getElem? (i := 129) rfl)) rfl
theorem gw_2_130 : (Cond.code ⟨"WingDoor$Moment", "hasGoer", "(I)Z"⟩ prog_7_method_4_code 2 (some .boolean)) ∈ zG := zG_mk (zG_t2 (List.mem_of_getElem? (i := 130) rfl)) rfl
theorem gw_2_131 : (Cond.methodLink "WingDoor" 137 ⟨"WingDoor$Moment", "howManyAheadOf", "(I)I"⟩) ∈ zG := zG_mk (zG_t2 (List.mem_of_getElem? (i := 131) rfl)) rfl
theorem gw_2_132 : (Cond.instanceMethod ⟨"WingDoor$Moment", "howManyAheadOf", "(I)I"⟩) ∈ zG := zG_mk (zG_t2 (List.mem_of_getElem? (i := 132) rfl)) rfl
theorem gw_2_133 : (Cond.selects "WingDoor$Moment" ⟨"WingDoor$Moment", "howManyAheadOf", "(I)I"⟩ ⟨"WingDoor$Moment", "howManyAheadOf", "(I)I"⟩) ∈ zG := zG_mk (zG_t2 (List.mem_of_getElem? (i := 133) rfl)) rfl
theorem gw_2_134 : (Cond.code ⟨"WingDoor$Moment", "howManyAheadOf", "(I)I"⟩ prog_7_method_16_code 5 (some .int)) ∈ zG := zG_mk (zG_t2 (List.mem_of_getElem? (i := 134) rfl)) rfl
theorem gw_2_135 : (Cond.methodLink "WingDoor$Moment" 44 ⟨"WingDoor$Moment", "hasGoer", "(I)Z"⟩) ∈ zG := zG_mk (zG_t2 (List.mem_of_getElem? (i := 135) rfl)) rfl
theorem gw_2_136 : (Cond.methodLink "WingDoor" 140 ⟨"WingDoor", "whenNow", "(I)I"⟩) ∈ zG := zG_mk (zG_t2 (List.mem_of_getElem? (i := 136) rfl)) rfl
theorem gw_2_138 : (Cond.instanceMethod ⟨"WingDoor", "whenNow", "(I)I"⟩) ∈ zG := zG_mk (zG_t2 (List.mem_of_getElem? (i := 138) rfl)) rfl
theorem gw_2_139 : (Cond.code ⟨"WingDoor", "whenNow", "(I)I"⟩ prog_1_method_27_code 2 (some .int)) ∈ zG := zG_mk (zG_t2 (List.mem_of_getElem? (i := 139) rfl)) rfl
theorem gw_2_140 : (Cond.methodLink "WingDoor" 248 ⟨"WingDoor$Moment", "copy", "(LWingDoor$Moment;)V"⟩) ∈ zG := zG_mk (zG_t2 (List.mem_of_getElem? (i := 140) rfl)) rfl
theorem gw_2_141 : (Cond.instanceMethod ⟨"WingDoor$Moment", "copy", "(LWingDoor$Moment;)V"⟩) ∈ zG := zG_mk (zG_t2 (List.mem_of_getElem? (i := 141) rfl)) rfl
theorem gw_2_142 : (Cond.selects "WingDoor$Moment" ⟨"WingDoor$Moment", "copy", "(LWingDoor$Moment;)V"⟩ ⟨"WingDoor$Moment", "copy", "(LWingDoor$Moment;)V"⟩) ∈ zG := zG_mk (zG_t2 (List.mem_of_getElem? (i := 142) rfl)) rfl
theorem gw_2_143 : (Cond.code ⟨"WingDoor$Moment", "copy", "(LWingDoor$Moment;)V"⟩ prog_7_method_3_code 2 none) ∈ zG := zG_mk (zG_t2 (List.mem_of_getElem? (i := 143) rfl)) rfl
theorem gw_2_144 : (Cond.methodLink "WingDoor$Moment" 38 ⟨"java/lang/System", "arraycopy", "(Ljava/lang/Object;ILjava/lang/Object;II)V"⟩) ∈ zG := zG_mk (zG_t2 (List.mem_of_getElem? (i := 144) rfl)) rfl
theorem gw_2_145 : (Cond.methodLink "WingDoor" 263 ⟨"WingDoor$Moment", "runUntilThrough", "(I)I"⟩) ∈ zG := zG_mk (zG_t2 (List.mem_of_getElem? (i := 145) rfl)) rfl
theorem gw_2_146 : (Cond.instanceMethod ⟨"WingDoor$Moment", "runUntilThrough", "(I)I"⟩) ∈ zG := zG_mk (zG_t2 (List.mem_of_getElem? (i := 146) rfl)) rfl
theorem gw_2_147 : (Cond.selects "WingDoor$Moment" ⟨"WingDoor$Moment", "runUntilThrough", "(I)I"⟩ ⟨"WingDoor$Moment", "runUntilThrough", "(I)I"⟩) ∈ zG := zG_mk (zG_t2 (List.mem_of_getElem? (i := 147) rfl)) rfl
theorem gw_2_148 : (Cond.code ⟨"WingDoor$Moment", "runUntilThrough", "(I)I"⟩ prog_7_method_23_code 3 (some .int)) ∈ zG := zG_mk (zG_t2 (List.mem_of_getElem? (i := 148) rfl)) rfl
theorem gw_2_149 : (Cond.methodLink "WingDoor$Moment" 81 ⟨"WingDoor$Moment", "sticks", "()Z"⟩) ∈ zG := zG_mk (zG_t2 (List.mem_of_getElem? (i := 149) rfl)) rfl
theorem gw_2_150 : (Cond.instanceMethod ⟨"WingDoor$Moment", "sticks", "()Z"⟩) ∈ zG := zG_mk (zG_t2 (List.mem_of_getElem? (i := 150) rfl)) rfl
theorem gw_2_151 : (Cond.selects "WingDoor$Moment" ⟨"WingDoor$Moment", "sticks", "()Z"⟩ ⟨"WingDoor$Moment", "sticks", "()Z"⟩) ∈ zG := zG_mk (zG_t2 (List.mem_of_getElem? (i := 151) rfl)) rfl
theorem gw_2_152 : (Cond.code ⟨"WingDoor$Moment", "sticks", "()Z"⟩ prog_7_method_14_code 1 (some .boolean)) ∈ zG := zG_mk (zG_t2 (List.mem_of_getElem? (i := 152) rfl)) rfl
theorem gw_2_153 : (Cond.methodLink "WingDoor$Moment" 57 ⟨"WingDoor$Moment", "whoIs", "(I)I"⟩) ∈ zG := zG_mk (zG_t2 (List.mem_of_getElem? (i := 153) rfl)) rfl
theorem gw_2_154 : (Cond.instanceMethod ⟨"WingDoor$Moment", "whoIs", "(I)I"⟩) ∈ zG := zG_mk (zG_t2 (List.mem_of_getElem? (i := 154) rfl)) rfl
theorem gw_2_155 : (Cond.selects "WingDoor$Moment" ⟨"WingDoor$Moment", "whoIs", "(I)I"⟩ ⟨"WingDoor$Moment", "whoIs", "(I)I"⟩) ∈ zG := zG_mk (zG_t2 (List.mem_of_getElem? (i := 155) rfl)) rfl
theorem gw_2_156 : (Cond.code ⟨"WingDoor$Moment", "whoIs", "(I)I"⟩ prog_7_method_8_code 4 (some .int)) ∈ zG := zG_mk (zG_t2 (List.mem_of_getElem? (i := 156) rfl)) rfl
theorem gw_2_157 : (Cond.methodLink "WingDoor$Moment" 68 ⟨"WingDoor$Moment", "load", "()I"⟩) ∈ zG := zG_mk (zG_t2 (List.mem_of_getElem? (i := 157) rfl)) rfl
theorem gw_2_158 : (Cond.instanceMethod ⟨"WingDoor$Moment", "load", "()I"⟩) ∈ zG := zG_mk (zG_t2 (List.mem_of_getElem? (i := 158) rfl)) rfl
theorem gw_2_159 : (Cond.selects "WingDoor$Moment" ⟨"WingDoor$Moment", "load", "()I"⟩ ⟨"WingDoor$Moment", "load", "()I"⟩) ∈ zG := zG_mk (zG_t2 (List.mem_of_getElem? (i := 159) rfl)) rfl
theorem gw_2_160 : (Cond.code ⟨"WingDoor$Moment", "load", "()I"⟩ prog_7_method_12_code 3 (some .int)) ∈ zG := zG_mk (zG_t2 (List.mem_of_getElem? (i := 160) rfl)) rfl
theorem gw_2_161 : (Cond.methodLink "WingDoor$Moment" 54 ⟨"WingDoor$Plan", "pushOf", "(I)I"⟩) ∈ zG := zG_mk (zG_t2 (List.mem_of_getElem? (i := 161) rfl)) rfl
theorem gw_2_162 : (Cond.methodLink "WingDoor$Moment" 72 ⟨"WingDoor$Moment", "drag", "()I"⟩) ∈ zG := zG_mk (zG_t2 (List.mem_of_getElem? (i := 162) rfl)) rfl
theorem gw_2_163 : (Cond.instanceMethod ⟨"WingDoor$Moment", "drag", "()I"⟩) ∈ zG := zG_mk (zG_t2 (List.mem_of_getElem? (i := 163) rfl)) rfl
theorem gw_2_164 : (Cond.selects "WingDoor$Moment" ⟨"WingDoor$Moment", "drag", "()I"⟩ ⟨"WingDoor$Moment", "drag", "()I"⟩) ∈ zG := zG_mk (zG_t2 (List.mem_of_getElem? (i := 164) rfl)) rfl
theorem gw_2_165 : (Cond.code ⟨"WingDoor$Moment", "drag", "()I"⟩ prog_7_method_13_code 1 (some .int)) ∈ zG := zG_mk (zG_t2 (List.mem_of_getElem? (i := 165) rfl)) rfl
theorem gw_2_166 : (Cond.methodLink "WingDoor$Moment" 60 ⟨"java/lang/Integer", "bitCount", "(I)I"⟩) ∈ zG := zG_mk (zG_t2 (List.mem_of_getElem? (i := 166) rfl)) rfl
theorem gw_2_167 : (Cond.static ⟨"java/lang/Integer", "bitCount", "(I)I"⟩) ∈ zG := zG_mk (zG_t2 (List.mem_of_getElem? (i := 167) rfl)) rfl
theorem gw_2_168 : (Cond.code ⟨"java/lang/Integer", "bitCount", "(I)I"⟩ prog_15_method_49_code 1 (some .int)) ∈ zG := zG_mk (zG_t2 (List.mem_of_getElem? (i := 168) rfl)) rfl
theorem gw_2_169 : (Cond.constant "java/lang/Integer" 265 1431655765) ∈ zG := zG_mk (zG_t2 (List.mem_of_getElem? (i := 169) rfl)) rfl
theorem gw_2_170 : (Cond.constant "java/lang/Integer" 266 858993459) ∈ zG := zG_mk (zG_t2 (List.mem_of_getElem? (i := 170) rfl)) rfl
theorem gw_2_171 : (Cond.constant "java/lang/Integer" 267 252645135) ∈ zG := zG_mk (zG_t2 (List.mem_of_getElem? (i := 171) rfl)) rfl
theorem gw_2_172 : (Cond.methodLink "WingDoor$Moment" 100 ⟨"WingDoor$Moment", "turn", "()I"⟩) ∈ zG := zG_mk (zG_t2 (List.mem_of_getElem? (i := 172) rfl)) rfl
theorem gw_2_173 : (Cond.instanceMethod ⟨"WingDoor$Moment", "turn", "()I"⟩) ∈ zG := zG_mk (zG_t2 (List.mem_of_getElem? (i := 173) rfl)) rfl
theorem gw_2_174 : (Cond.selects "WingDoor$Moment" ⟨"WingDoor$Moment", "turn", "()I"⟩ ⟨"WingDoor$Moment", "turn", "()I"⟩) ∈ zG := zG_mk (zG_t2 (List.mem_of_getElem? (i := 174) rfl)) rfl
theorem gw_2_175 : (Cond.code ⟨"WingDoor$Moment", "turn", "()I"⟩ prog_7_method_20_code 4 (some .int)) ∈ zG := zG_mk (zG_t2 (List.mem_of_getElem? (i := 175) rfl)) rfl
theorem gw_2_176 : (Cond.methodLink "WingDoor$Moment" 85 ⟨"WingDoor$Moment", "carry", "(I)Z"⟩) ∈ zG := zG_mk (zG_t2 (List.mem_of_getElem? (i := 176) rfl)) rfl
theorem gw_2_178 : (Cond.instanceMethod ⟨"WingDoor$Moment", "carry", "(I)Z"⟩) ∈ zG := zG_mk (zG_t2 (List.mem_of_getElem? (i := 178) rfl)) rfl
theorem gw_2_179 : (Cond.code ⟨"WingDoor$Moment", "carry", "(I)Z"⟩ prog_7_method_21_code 3 (some .boolean)) ∈ zG := zG_mk (zG_t2 (List.mem_of_getElem? (i := 179) rfl)) rfl
theorem gw_2_180 : (Cond.methodLink "WingDoor$Moment" 88 ⟨"WingDoor$Plan", "placeBehind", "(I)I"⟩) ∈ zG := zG_mk (zG_t2 (List.mem_of_getElem? (i := 180) rfl)) rfl
theorem gw_2_181 : (Cond.instanceMethod ⟨"WingDoor$Plan", "placeBehind", "(I)I"⟩) ∈ zG := zG_mk (zG_t2 (List.mem_of_getElem? (i := 181) rfl)) rfl
theorem gw_2_182 : (Cond.selects "WingDoor$Plan" ⟨"WingDoor$Plan", "placeBehind", "(I)I"⟩ ⟨"WingDoor$Plan", "placeBehind", "(I)I"⟩) ∈ zG := zG_mk (zG_t2 (List.mem_of_getElem? (i := 182) rfl)) rfl
theorem gw_2_183 : (Cond.code ⟨"WingDoor$Plan", "placeBehind", "(I)I"⟩ prog_9_method_11_code 2 (some .int)) ∈ zG := zG_mk (zG_t2 (List.mem_of_getElem? (i := 183) rfl)) rfl
theorem gw_2_184 : (Cond.methodLink "WingDoor$Moment" 91 ⟨"WingDoor$Plan", "placeOfSide", "(I)I"⟩) ∈ zG := zG_mk (zG_t2 (List.mem_of_getElem? (i := 184) rfl)) rfl
theorem gw_2_185 : (Cond.instanceMethod ⟨"WingDoor$Plan", "placeOfSide", "(I)I"⟩) ∈ zG := zG_mk (zG_t2 (List.mem_of_getElem? (i := 185) rfl)) rfl
theorem gw_2_186 : (Cond.selects "WingDoor$Plan" ⟨"WingDoor$Plan", "placeOfSide", "(I)I"⟩ ⟨"WingDoor$Plan", "placeOfSide", "(I)I"⟩) ∈ zG := zG_mk (zG_t2 (List.mem_of_getElem? (i := 186) rfl)) rfl
theorem gw_2_187 : (Cond.code ⟨"WingDoor$Plan", "placeOfSide", "(I)I"⟩ prog_9_method_10_code 2 (some .int)) ∈ zG := zG_mk (zG_t2 (List.mem_of_getElem? (i := 187) rfl)) rfl
theorem gw_2_188 : (Cond.methodLink "WingDoor$Moment" 75 ⟨"WingDoor$Moment", "fill", "()V"⟩) ∈ zG := zG_mk (zG_t2 (List.mem_of_getElem? (i := 188) rfl)) rfl
theorem gw_2_190 : (Cond.instanceMethod ⟨"WingDoor$Moment", "fill", "()V"⟩) ∈ zG := zG_mk (zG_t2 (List.mem_of_getElem? (i := 190) rfl)) rfl
theorem gw_2_191 : (Cond.code ⟨"WingDoor$Moment", "fill", "()V"⟩ prog_7_method_22_code 6 none) ∈ zG := zG_mk (zG_t2 (List.mem_of_getElem? (i := 191) rfl)) rfl
theorem gw_2_192 : (Cond.methodLink "WingDoor$Moment" 97 ⟨"WingDoor$Moment", "bulkInRoomAt", "(I)I"⟩) ∈ zG := zG_mk (zG_t2 (List.mem_of_getElem? (i := 192) rfl)) rfl
theorem gw_2_193 : (Cond.instanceMethod ⟨"WingDoor$Moment", "bulkInRoomAt", "(I)I"⟩) ∈ zG := zG_mk (zG_t2 (List.mem_of_getElem? (i := 193) rfl)) rfl
theorem gw_2_194 : (Cond.selects "WingDoor$Moment" ⟨"WingDoor$Moment", "bulkInRoomAt", "(I)I"⟩ ⟨"WingDoor$Moment", "bulkInRoomAt", "(I)I"⟩) ∈ zG := zG_mk (zG_t2 (List.mem_of_getElem? (i := 194) rfl)) rfl
theorem gw_2_195 : (Cond.code ⟨"WingDoor$Moment", "bulkInRoomAt", "(I)I"⟩ prog_7_method_11_code 4 (some .int)) ∈ zG := zG_mk (zG_t2 (List.mem_of_getElem? (i := 195) rfl)) rfl
theorem gw_2_196 : (Cond.methodLink "WingDoor$Moment" 48 ⟨"WingDoor$Plan", "bulkOf", "(I)I"⟩) ∈ zG := zG_mk (zG_t2 (List.mem_of_getElem? (i := 196) rfl)) rfl
theorem gw_2_197 : (Cond.methodLink "WingDoor$Moment" 78 ⟨"WingDoor$Moment", "firstOn", "(I)I"⟩) ∈ zG := zG_mk (zG_t2 (List.mem_of_getElem? (i := 197) rfl)) rfl
theorem gw_2_198 : (Cond.instanceMethod ⟨"WingDoor$Moment", "firstOn", "(I)I"⟩) ∈ zG := zG_mk (zG_t2 (List.mem_of_getElem? (i := 198) rfl)) rfl
theorem gw_2_199 : (Cond.selects "WingDoor$Moment" ⟨"WingDoor$Moment", "firstOn", "(I)I"⟩ ⟨"WingDoor$Moment", "firstOn", "(I)I"⟩) ∈ zG := zG_mk (zG_t2 (List.mem_of_getElem? (i := 199) rfl)) rfl
theorem gw_2_200 : (Cond.code ⟨"WingDoor$Moment", "firstOn", "(I)I"⟩ prog_7_method_15_code 5 (some .int)) ∈ zG := zG_mk (zG_t2 (List.mem_of_getElem? (i := 200) rfl)) rfl
theorem gw_2_201 : (Cond.methodLink "WingDoor" 143 ⟨"WingDoor", "orNone", "(I)I"⟩) ∈ zG := zG_mk (zG_t2 (List.mem_of_getElem? (i := 201) rfl)) rfl
theorem gw_2_202 : (Cond.static ⟨"WingDoor", "orNone", "(I)I"⟩) ∈ zG := zG_mk (zG_t2 (List.mem_of_getElem? (i := 202) rfl)) rfl
theorem gw_2_203 : (Cond.code ⟨"WingDoor", "orNone", "(I)I"⟩ prog_1_method_26_code 1 (some .int)) ∈ zG := zG_mk (zG_t2 (List.mem_of_getElem? (i := 203) rfl)) rfl
theorem gw_2_204 : (Cond.methodLink "WingDoorLaw" 36 ⟨"WingDoor", "room", "(II)I"⟩) ∈ zG := zG_mk (zG_t2 (List.mem_of_getElem? (i := 204) rfl)) rfl
theorem gw_2_205 : (Cond.instanceMethod ⟨"WingDoor", "room", "(II)I"⟩) ∈ zG := zG_mk (zG_t2 (List.mem_of_getElem? (i := 205) rfl)) rfl
theorem gw_2_206 : (Cond.selects "WingDoor" ⟨"WingDoor", "room", "(II)I"⟩ ⟨"WingDoor", "room", "(II)I"⟩) ∈ zG := zG_mk (zG_t2 (List.mem_of_getElem? (i := 206) rfl)) rfl
theorem gw_2_207 : (Cond.code ⟨"WingDoor", "room", "(II)I"⟩ prog_1_method_7_code 3 (some .int)) ∈ zG := zG_mk (zG_t2 (List.mem_of_getElem? (i := 207) rfl)) rfl
theorem gw_2_208 : (Cond.methodLink "WingDoor" 149 ⟨"WingDoor$Moment", "whoIsInRoomAt", "(I)I"⟩) ∈ zG := zG_mk (zG_t2 (List.mem_of_getElem? (i := 208) rfl)) rfl
theorem gw_2_209 : (Cond.instanceMethod ⟨"WingDoor$Moment", "whoIsInRoomAt", "(I)I"⟩) ∈ zG := zG_mk (zG_t2 (List.mem_of_getElem? (i := 209) rfl)) rfl
theorem gw_2_210 : (Cond.selects "WingDoor$Moment" ⟨"WingDoor$Moment", "whoIsInRoomAt", "(I)I"⟩ ⟨"WingDoor$Moment", "whoIsInRoomAt", "(I)I"⟩) ∈ zG := zG_mk (zG_t2 (List.mem_of_getElem? (i := 210) rfl)) rfl
theorem gw_2_211 : (Cond.code ⟨"WingDoor$Moment", "whoIsInRoomAt", "(I)I"⟩ prog_7_method_10_code 4 (some .int)) ∈ zG := zG_mk (zG_t2 (List.mem_of_getElem? (i := 211) rfl)) rfl
theorem gw_2_212 : (Cond.methodLink "WingDoor" 152 ⟨"WingDoor$Moment", "bulkInRoomAt", "(I)I"⟩) ∈ zG := zG_mk (zG_t2 (List.mem_of_getElem? (i := 212) rfl)) rfl
theorem gw_2_213 : (Cond.methodLink "WingDoorLaw" 40 ⟨"WingDoor", "now", "(I)I"⟩) ∈ zG := zG_mk (zG_t2 (List.mem_of_getElem? (i := 213) rfl)) rfl
theorem gw_2_214 : (Cond.instanceMethod ⟨"WingDoor", "now", "(I)I"⟩) ∈ zG := zG_mk (zG_t2 (List.mem_of_getElem? (i := 214) rfl)) rfl
theorem gw_2_215 : (Cond.selects "WingDoor" ⟨"WingDoor", "now", "(I)I"⟩ ⟨"WingDoor", "now", "(I)I"⟩) ∈ zG := zG_mk (zG_t2 (List.mem_of_getElem? (i := 215) rfl)) rfl
theorem gw_2_216 : (Cond.code ⟨"WingDoor", "now", "(I)I"⟩ prog_1_method_8_code 2 (some .int)) ∈ zG := zG_mk (zG_t2 (List.mem_of_getElem? (i := 216) rfl)) rfl
theorem gw_2_217 : (Cond.methodLink "WingDoor" 158 ⟨"WingDoor$Moment", "load", "()I"⟩) ∈ zG := zG_mk (zG_t2 (List.mem_of_getElem? (i := 217) rfl)) rfl
theorem gw_2_218 : (Cond.methodLink "WingDoor" 162 ⟨"WingDoor$Moment", "drag", "()I"⟩) ∈ zG := zG_mk (zG_t2 (List.mem_of_getElem? (i := 218) rfl)) rfl
theorem gw_2_219 : (Cond.methodLink "WingDoor" 165 ⟨"WingDoor$Moment", "whoIs", "(I)I"⟩) ∈ zG := zG_mk (zG_t2 (List.mem_of_getElem? (i := 219) rfl)) rfl
theorem gw_2_220 : (Cond.methodLink "WingDoor" 168 ⟨"WingDoor", "sticksNow", "()I"⟩) ∈ zG := zG_mk (zG_t2 (List.mem_of_getElem? (i := 220) rfl)) rfl
theorem gw_2_222 : (Cond.instanceMethod ⟨"WingDoor", "sticksNow", "()I"⟩) ∈ zG := zG_mk (zG_t2 (List.mem_of_getElem? (i := 222) rfl)) rfl
theorem gw_2_223 : (Cond.code ⟨"WingDoor", "sticksNow", "()I"⟩ prog_1_method_28_code 1 (some .int)) ∈ zG := zG_mk (zG_t2 (List.mem_of_getElem? (i := 223) rfl)) rfl
theorem gw_2_224 : (Cond.methodLink "WingDoor" 266 ⟨"WingDoor$Moment", "runUntilItSticks", "()I"⟩) ∈ zG := zG_mk (zG_t2 (List.mem_of_getElem? (i := 224) rfl)) rfl
theorem gw_2_225 : (Cond.instanceMethod ⟨"WingDoor$Moment", "runUntilItSticks", "()I"⟩) ∈ zG := zG_mk (zG_t2 (List.mem_of_getElem? (i := 225) rfl)) rfl
theorem gw_2_226 : (Cond.selects "WingDoor$Moment" ⟨"WingDoor$Moment", "runUntilItSticks", "()I"⟩ ⟨"WingDoor$Moment", "runUntilItSticks", "()I"⟩) ∈ zG := zG_mk (zG_t2 (List.mem_of_getElem? (i := 226) rfl)) rfl
theorem gw_2_227 : (Cond.code ⟨"WingDoor$Moment", "runUntilItSticks", "()I"⟩ prog_7_method_24_code 2 (some .int)) ∈ zG := zG_mk (zG_t2 (List.mem_of_getElem? (i := 227) rfl)) rfl
theorem gw_2_228 : (Cond.methodLink "WingDoor" 171 ⟨"WingDoor", "allNow", "()I"⟩) ∈ zG := zG_mk (zG_t2 (List.mem_of_getElem? (i := 228) rfl)) rfl
theorem gw_2_230 : (Cond.instanceMethod ⟨"WingDoor", "allNow", "()I"⟩) ∈ zG := zG_mk (zG_t2 (List.mem_of_getElem? (i := 230) rfl)) rfl
theorem gw_2_231 : (Cond.code ⟨"WingDoor", "allNow", "()I"⟩ prog_1_method_29_code 1 (some .int)) ∈ zG := zG_mk (zG_t2 (List.mem_of_getElem? (i := 231) rfl)) rfl
theorem gw_2_232 : (Cond.methodLink "WingDoor" 269 ⟨"WingDoor$Moment", "runUntilEmpty", "()I"⟩) ∈ zG := zG_mk (zG_t2 (List.mem_of_getElem? (i := 232) rfl)) rfl
theorem gw_2_233 : (Cond.instanceMethod ⟨"WingDoor$Moment", "runUntilEmpty", "()I"⟩) ∈ zG := zG_mk (zG_t2 (List.mem_of_getElem? (i := 233) rfl)) rfl
theorem gw_2_234 : (Cond.selects "WingDoor$Moment" ⟨"WingDoor$Moment", "runUntilEmpty", "()I"⟩ ⟨"WingDoor$Moment", "runUntilEmpty", "()I"⟩) ∈ zG := zG_mk (zG_t2 (List.mem_of_getElem? (i := 234) rfl)) rfl
theorem gw_2_235 : (Cond.code ⟨"WingDoor$Moment", "runUntilEmpty", "()I"⟩ prog_7_method_25_code 2 (some .int)) ∈ zG := zG_mk (zG_t2 (List.mem_of_getElem? (i := 235) rfl)) rfl
theorem gw_2_236 : (Cond.methodLink "WingDoorLaw" 44 ⟨"WingDoor", "comes", "(II)I"⟩) ∈ zG := zG_mk (zG_t2 (List.mem_of_getElem? (i := 236) rfl)) rfl
theorem gw_2_237 : (Cond.instanceMethod ⟨"WingDoor", "comes", "(II)I"⟩) ∈ zG := zG_mk (zG_t2 (List.mem_of_getElem? (i := 237) rfl)) rfl
theorem gw_2_238 : (Cond.selects "WingDoor" ⟨"WingDoor", "comes", "(II)I"⟩ ⟨"WingDoor", "comes", "(II)I"⟩) ∈ zG := zG_mk (zG_t2 (List.mem_of_getElem? (i := 238) rfl)) rfl
theorem gw_2_239 : (Cond.code ⟨"WingDoor", "comes", "(II)I"⟩ prog_1_method_9_code 3 (some .int)) ∈ zG := zG_mk (zG_t2 (List.mem_of_getElem? (i := 239) rfl)) rfl
theorem gw_3_0 : (Cond.methodLink "WingDoor" 177 ⟨"WingDoor$Past", "remember", "(LWingDoor$Moment;)V"⟩) ∈ zG := zG_mk (zG_t3 (List.mem_of_getElem? (i := 0) rfl)) rfl
theorem gw_3_1 : (Cond.instanceMethod ⟨"WingDoor$Past", "remember", "(LWingDoor$Moment;)V"⟩) ∈ zG := zG_mk (zG_t3 (List.mem_of_getElem? (i := 1) rfl)) rfl
theorem gw_3_2 : (Cond.selects "WingDoor$Past" ⟨"WingDoor$Past", "remember", "(LWingDoor$Moment;)V"⟩ ⟨"WingDoor$Past", "remember", "(LWingDoor$Moment;)V"⟩) ∈ zG := zG_mk (zG_t3 (List.mem_of_getElem? (i := 2) rfl)) rfl
theorem gw_3_3 : (Cond.code ⟨"WingDoor$Past", "remember", "(LWingDoor$Moment;)V"⟩ prog_8_method_2_code 2 none) ∈ zG := zG_mk (zG_t3 (List.mem_of_getElem? (i := 3) rfl)) rfl
theorem gw_3_4 : (Cond.methodLink "WingDoor$Past" 27 ⟨"WingDoor$Moment", "copy", "(LWingDoor$Moment;)V"⟩) ∈ zG := zG_mk (zG_t3 (List.mem_of_getElem? (i := 4) rfl)) rfl
theorem gw_3_5 : (Cond.methodLink "WingDoor" 181 ⟨"WingDoor$Moment", "letCome", "(II)I"⟩) ∈ zG := zG_mk (zG_t3 (List.mem_of_getElem? (i := 5) rfl)) rfl
theorem gw_3_6 : (Cond.instanceMethod ⟨"WingDoor$Moment", "letCome", "(II)I"⟩) ∈ zG := zG_mk (zG_t3 (List.mem_of_getElem? (i := 6) rfl)) rfl
theorem gw_3_7 : (Cond.selects "WingDoor$Moment" ⟨"WingDoor$Moment", "letCome", "(II)I"⟩ ⟨"WingDoor$Moment", "letCome", "(II)I"⟩) ∈ zG := zG_mk (zG_t3 (List.mem_of_getElem? (i := 7) rfl)) rfl
theorem gw_3_8 : (Cond.code ⟨"WingDoor$Moment", "letCome", "(II)I"⟩ prog_7_method_17_code 4 (some .int)) ∈ zG := zG_mk (zG_t3 (List.mem_of_getElem? (i := 8) rfl)) rfl
theorem gw_3_9 : (Cond.methodLink "WingDoorLaw" 48 ⟨"WingDoor", "steps", "()I"⟩) ∈ zG := zG_mk (zG_t3 (List.mem_of_getElem? (i := 9) rfl)) rfl
theorem gw_3_10 : (Cond.instanceMethod ⟨"WingDoor", "steps", "()I"⟩) ∈ zG := zG_mk (zG_t3 (List.mem_of_getElem? (i := 10) rfl)) rfl
theorem gw_3_11 : (Cond.selects "WingDoor" ⟨"WingDoor", "steps", "()I"⟩ ⟨"WingDoor", "steps", "()I"⟩) ∈ zG := zG_mk (zG_t3 (List.mem_of_getElem? (i := 11) rfl)) rfl
theorem gw_3_12 : (Cond.code ⟨"WingDoor", "steps", "()I"⟩ prog_1_method_10_code 1 (some .int)) ∈ zG := zG_mk (zG_t3 (List.mem_of_getElem? (i := 12) rfl)) rfl
theorem gw_3_13 : (Cond.methodLink "WingDoor" 185 ⟨"WingDoor$Moment", "turn", "()I"⟩) ∈ zG := zG_mk (zG_t3 (List.mem_of_getElem? (i := 13) rfl)) rfl
theorem gw_3_14 : (Cond.methodLink "WingDoorLaw" 52 ⟨"WingDoor", "leaves", "(I)I"⟩) ∈ zG := zG_mk (zG_t3 (List.mem_of_getElem? (i := 14) rfl)) rfl
theorem gw_3_15 : (Cond.instanceMethod ⟨"WingDoor", "leaves", "(I)I"⟩) ∈ zG := zG_mk (zG_t3 (List.mem_of_getElem? (i := 15) rfl)) rfl
theorem gw_3_16 : (Cond.selects "WingDoor" ⟨"WingDoor", "leaves", "(I)I"⟩ ⟨"WingDoor", "leaves", "(I)I"⟩) ∈ zG := zG_mk (zG_t3 (List.mem_of_getElem? (i := 16) rfl)) rfl
theorem gw_3_17 : (Cond.code ⟨"WingDoor", "leaves", "(I)I"⟩ prog_1_method_11_code 2 (some .int)) ∈ zG := zG_mk (zG_t3 (List.mem_of_getElem? (i := 17) rfl)) rfl
theorem gw_3_18 : (Cond.methodLink "WingDoor" 188 ⟨"WingDoor$Moment", "giveUp", "(I)V"⟩) ∈ zG := zG_mk (zG_t3 (List.mem_of_getElem? (i := 18) rfl)) rfl
theorem gw_3_19 : (Cond.instanceMethod ⟨"WingDoor$Moment", "giveUp", "(I)V"⟩) ∈ zG := zG_mk (zG_t3 (List.mem_of_getElem? (i := 19) rfl)) rfl
theorem gw_3_20 : (Cond.selects "WingDoor$Moment" ⟨"WingDoor$Moment", "giveUp", "(I)V"⟩ ⟨"WingDoor$Moment", "giveUp", "(I)V"⟩) ∈ zG := zG_mk (zG_t3 (List.mem_of_getElem? (i := 20) rfl)) rfl
theorem gw_3_21 : (Cond.code ⟨"WingDoor$Moment", "giveUp", "(I)V"⟩ prog_7_method_18_code 2 none) ∈ zG := zG_mk (zG_t3 (List.mem_of_getElem? (i := 21) rfl)) rfl
theorem gw_3_22 : (Cond.methodLink "WingDoor" 192 ⟨"WingDoor$Moment", "howManyAre", "(I)I"⟩) ∈ zG := zG_mk (zG_t3 (List.mem_of_getElem? (i := 22) rfl)) rfl
theorem gw_3_23 : (Cond.instanceMethod ⟨"WingDoor$Moment", "howManyAre", "(I)I"⟩) ∈ zG := zG_mk (zG_t3 (List.mem_of_getElem? (i := 23) rfl)) rfl
theorem gw_3_24 : (Cond.selects "WingDoor$Moment" ⟨"WingDoor$Moment", "howManyAre", "(I)I"⟩ ⟨"WingDoor$Moment", "howManyAre", "(I)I"⟩) ∈ zG := zG_mk (zG_t3 (List.mem_of_getElem? (i := 24) rfl)) rfl
theorem gw_3_25 : (Cond.code ⟨"WingDoor$Moment", "howManyAre", "(I)I"⟩ prog_7_method_9_code 2 (some .int)) ∈ zG := zG_mk (zG_t3 (List.mem_of_getElem? (i := 25) rfl)) rfl
theorem gw_3_26 : (Cond.methodLink "WingDoorLaw" 56 ⟨"WingDoor", "lets", "(I)I"⟩) ∈ zG := zG_mk (zG_t3 (List.mem_of_getElem? (i := 26) rfl)) rfl
theorem gw_3_27 : (Cond.instanceMethod ⟨"WingDoor", "lets", "(I)I"⟩) ∈ zG := zG_mk (zG_t3 (List.mem_of_getElem? (i := 27) rfl)) rfl
theorem gw_3_28 : (Cond.selects "WingDoor" ⟨"WingDoor", "lets", "(I)I"⟩ ⟨"WingDoor", "lets", "(I)I"⟩) ∈ zG := zG_mk (zG_t3 (List.mem_of_getElem? (i := 28) rfl)) rfl
theorem gw_3_29 : (Cond.code ⟨"WingDoor", "lets", "(I)I"⟩ prog_1_method_12_code 3 (some .int)) ∈ zG := zG_mk (zG_t3 (List.mem_of_getElem? (i := 29) rfl)) rfl
theorem gw_3_30 : (Cond.methodLink "WingDoor" 195 ⟨"WingDoor$Moment", "letAhead", "(I)V"⟩) ∈ zG := zG_mk (zG_t3 (List.mem_of_getElem? (i := 30) rfl)) rfl
theorem gw_3_31 : (Cond.instanceMethod ⟨"WingDoor$Moment", "letAhead", "(I)V"⟩) ∈ zG := zG_mk (zG_t3 (List.mem_of_getElem? (i := 31) rfl)) rfl
theorem gw_3_32 : (Cond.selects "WingDoor$Moment" ⟨"WingDoor$Moment", "letAhead", "(I)V"⟩ ⟨"WingDoor$Moment", "letAhead", "(I)V"⟩) ∈ zG := zG_mk (zG_t3 (List.mem_of_getElem? (i := 32) rfl)) rfl
theorem gw_3_33 : (Cond.code ⟨"WingDoor$Moment", "letAhead", "(I)V"⟩ prog_7_method_19_code 3 none) ∈ zG := zG_mk (zG_t3 (List.mem_of_getElem? (i := 33) rfl)) rfl
theorem gw_3_34 : (Cond.methodLink "WingDoorLaw" 60 ⟨"WingDoor", "undo", "()I"⟩) ∈ zG := zG_mk (zG_t3 (List.mem_of_getElem? (i := 34) rfl)) rfl
theorem gw_3_35 : (Cond.instanceMethod ⟨"WingDoor", "undo", "()I"⟩) ∈ zG := zG_mk (zG_t3 (List.mem_of_getElem? (i := 35) rfl)) rfl
theorem gw_3_36 : (Cond.selects "WingDoor" ⟨"WingDoor", "undo", "()I"⟩ ⟨"WingDoor", "undo", "()I"⟩) ∈ zG := zG_mk (zG_t3 (List.mem_of_getElem? (i := 36) rfl)) rfl
theorem gw_3_37 : (Cond.code ⟨"WingDoor", "undo", "()I"⟩ prog_1_method_13_code 1 (some .int)) ∈ zG := zG_mk (zG_t3 (List.mem_of_getElem? (i := 37) rfl)) rfl
theorem gw_3_38 : (Cond.methodLink "WingDoor" 198 ⟨"WingDoor$Past", "recall", "(LWingDoor$Moment;)V"⟩) ∈ zG := zG_mk (zG_t3 (List.mem_of_getElem? (i := 38) rfl)) rfl
theorem gw_3_39 : (Cond.instanceMethod ⟨"WingDoor$Past", "recall", "(LWingDoor$Moment;)V"⟩) ∈ zG := zG_mk (zG_t3 (List.mem_of_getElem? (i := 39) rfl)) rfl
theorem gw_3_40 : (Cond.selects "WingDoor$Past" ⟨"WingDoor$Past", "recall", "(LWingDoor$Moment;)V"⟩ ⟨"WingDoor$Past", "recall", "(LWingDoor$Moment;)V"⟩) ∈ zG := zG_mk (zG_t3 (List.mem_of_getElem? (i := 40) rfl)) rfl
theorem gw_3_41 : (Cond.code ⟨"WingDoor$Past", "recall", "(LWingDoor$Moment;)V"⟩ prog_8_method_3_code 2 none) ∈ zG := zG_mk (zG_t3 (List.mem_of_getElem? (i := 41) rfl)) rfl
theorem gw_3_42 : (Cond.methodLink "WingDoorLaw" 64 ⟨"WingDoor", "spare", "(I)I"⟩) ∈ zG := zG_mk (zG_t3 (List.mem_of_getElem? (i := 42) rfl)) rfl
theorem gw_3_43 : (Cond.instanceMethod ⟨"WingDoor", "spare", "(I)I"⟩) ∈ zG := zG_mk (zG_t3 (List.mem_of_getElem? (i := 43) rfl)) rfl
theorem gw_3_44 : (Cond.selects "WingDoor" ⟨"WingDoor", "spare", "(I)I"⟩ ⟨"WingDoor", "spare", "(I)I"⟩) ∈ zG := zG_mk (zG_t3 (List.mem_of_getElem? (i := 44) rfl)) rfl
theorem gw_3_45 : (Cond.code ⟨"WingDoor", "spare", "(I)I"⟩ prog_1_method_14_code 2 (some .int)) ∈ zG := zG_mk (zG_t3 (List.mem_of_getElem? (i := 45) rfl)) rfl
theorem gw_3_46 : (Cond.methodLink "WingDoor" 201 ⟨"WingDoor", "bestHelper", "(IZ)I"⟩) ∈ zG := zG_mk (zG_t3 (List.mem_of_getElem? (i := 46) rfl)) rfl
theorem gw_3_48 : (Cond.instanceMethod ⟨"WingDoor", "bestHelper", "(IZ)I"⟩) ∈ zG := zG_mk (zG_t3 (List.mem_of_getElem? (i := 48) rfl)) rfl
theorem gw_3_49 : (Cond.code ⟨"WingDoor", "bestHelper", "(IZ)I"⟩ prog_1_method_30_code 7 (some .int)) ∈ zG := zG_mk (zG_t3 (List.mem_of_getElem? (i := 49) rfl)) rfl
theorem gw_3_50 : (Cond.methodLink "WingDoorLaw" 68 ⟨"WingDoor", "ahead", "(I)I"⟩) ∈ zG := zG_mk (zG_t3 (List.mem_of_getElem? (i := 50) rfl)) rfl
theorem gw_3_51 : (Cond.instanceMethod ⟨"WingDoor", "ahead", "(I)I"⟩) ∈ zG := zG_mk (zG_t3 (List.mem_of_getElem? (i := 51) rfl)) rfl
theorem gw_3_52 : (Cond.selects "WingDoor" ⟨"WingDoor", "ahead", "(I)I"⟩ ⟨"WingDoor", "ahead", "(I)I"⟩) ∈ zG := zG_mk (zG_t3 (List.mem_of_getElem? (i := 52) rfl)) rfl
theorem gw_3_53 : (Cond.code ⟨"WingDoor", "ahead", "(I)I"⟩ prog_1_method_15_code 2 (some .int)) ∈ zG := zG_mk (zG_t3 (List.mem_of_getElem? (i := 53) rfl)) rfl
theorem gw_3_54 : (Cond.methodLink "WingDoorLaw" 72 ⟨"WingDoor", "odds", "(II)I"⟩) ∈ zG := zG_mk (zG_t3 (List.mem_of_getElem? (i := 54) rfl)) rfl
theorem gw_3_55 : (Cond.instanceMethod ⟨"WingDoor", "odds", "(II)I"⟩) ∈ zG := zG_mk (zG_t3 (List.mem_of_getElem? (i := 55) rfl)) rfl
theorem gw_3_56 : (Cond.selects "WingDoor" ⟨"WingDoor", "odds", "(II)I"⟩ ⟨"WingDoor", "odds", "(II)I"⟩) ∈ zG := zG_mk (zG_t3 (List.mem_of_getElem? (i := 56) rfl)) rfl
theorem gw_3_57 : (Cond.code ⟨"WingDoor", "odds", "(II)I"⟩ prog_1_method_16_code 9 (some .int)) ∈ zG := zG_mk (zG_t3 (List.mem_of_getElem? (i := 57) rfl)) rfl
theorem gw_3_58 : (Cond.constantLong "WingDoor" 205 10) ∈ zG := zG_mk (zG_t3 (List.mem_of_getElem? (i := 58) rfl)) rfl
theorem gw_3_59 : (Cond.methodLink "WingDoor" 207 ⟨"WingDoor", "waysToGo", "(I)J"⟩) ∈ zG := zG_mk (zG_t3 (List.mem_of_getElem? (i := 59) rfl)) rfl
theorem gw_3_61 : (Cond.instanceMethod ⟨"WingDoor", "waysToGo", "(I)J"⟩) ∈ zG := zG_mk (zG_t3 (List.mem_of_getElem? (i := 61) rfl)) rfl
theorem gw_3_62 : (Cond.code ⟨"WingDoor", "waysToGo", "(I)J"⟩ prog_1_method_31_code 6 (some .long)) ∈ zG := zG_mk (zG_t3 (List.mem_of_getElem? (i := 62) rfl)) rfl
theorem gw_3_63 : (Cond.methodLink "WingDoor" 272 ⟨"java/util/Arrays", "fill", "([JJ)V"⟩) ∈ zG := zG_mk (zG_t3 (List.mem_of_getElem? (i := 63) rfl)) rfl
theorem gw_3_64 : (Cond.static ⟨"java/util/Arrays", "fill", "([JJ)V"⟩) ∈ zG := zG_mk (zG_t3 (List.mem_of_getElem? (i := 64) rfl)) rfl
theorem gw_3_65 : (Cond.code ⟨"java/util/Arrays", "fill", "([JJ)V"⟩ prog_18_method_101_code 5 none) ∈ zG := zG_mk (zG_t3 (List.mem_of_getElem? (i := 65) rfl)) rfl
theorem gw_3_66 : (Cond.methodLink "WingDoor" 278 ⟨"WingDoor$Moment", "pushOf", "(I)I"⟩) ∈ zG := zG_mk (zG_t3 (List.mem_of_getElem? (i := 66) rfl)) rfl
theorem gw_3_67 : (Cond.instanceMethod ⟨"WingDoor$Moment", "pushOf", "(I)I"⟩) ∈ zG := zG_mk (zG_t3 (List.mem_of_getElem? (i := 67) rfl)) rfl
theorem gw_3_68 : (Cond.selects "WingDoor$Moment" ⟨"WingDoor$Moment", "pushOf", "(I)I"⟩ ⟨"WingDoor$Moment", "pushOf", "(I)I"⟩) ∈ zG := zG_mk (zG_t3 (List.mem_of_getElem? (i := 68) rfl)) rfl
theorem gw_3_69 : (Cond.code ⟨"WingDoor$Moment", "pushOf", "(I)I"⟩ prog_7_method_6_code 2 (some .int)) ∈ zG := zG_mk (zG_t3 (List.mem_of_getElem? (i := 69) rfl)) rfl
theorem gw_3_70 : (Cond.methodLink "WingDoor" 279 ⟨"WingDoor", "addPusher", "(III)I"⟩) ∈ zG := zG_mk (zG_t3 (List.mem_of_getElem? (i := 70) rfl)) rfl
theorem gw_3_72 : (Cond.instanceMethod ⟨"WingDoor", "addPusher", "(III)I"⟩) ∈ zG := zG_mk (zG_t3 (List.mem_of_getElem? (i := 72) rfl)) rfl
theorem gw_3_73 : (Cond.code ⟨"WingDoor", "addPusher", "(III)I"⟩ prog_1_method_32_code 8 (some .int)) ∈ zG := zG_mk (zG_t3 (List.mem_of_getElem? (i := 73) rfl)) rfl
theorem gw_3_74 : (Cond.methodLink "WingDoor" 282 ⟨"java/lang/Math", "min", "(II)I"⟩) ∈ zG := zG_mk (zG_t3 (List.mem_of_getElem? (i := 74) rfl)) rfl
theorem gw_3_75 : (Cond.static ⟨"java/lang/Math", "min", "(II)I"⟩) ∈ zG := zG_mk (zG_t3 (List.mem_of_getElem? (i := 75) rfl)) rfl
theorem gw_3_76 : (Cond.code ⟨"java/lang/Math", "min", "(II)I"⟩ prog_16_method_69_code 2 (some .int)) ∈ zG := zG_mk (zG_t3 (List.mem_of_getElem? (i := 76) rfl)) rfl
theorem gw_3_77 : (Cond.methodLink "WingDoor" 211 ⟨"WingDoor", "greatestDivisor", "(JJ)J"⟩) ∈ zG := zG_mk (zG_t3 (List.mem_of_getElem? (i := 77) rfl)) rfl
theorem gw_3_78 : (Cond.static ⟨"WingDoor", "greatestDivisor", "(JJ)J"⟩) ∈ zG := zG_mk (zG_t3 (List.mem_of_getElem? (i := 78) rfl)) rfl
theorem gw_3_79 : (Cond.code ⟨"WingDoor", "greatestDivisor", "(JJ)J"⟩ prog_1_method_33_code 11 (some .long)) ∈ zG := zG_mk (zG_t3 (List.mem_of_getElem? (i := 79) rfl)) rfl
theorem gw_3_80 : (Cond.methodLink "WingDoor" 215 ⟨"java/lang/Math", "max", "(JJ)J"⟩) ∈ zG := zG_mk (zG_t3 (List.mem_of_getElem? (i := 80) rfl)) rfl
theorem gw_3_81 : (Cond.static ⟨"java/lang/Math", "max", "(JJ)J"⟩) ∈ zG := zG_mk (zG_t3 (List.mem_of_getElem? (i := 81) rfl)) rfl
theorem gw_3_82 : (Cond.code ⟨"java/lang/Math", "max", "(JJ)J"⟩ prog_16_method_66_code 4 (some .long)) ∈ zG := zG_mk (zG_t3 (List.mem_of_getElem? (i := 82) rfl)) rfl
theorem gw_3_83 : (Cond.methodLink "WingDoorLaw" 76 ⟨"WingDoor", "sees", "(III)I"⟩) ∈ zG := zG_mk (zG_t3 (List.mem_of_getElem? (i := 83) rfl)) rfl
theorem gw_3_84 : (Cond.instanceMethod ⟨"WingDoor", "sees", "(III)I"⟩) ∈ zG := zG_mk (zG_t3 (List.mem_of_getElem? (i := 84) rfl)) rfl
theorem gw_3_85 : (Cond.selects "WingDoor" ⟨"WingDoor", "sees", "(III)I"⟩ ⟨"WingDoor", "sees", "(III)I"⟩) ∈ zG := zG_mk (zG_t3 (List.mem_of_getElem? (i := 85) rfl)) rfl
theorem gw_3_86 : (Cond.code ⟨"WingDoor", "sees", "(III)I"⟩ prog_1_method_17_code 4 (some .int)) ∈ zG := zG_mk (zG_t3 (List.mem_of_getElem? (i := 86) rfl)) rfl
theorem gw_3_87 : (Cond.methodLink "WingDoor" 220 ⟨"WingDoor", "leastOf", "(I)I"⟩) ∈ zG := zG_mk (zG_t3 (List.mem_of_getElem? (i := 87) rfl)) rfl
theorem gw_3_88 : (Cond.static ⟨"WingDoor", "leastOf", "(I)I"⟩) ∈ zG := zG_mk (zG_t3 (List.mem_of_getElem? (i := 88) rfl)) rfl
theorem gw_3_89 : (Cond.code ⟨"WingDoor", "leastOf", "(I)I"⟩ prog_1_method_34_code 1 (some .int)) ∈ zG := zG_mk (zG_t3 (List.mem_of_getElem? (i := 89) rfl)) rfl
theorem gw_3_90 : (Cond.methodLink "WingDoor" 223 ⟨"WingDoor", "mostOf", "(I)I"⟩) ∈ zG := zG_mk (zG_t3 (List.mem_of_getElem? (i := 90) rfl)) rfl
theorem gw_3_91 : (Cond.static ⟨"WingDoor", "mostOf", "(I)I"⟩) ∈ zG := zG_mk (zG_t3 (List.mem_of_getElem? (i := 91) rfl)) rfl
theorem gw_3_92 : (Cond.code ⟨"WingDoor", "mostOf", "(I)I"⟩ prog_1_method_35_code 1 (some .int)) ∈ zG := zG_mk (zG_t3 (List.mem_of_getElem? (i := 92) rfl)) rfl
theorem gw_3_93 : (Cond.methodLink "WingDoor" 226 ⟨"WingDoor$Sightings", "add", "(III)Z"⟩) ∈ zG := zG_mk (zG_t3 (List.mem_of_getElem? (i := 93) rfl)) rfl
theorem gw_3_94 : (Cond.instanceMethod ⟨"WingDoor$Sightings", "add", "(III)Z"⟩) ∈ zG := zG_mk (zG_t3 (List.mem_of_getElem? (i := 94) rfl)) rfl
theorem gw_3_95 : (Cond.selects "WingDoor$Sightings" ⟨"WingDoor$Sightings", "add", "(III)Z"⟩ ⟨"WingDoor$Sightings", "add", "(III)Z"⟩) ∈ zG := zG_mk (zG_t3 (List.mem_of_getElem? (i := 95) rfl)) rfl
theorem gw_3_96 : (Cond.code ⟨"WingDoor$Sightings", "add", "(III)Z"⟩ prog_10_method_2_code 4 (some .boolean)) ∈ zG := zG_mk (zG_t3 (List.mem_of_getElem? (i := 96) rfl)) rfl
theorem gw_3_97 : (Cond.methodLink "WingDoorLaw" 81 ⟨"WingDoor", "forget", "()I"⟩) ∈ zG := zG_mk (zG_t3 (List.mem_of_getElem? (i := 97) rfl)) rfl
theorem gw_3_98 : (Cond.instanceMethod ⟨"WingDoor", "forget", "()I"⟩) ∈ zG := zG_mk (zG_t3 (List.mem_of_getElem? (i := 98) rfl)) rfl
theorem gw_3_99 : (Cond.selects "WingDoor" ⟨"WingDoor", "forget", "()I"⟩ ⟨"WingDoor", "forget", "()I"⟩) ∈ zG := zG_mk (zG_t3 (List.mem_of_getElem? (i := 99) rfl)) rfl
theorem gw_3_100 : (Cond.code ⟨"WingDoor", "forget", "()I"⟩ prog_1_method_18_code 2 (some .int)) ∈ zG := zG_mk (zG_t3 (List.mem_of_getElem? (i := 100) rfl)) rfl
theorem gw_3_101 : (Cond.methodLink "WingDoorLaw" 85 ⟨"WingDoor", "which", "()I"⟩) ∈ zG := zG_mk (zG_t3 (List.mem_of_getElem? (i := 101) rfl)) rfl
theorem gw_3_102 : (Cond.instanceMethod ⟨"WingDoor", "which", "()I"⟩) ∈ zG := zG_mk (zG_t3 (List.mem_of_getElem? (i := 102) rfl)) rfl
theorem gw_3_103 : (Cond.selects "WingDoor" ⟨"WingDoor", "which", "()I"⟩ ⟨"WingDoor", "which", "()I"⟩) ∈ zG := zG_mk (zG_t3 (List.mem_of_getElem? (i := 103) rfl)) rfl
theorem gw_3_104 : (Cond.code ⟨"WingDoor", "which", "()I"⟩ prog_1_method_19_code 1 (some .int)) ∈ zG := zG_mk (zG_t3 (List.mem_of_getElem? (i := 104) rfl)) rfl
theorem gw_3_105 : (Cond.methodLink "WingDoor" 229 ⟨"WingDoor$Sightings", "possibleSorts", "()I"⟩) ∈ zG := zG_mk (zG_t3 (List.mem_of_getElem? (i := 105) rfl)) rfl
theorem gw_3_106 : (Cond.instanceMethod ⟨"WingDoor$Sightings", "possibleSorts", "()I"⟩) ∈ zG := zG_mk (zG_t3 (List.mem_of_getElem? (i := 106) rfl)) rfl
theorem gw_3_107 : (Cond.selects "WingDoor$Sightings" ⟨"WingDoor$Sightings", "possibleSorts", "()I"⟩ ⟨"WingDoor$Sightings", "possibleSorts", "()I"⟩) ∈ zG := zG_mk (zG_t3 (List.mem_of_getElem? (i := 107) rfl)) rfl
theorem gw_3_108 : (Cond.code ⟨"WingDoor$Sightings", "possibleSorts", "()I"⟩ prog_10_method_3_code 3 (some .int)) ∈ zG := zG_mk (zG_t3 (List.mem_of_getElem? (i := 108) rfl)) rfl
theorem gw_3_109 : (Cond.methodLink "WingDoor$Sightings" 34 ⟨"WingDoor$Sightings", "allIsSoOf", "(I)Z"⟩) ∈ zG := zG_mk (zG_t3 (List.mem_of_getElem? (i := 109) rfl)) rfl
theorem gw_3_111 : (Cond.instanceMethod ⟨"WingDoor$Sightings", "allIsSoOf", "(I)Z"⟩) ∈ zG := zG_mk (zG_t3 (List.mem_of_getElem? (i := 111) rfl)) rfl
theorem gw_3_112 : (Cond.code ⟨"WingDoor$Sightings", "allIsSoOf", "(I)Z"⟩ prog_10_method_4_code 3 (some .boolean)) ∈ zG := zG_mk (zG_t3 (List.mem_of_getElem? (i := 112) rfl)) rfl
theorem gw_3_113 : (Cond.methodLink "WingDoor$Sightings" 38 ⟨"WingDoor$Plan", "isAtMost", "(III)Z"⟩) ∈ zG := zG_mk (zG_t3 (List.mem_of_getElem? (i := 113) rfl)) rfl
theorem gw_3_114 : (Cond.instanceMethod ⟨"WingDoor$Plan", "isAtMost", "(III)Z"⟩) ∈ zG := zG_mk (zG_t3 (List.mem_of_getElem? (i := 114) rfl)) rfl
theorem gw_3_115 : (Cond.selects "WingDoor$Plan" ⟨"WingDoor$Plan", "isAtMost", "(III)Z"⟩ ⟨"WingDoor$Plan", "isAtMost", "(III)Z"⟩) ∈ zG := zG_mk (zG_t3 (List.mem_of_getElem? (i := 115) rfl)) rfl
theorem gw_3_116 : (Cond.code ⟨"WingDoor$Plan", "isAtMost", "(III)Z"⟩ prog_9_method_8_code 4 (some .boolean)) ∈ zG := zG_mk (zG_t3 (List.mem_of_getElem? (i := 116) rfl)) rfl
theorem gw_3_117 : (Cond.methodLink "WingDoor$Plan" 40 ⟨"WingDoor$Plan", "bulkOf", "(I)I"⟩) ∈ zG := zG_mk (zG_t3 (List.mem_of_getElem? (i := 117) rfl)) rfl
theorem gw_3_118 : (Cond.methodLink "WingDoor$Plan" 44 ⟨"WingDoor$Plan", "pushOf", "(I)I"⟩) ∈ zG := zG_mk (zG_t3 (List.mem_of_getElem? (i := 118) rfl)) rfl
theorem gw_3_119 : (Cond.methodLink "WingDoorLaw" 89 ⟨"WingDoor", "look", "(I)I"⟩) ∈ zG := zG_mk (zG_t3 (List.mem_of_getElem? (i := 119) rfl)) rfl
theorem gw_3_120 : (Cond.instanceMethod ⟨"WingDoor", "look", "(I)I"⟩) ∈ zG := zG_mk (zG_t3 (List.mem_of_getElem? (i := 120) rfl)) rfl
theorem gw_3_121 : (Cond.selects "WingDoor" ⟨"WingDoor", "look", "(I)I"⟩ ⟨"WingDoor", "look", "(I)I"⟩) ∈ zG := zG_mk (zG_t3 (List.mem_of_getElem? (i := 121) rfl)) rfl
theorem gw_3_122 : (Cond.code ⟨"WingDoor", "look", "(I)I"⟩ prog_1_method_20_code 9 (some .int)) ∈ zG := zG_mk (zG_t3 (List.mem_of_getElem? (i := 122) rfl)) rfl
theorem gw_3_123 : (Cond.methodLink "WingDoor" 232 ⟨"java/lang/Integer", "bitCount", "(I)I"⟩) ∈ zG := zG_mk (zG_t3 (List.mem_of_getElem? (i := 123) rfl)) rfl
theorem gw_3_124 : (Cond.methodLink "WingDoor" 237 ⟨"WingDoor$Plan", "howManyAtMost", "(III)I"⟩) ∈ zG := zG_mk (zG_t3 (List.mem_of_getElem? (i := 124) rfl)) rfl
theorem gw_3_125 : (Cond.instanceMethod ⟨"WingDoor$Plan", "howManyAtMost", "(III)I"⟩) ∈ zG := zG_mk (zG_t3 (List.mem_of_getElem? (i := 125) rfl)) rfl
theorem gw_3_126 : (Cond.selects "WingDoor$Plan" ⟨"WingDoor$Plan", "howManyAtMost", "(III)I"⟩ ⟨"WingDoor$Plan", "howManyAtMost", "(III)I"⟩) ∈ zG := zG_mk (zG_t3 (List.mem_of_getElem? (i := 126) rfl)) rfl
theorem gw_3_127 : (Cond.code ⟨"WingDoor$Plan", "howManyAtMost", "(III)I"⟩ prog_9_method_9_code 6 (some .int)) ∈ zG := zG_mk (zG_t3 (List.mem_of_getElem? (i := 127) rfl)) rfl
theorem gw_3_128 : (Cond.methodLink "WingDoor$Plan" 47 ⟨"WingDoor$Plan", "isAtMost", "(III)Z"⟩) ∈ zG := zG_mk (zG_t3 (List.mem_of_getElem? (i := 128) rfl)) rfl
theorem gw_3_129 : (Cond.methodLink "WingDoor" 241 ⟨"java/lang/Math", "max", "(II)I"⟩) ∈ zG := zG_mk (zG_t3 (List.mem_of_getElem? (i := 129) rfl)) rfl
theorem gw_3_130 : (Cond.static ⟨"java/lang/Math", "max", "(II)I"⟩) ∈ zG := zG_mk (zG_t3 (List.mem_of_getElem? (i := 130) rfl)) rfl
theorem gw_3_131 : (Cond.code ⟨"java/lang/Math", "max", "(II)I"⟩ prog_16_method_65_code 2 (some .int)) ∈ zG := zG_mk (zG_t3 (List.mem_of_getElem? (i := 131) rfl)) rfl
theorem gw_3_132 : (Cond.methodLink "WingDoorLaw" 93 ⟨"WingDoor", "rate", "(II)I"⟩) ∈ zG := zG_mk (zG_t3 (List.mem_of_getElem? (i := 132) rfl)) rfl
theorem gw_3_133 : (Cond.instanceMethod ⟨"WingDoor", "rate", "(II)I"⟩) ∈ zG := zG_mk (zG_t3 (List.mem_of_getElem? (i := 133) rfl)) rfl
theorem gw_3_134 : (Cond.selects "WingDoor" ⟨"WingDoor", "rate", "(II)I"⟩ ⟨"WingDoor", "rate", "(II)I"⟩) ∈ zG := zG_mk (zG_t3 (List.mem_of_getElem? (i := 134) rfl)) rfl
theorem gw_3_135 : (Cond.code ⟨"WingDoor", "rate", "(II)I"⟩ prog_1_method_21_code 3 (some .int)) ∈ zG := zG_mk (zG_t3 (List.mem_of_getElem? (i := 135) rfl)) rfl
theorem gw_3_136 : (Cond.constant "WingDoor" 243 (-1000000)) ∈ zG := zG_mk (zG_t3 (List.mem_of_getElem? (i := 136) rfl)) rfl
theorem gw_3_137 : (Cond.methodLink "WingDoor" 244 ⟨"WingDoor$DoorKind", "worth", "(LWingDoor$Moment;I)I"⟩) ∈ zG := zG_mk (zG_t3 (List.mem_of_getElem? (i := 137) rfl)) rfl
theorem gw_3_138 : (Cond.instanceMethod ⟨"WingDoor$DoorKind", "worth", "(LWingDoor$Moment;I)I"⟩) ∈ zG := zG_mk (zG_t3 (List.mem_of_getElem? (i := 138) rfl)) rfl
theorem gw_3_139 : (Cond.selects "WingDoor$DoorKind" ⟨"WingDoor$DoorKind", "worth", "(LWingDoor$Moment;I)I"⟩ ⟨"WingDoor$DoorKind", "worth", "(LWingDoor$Moment;I)I"⟩) ∈ zG := zG_mk (zG_t3 (List.mem_of_getElem? (i := 139) rfl)) rfl
theorem gw_3_140 : (Cond.sameMethod "WingDoor$DoorKind" "WingDoor$DoorKind" "worth" "(LWingDoor$Moment;I)I") ∈ zG := zG_mk (zG_t3 (List.mem_of_getElem? (i := 140) rfl)) rfl
theorem gw_3_141 : (Cond.selects "WingDoor$BankKind" ⟨"WingDoor$DoorKind", "worth", "(LWingDoor$Moment;I)I"⟩ ⟨"WingDoor$BankKind", "worth", "(LWingDoor$Moment;I)I"⟩) ∈ zG := zG_mk (zG_t3 (List.mem_of_getElem? (i := 141) rfl)) rfl
theorem gw_3_142 : (Cond.instanceMethod ⟨"WingDoor$BankKind", "worth", "(LWingDoor$Moment;I)I"⟩) ∈ zG := zG_mk (zG_t3 (List.mem_of_getElem? (i := 142) rfl)) rfl
theorem gw_3_143 : (Cond.code ⟨"WingDoor$BankKind", "worth", "(LWingDoor$Moment;I)I"⟩ prog_2_method_2_code 3 (some .int)) ∈ zG := zG_mk (zG_t3 (List.mem_of_getElem? (i := 143) rfl)) rfl
theorem gw_3_144 : (Cond.constantLong "WingDoor$BankKind" 13 10) ∈ zG := zG_mk (zG_t3 (List.mem_of_getElem? (i := 144) rfl)) rfl
theorem gw_3_145 : (Cond.methodLink "WingDoor$BankKind" 15 ⟨"WingDoor$DoorKind", "worth", "(LWingDoor$Moment;I)I"⟩) ∈ zG := zG_mk (zG_t3 (List.mem_of_getElem? (i := 145) rfl)) rfl
theorem gw_3_146 : (Cond.methodLink "WingDoor$BankKind" 19 ⟨"WingDoor$Moment", "pushOf", "(I)I"⟩) ∈ zG := zG_mk (zG_t3 (List.mem_of_getElem? (i := 146) rfl)) rfl
theorem gw_3_147 : (Cond.selects "WingDoor$CourtKind" ⟨"WingDoor$DoorKind", "worth", "(LWingDoor$Moment;I)I"⟩ ⟨"WingDoor$CourtKind", "worth", "(LWingDoor$Moment;I)I"⟩) ∈ zG := zG_mk (zG_t3 (List.mem_of_getElem? (i := 147) rfl)) rfl
theorem gw_3_148 : (Cond.instanceMethod ⟨"WingDoor$CourtKind", "worth", "(LWingDoor$Moment;I)I"⟩) ∈ zG := zG_mk (zG_t3 (List.mem_of_getElem? (i := 148) rfl)) rfl
theorem gw_3_149 : (Cond.code ⟨"WingDoor$CourtKind", "worth", "(LWingDoor$Moment;I)I"⟩ prog_3_method_2_code 3 (some .int)) ∈ zG := zG_mk (zG_t3 (List.mem_of_getElem? (i := 149) rfl)) rfl
theorem gw_3_150 : (Cond.constantLong "WingDoor$CourtKind" 13 1000) ∈ zG := zG_mk (zG_t3 (List.mem_of_getElem? (i := 150) rfl)) rfl
theorem gw_3_151 : (Cond.methodLink "WingDoor$CourtKind" 15 ⟨"WingDoor$BankKind", "worth", "(LWingDoor$Moment;I)I"⟩) ∈ zG := zG_mk (zG_t3 (List.mem_of_getElem? (i := 151) rfl)) rfl
theorem gw_3_152 : (Cond.selects "WingDoor$GrandKind" ⟨"WingDoor$DoorKind", "worth", "(LWingDoor$Moment;I)I"⟩ ⟨"WingDoor$GrandKind", "worth", "(LWingDoor$Moment;I)I"⟩) ∈ zG := zG_mk (zG_t3 (List.mem_of_getElem? (i := 152) rfl)) rfl
theorem gw_3_153 : (Cond.instanceMethod ⟨"WingDoor$GrandKind", "worth", "(LWingDoor$Moment;I)I"⟩) ∈ zG := zG_mk (zG_t3 (List.mem_of_getElem? (i := 153) rfl)) rfl
theorem gw_3_154 : (Cond.code ⟨"WingDoor$GrandKind", "worth", "(LWingDoor$Moment;I)I"⟩ prog_5_method_2_code 3 (some .int)) ∈ zG := zG_mk (zG_t3 (List.mem_of_getElem? (i := 154) rfl)) rfl
theorem gw_3_155 : (Cond.constantLong "WingDoor$GrandKind" 13 10000) ∈ zG := zG_mk (zG_t3 (List.mem_of_getElem? (i := 155) rfl)) rfl
theorem gw_3_156 : (Cond.methodLink "WingDoor$GrandKind" 15 ⟨"WingDoor$HotelKind", "worth", "(LWingDoor$Moment;I)I"⟩) ∈ zG := zG_mk (zG_t3 (List.mem_of_getElem? (i := 156) rfl)) rfl
theorem gw_3_157 : (Cond.instanceMethod ⟨"WingDoor$HotelKind", "worth", "(LWingDoor$Moment;I)I"⟩) ∈ zG := zG_mk (zG_t3 (List.mem_of_getElem? (i := 157) rfl)) rfl
theorem gw_3_158 : (Cond.code ⟨"WingDoor$HotelKind", "worth", "(LWingDoor$Moment;I)I"⟩ prog_6_method_2_code 3 (some .int)) ∈ zG := zG_mk (zG_t3 (List.mem_of_getElem? (i := 158) rfl)) rfl
theorem gw_3_159 : (Cond.constantLong "WingDoor$HotelKind" 15 100) ∈ zG := zG_mk (zG_t3 (List.mem_of_getElem? (i := 159) rfl)) rfl
theorem gw_3_160 : (Cond.methodLink "WingDoor$HotelKind" 17 ⟨"WingDoor$DoorKind", "worth", "(LWingDoor$Moment;I)I"⟩) ∈ zG := zG_mk (zG_t3 (List.mem_of_getElem? (i := 160) rfl)) rfl
theorem gw_3_161 : (Cond.methodLink "WingDoor$HotelKind" 21 ⟨"WingDoor$Moment", "howManyAre", "(I)I"⟩) ∈ zG := zG_mk (zG_t3 (List.mem_of_getElem? (i := 161) rfl)) rfl
theorem gw_3_162 : (Cond.selects "WingDoor$HotelKind" ⟨"WingDoor$DoorKind", "worth", "(LWingDoor$Moment;I)I"⟩ ⟨"WingDoor$HotelKind", "worth", "(LWingDoor$Moment;I)I"⟩) ∈ zG := zG_mk (zG_t3 (List.mem_of_getElem? (i := 162) rfl)) rfl
theorem gw_3_163 : (Cond.selects "WingDoor$StoreKind" ⟨"WingDoor$DoorKind", "worth", "(LWingDoor$Moment;I)I"⟩ ⟨"WingDoor$StoreKind", "worth", "(LWingDoor$Moment;I)I"⟩) ∈ zG := zG_mk (zG_t3 (List.mem_of_getElem? (i := 163) rfl)) rfl
theorem gw_3_164 : (Cond.instanceMethod ⟨"WingDoor$StoreKind", "worth", "(LWingDoor$Moment;I)I"⟩) ∈ zG := zG_mk (zG_t3 (List.mem_of_getElem? (i := 164) rfl)) rfl
theorem gw_3_165 : (Cond.code ⟨"WingDoor$StoreKind", "worth", "(LWingDoor$Moment;I)I"⟩ prog_11_method_2_code 3 (some .int)) ∈ zG := zG_mk (zG_t3 (List.mem_of_getElem? (i := 165) rfl)) rfl
theorem gw_3_166 : (Cond.constantLong "WingDoor$StoreKind" 13 100000) ∈ zG := zG_mk (zG_t3 (List.mem_of_getElem? (i := 166) rfl)) rfl
theorem gw_3_167 : (Cond.methodLink "WingDoor$StoreKind" 15 ⟨"WingDoor$DoorKind", "worth", "(LWingDoor$Moment;I)I"⟩) ∈ zG := zG_mk (zG_t3 (List.mem_of_getElem? (i := 167) rfl)) rfl
theorem gw_3_168 : (Cond.code ⟨"WingDoor$DoorKind", "worth", "(LWingDoor$Moment;I)I"⟩ prog_4_method_2_code 3 (some .int)) ∈ zG := zG_mk (zG_t3 (List.mem_of_getElem? (i := 168) rfl)) rfl
theorem gw_3_169 : (Cond.methodLink "WingDoor$DoorKind" 13 ⟨"WingDoor$Moment", "bulkOf", "(I)I"⟩) ∈ zG := zG_mk (zG_t3 (List.mem_of_getElem? (i := 169) rfl)) rfl
theorem gw_3_170 : (Cond.instanceMethod ⟨"WingDoor$Moment", "bulkOf", "(I)I"⟩) ∈ zG := zG_mk (zG_t3 (List.mem_of_getElem? (i := 170) rfl)) rfl
theorem gw_3_171 : (Cond.selects "WingDoor$Moment" ⟨"WingDoor$Moment", "bulkOf", "(I)I"⟩ ⟨"WingDoor$Moment", "bulkOf", "(I)I"⟩) ∈ zG := zG_mk (zG_t3 (List.mem_of_getElem? (i := 171) rfl)) rfl
theorem gw_3_172 : (Cond.code ⟨"WingDoor$Moment", "bulkOf", "(I)I"⟩ prog_7_method_5_code 2 (some .int)) ∈ zG := zG_mk (zG_t3 (List.mem_of_getElem? (i := 172) rfl)) rfl
theorem gw_3_173 : (Cond.methodLink "WingDoorLaw" 97 ⟨"WingDoor", "keep", "(I)I"⟩) ∈ zG := zG_mk (zG_t3 (List.mem_of_getElem? (i := 173) rfl)) rfl
theorem gw_3_174 : (Cond.instanceMethod ⟨"WingDoor", "keep", "(I)I"⟩) ∈ zG := zG_mk (zG_t3 (List.mem_of_getElem? (i := 174) rfl)) rfl
theorem gw_3_175 : (Cond.selects "WingDoor" ⟨"WingDoor", "keep", "(I)I"⟩ ⟨"WingDoor", "keep", "(I)I"⟩) ∈ zG := zG_mk (zG_t3 (List.mem_of_getElem? (i := 175) rfl)) rfl
theorem gw_3_176 : (Cond.code ⟨"WingDoor", "keep", "(I)I"⟩ prog_1_method_22_code 2 (some .int)) ∈ zG := zG_mk (zG_t3 (List.mem_of_getElem? (i := 176) rfl)) rfl
theorem gw_3_177 : (Cond.methodLink "WingDoorLaw" 101 ⟨"WingDoor", "back", "(I)I"⟩) ∈ zG := zG_mk (zG_t3 (List.mem_of_getElem? (i := 177) rfl)) rfl
theorem gw_3_178 : (Cond.instanceMethod ⟨"WingDoor", "back", "(I)I"⟩) ∈ zG := zG_mk (zG_t3 (List.mem_of_getElem? (i := 178) rfl)) rfl
theorem gw_3_179 : (Cond.selects "WingDoor" ⟨"WingDoor", "back", "(I)I"⟩ ⟨"WingDoor", "back", "(I)I"⟩) ∈ zG := zG_mk (zG_t3 (List.mem_of_getElem? (i := 179) rfl)) rfl
theorem gw_3_180 : (Cond.code ⟨"WingDoor", "back", "(I)I"⟩ prog_1_method_23_code 2 (some .int)) ∈ zG := zG_mk (zG_t3 (List.mem_of_getElem? (i := 180) rfl)) rfl
theorem gw_3_181 : (Cond.methodLink "WingDoorLaw" 105 ⟨"WingDoor", "count", "(I)I"⟩) ∈ zG := zG_mk (zG_t3 (List.mem_of_getElem? (i := 181) rfl)) rfl
theorem gw_3_182 : (Cond.instanceMethod ⟨"WingDoor", "count", "(I)I"⟩) ∈ zG := zG_mk (zG_t3 (List.mem_of_getElem? (i := 182) rfl)) rfl
theorem gw_3_183 : (Cond.selects "WingDoor" ⟨"WingDoor", "count", "(I)I"⟩ ⟨"WingDoor", "count", "(I)I"⟩) ∈ zG := zG_mk (zG_t3 (List.mem_of_getElem? (i := 183) rfl)) rfl
theorem gw_3_184 : (Cond.code ⟨"WingDoor", "count", "(I)I"⟩ prog_1_method_24_code 2 (some .int)) ∈ zG := zG_mk (zG_t3 (List.mem_of_getElem? (i := 184) rfl)) rfl
theorem gw_3_185 : (Cond.methodLink "WingDoorLaw" 109 ⟨"WingDoor", "trace", "()J"⟩) ∈ zG := zG_mk (zG_t3 (List.mem_of_getElem? (i := 185) rfl)) rfl
theorem gw_3_186 : (Cond.instanceMethod ⟨"WingDoor", "trace", "()J"⟩) ∈ zG := zG_mk (zG_t3 (List.mem_of_getElem? (i := 186) rfl)) rfl
theorem gw_3_187 : (Cond.selects "WingDoor" ⟨"WingDoor", "trace", "()J"⟩ ⟨"WingDoor", "trace", "()J"⟩) ∈ zG := zG_mk (zG_t3 (List.mem_of_getElem? (i := 187) rfl)) rfl
theorem gw_3_188 : (Cond.code ⟨"WingDoor", "trace", "()J"⟩ prog_1_method_25_code 4 (some .long)) ∈ zG := zG_mk (zG_t3 (List.mem_of_getElem? (i := 188) rfl)) rfl
theorem gw_3_189 : (Cond.classLink "WingDoorLaw" 10 "WingDoorModel") ∈ zG := zG_mk (zG_t3 (List.mem_of_getElem? (i := 189) rfl)) rfl
theorem gw_3_190 : (Cond.instantiable "WingDoorModel" 27) ∈ zG := zG_mk (zG_t3 (List.mem_of_getElem? (i := 190) rfl)) rfl
theorem gw_3_191 : (Cond.methodLink "WingDoorLaw" 12 ⟨"WingDoorModel", "<init>", "()V"⟩) ∈ zG := zG_mk (zG_t3 (List.mem_of_getElem? (i := 191) rfl)) rfl
theorem gw_3_192 : (Cond.instanceMethod ⟨"WingDoorModel", "<init>", "()V"⟩) ∈ zG := zG_mk (zG_t3 (List.mem_of_getElem? (i := 192) rfl)) rfl
theorem gw_3_193 : (Cond.code ⟨"WingDoorModel", "<init>", "()V"⟩ prog_14_method_1_code 1 none) ∈ zG := zG_mk (zG_t3 (List.mem_of_getElem? (i := 193) rfl)) rfl
theorem gw_3_194 : (Cond.methodLink "WingDoorModel" 1 ⟨"java/lang/Object", "<init>", "()V"⟩) ∈ zG := zG_mk (zG_t3 (List.mem_of_getElem? (i := 194) rfl)) rfl
theorem gw_3_195 : (Cond.fieldLink "WingDoorModel" 7 "WingDoorModel" "rooms" "I") ∈ zG := zG_mk (zG_t3 (List.mem_of_getElem? (i := 195) rfl)) rfl
theorem gw_3_196 : (Cond.fieldLink "WingDoorModel" 13 "WingDoorModel" "wide" "I") ∈ zG := zG_mk (zG_t3 (List.mem_of_getElem? (i := 196) rfl)) rfl
theorem gw_3_197 : (Cond.fieldLink "WingDoorModel" 16 "WingDoorModel" "hard" "I") ∈ zG := zG_mk (zG_t3 (List.mem_of_getElem? (i := 197) rfl)) rfl
theorem gw_3_198 : (Cond.fieldLink "WingDoorModel" 125 "WingDoorModel" "sorts" "I") ∈ zG := zG_mk (zG_t3 (List.mem_of_getElem? (i := 198) rfl)) rfl
theorem gw_3_199 : (Cond.fieldLink "WingDoorModel" 19 "WingDoorModel" "bulk" "[I") ∈ zG := zG_mk (zG_t3 (List.mem_of_getElem? (i := 199) rfl)) rfl
theorem gw_3_200 : (Cond.fieldLink "WingDoorModel" 23 "WingDoorModel" "push" "[I") ∈ zG := zG_mk (zG_t3 (List.mem_of_getElem? (i := 200) rfl)) rfl
theorem gw_3_201 : (Cond.fieldLink "WingDoorModel" 26 "WingDoorModel" "now" "[I") ∈ zG := zG_mk (zG_t3 (List.mem_of_getElem? (i := 201) rfl)) rfl
theorem gw_3_202 : (Cond.fieldLink "WingDoorModel" 29 "WingDoorModel" "aside" "[I") ∈ zG := zG_mk (zG_t3 (List.mem_of_getElem? (i := 202) rfl)) rfl
theorem gw_3_203 : (Cond.fieldLink "WingDoorModel" 32 "WingDoorModel" "past" "[I") ∈ zG := zG_mk (zG_t3 (List.mem_of_getElem? (i := 203) rfl)) rfl
theorem gw_3_204 : (Cond.fieldLink "WingDoorModel" 132 "WingDoorModel" "undos" "I") ∈ zG := zG_mk (zG_t3 (List.mem_of_getElem? (i := 204) rfl)) rfl
theorem gw_3_205 : (Cond.fieldLink "WingDoorModel" 35 "WingDoorModel" "images" "[I") ∈ zG := zG_mk (zG_t3 (List.mem_of_getElem? (i := 205) rfl)) rfl
theorem gw_3_206 : (Cond.fieldLink "WingDoorModel" 38 "WingDoorModel" "isKept" "[Z") ∈ zG := zG_mk (zG_t3 (List.mem_of_getElem? (i := 206) rfl)) rfl
theorem gw_3_207 : (Cond.fieldLink "WingDoorModel" 42 "WingDoorModel" "seen" "[I") ∈ zG := zG_mk (zG_t3 (List.mem_of_getElem? (i := 207) rfl)) rfl
theorem gw_3_208 : (Cond.fieldLink "WingDoorModel" 135 "WingDoorModel" "seenMany" "I") ∈ zG := zG_mk (zG_t3 (List.mem_of_getElem? (i := 208) rfl)) rfl
theorem gw_3_209 : (Cond.fieldLink "WingDoorModel" 237 "WingDoorModel" "trace" "J") ∈ zG := zG_mk (zG_t3 (List.mem_of_getElem? (i := 209) rfl)) rfl
theorem gw_3_210 : (Cond.fieldLink "WingDoorModel" 45 "WingDoorModel" "text" "[I") ∈ zG := zG_mk (zG_t3 (List.mem_of_getElem? (i := 210) rfl)) rfl
theorem gw_3_211 : (Cond.fieldLink "WingDoorModel" 60 "WingDoorModel" "typed" "I") ∈ zG := zG_mk (zG_t3 (List.mem_of_getElem? (i := 211) rfl)) rfl
theorem gw_3_212 : (Cond.fieldLink "WingDoorModel" 63 "WingDoorModel" "at" "I") ∈ zG := zG_mk (zG_t3 (List.mem_of_getElem? (i := 212) rfl)) rfl
theorem gw_3_213 : (Cond.fieldLink "WingDoorModel" 74 "WingDoorModel" "begin" "I") ∈ zG := zG_mk (zG_t3 (List.mem_of_getElem? (i := 213) rfl)) rfl
theorem gw_3_214 : (Cond.fieldLink "WingDoorModel" 80 "WingDoorModel" "token" "I") ∈ zG := zG_mk (zG_t3 (List.mem_of_getElem? (i := 214) rfl)) rfl
theorem gw_3_215 : (Cond.fieldLink "WingDoorModel" 77 "WingDoorModel" "value" "I") ∈ zG := zG_mk (zG_t3 (List.mem_of_getElem? (i := 215) rfl)) rfl
theorem gw_3_216 : (Cond.fieldLink "WingDoorModel" 97 "WingDoorModel" "readRooms" "I") ∈ zG := zG_mk (zG_t3 (List.mem_of_getElem? (i := 216) rfl)) rfl
theorem gw_3_217 : (Cond.fieldLink "WingDoorModel" 100 "WingDoorModel" "readWide" "I") ∈ zG := zG_mk (zG_t3 (List.mem_of_getElem? (i := 217) rfl)) rfl
theorem gw_3_218 : (Cond.fieldLink "WingDoorModel" 103 "WingDoorModel" "readHard" "I") ∈ zG := zG_mk (zG_t3 (List.mem_of_getElem? (i := 218) rfl)) rfl
theorem gw_3_219 : (Cond.fieldLink "WingDoorModel" 106 "WingDoorModel" "readSorts" "I") ∈ zG := zG_mk (zG_t3 (List.mem_of_getElem? (i := 219) rfl)) rfl
theorem gw_3_220 : (Cond.fieldLink "WingDoorModel" 48 "WingDoorModel" "readBulk" "[I") ∈ zG := zG_mk (zG_t3 (List.mem_of_getElem? (i := 220) rfl)) rfl
theorem gw_3_221 : (Cond.fieldLink "WingDoorModel" 51 "WingDoorModel" "readPush" "[I") ∈ zG := zG_mk (zG_t3 (List.mem_of_getElem? (i := 221) rfl)) rfl
theorem gw_3_222 : (Cond.lays "WingDoorModel" "WingDoorModel" "rooms" "I") ∈ zG := zG_mk (zG_t3 (List.mem_of_getElem? (i := 222) rfl)) rfl
theorem gw_3_224 : (Cond.lays "WingDoorModel" "WingDoorModel" "wide" "I") ∈ zG := zG_mk (zG_t3 (List.mem_of_getElem? (i := 224) rfl)) rfl
theorem gw_3_226 : (Cond.lays "WingDoorModel" "WingDoorModel" "hard" "I") ∈ zG := zG_mk (zG_t3 (List.mem_of_getElem? (i := 226) rfl)) rfl
theorem gw_3_228 : (Cond.lays "WingDoorModel" "WingDoorModel" "sorts" "I") ∈ zG := zG_mk (zG_t3 (List.mem_of_getElem? (i := 228) rfl)) rfl
theorem gw_3_230 : (Cond.laysFinal "WingDoorModel" "WingDoorModel" "bulk" "[I") ∈ zG := zG_mk (zG_t3 (List.mem_of_getElem? (i := 230) rfl)) rfl
theorem gw_3_232 : (Cond.laysFinal "WingDoorModel" "WingDoorModel" "push" "[I") ∈ zG := zG_mk (zG_t3 (List.mem_of_getElem? (i := 232) rfl)) rfl
theorem gw_3_234 : (Cond.laysFinal "WingDoorModel" "WingDoorModel" "now" "[I") ∈ zG := zG_mk (zG_t3 (List.mem_of_getElem? (i := 234) rfl)) rfl
theorem gw_3_236 : (Cond.laysFinal "WingDoorModel" "WingDoorModel" "aside" "[I") ∈ zG := zG_mk (zG_t3 (List.mem_of_getElem? (i := 236) rfl)) rfl
theorem gw_3_238 : (Cond.laysFinal "WingDoorModel" "WingDoorModel" "past" "[I") ∈ zG := zG_mk (zG_t3 (List.mem_of_getElem? (i := 238) rfl)) rfl
theorem gw_4_0 : (Cond.lays "WingDoorModel" "WingDoorModel" "undos" "I") ∈ zG := zG_mk (zG_t4 (List.mem_of_getElem? (i := 0) rfl)) rfl
theorem gw_4_2 : (Cond.laysFinal "WingDoorModel" "WingDoorModel" "images" "[I") ∈ zG := zG_mk (zG_t4 (List.mem_of_getElem? (i := 2) rfl)) rfl
theorem gw_4_4 : (Cond.laysFinal "WingDoorModel" "WingDoorModel" "isKept" "[Z") ∈ zG := zG_mk (zG_t4 (List.mem_of_getElem? (i := 4) rfl)) rfl
theorem gw_4_6 : (Cond.laysFinal "WingDoorModel" "WingDoorModel" "seen" "[I") ∈ zG := zG_mk (zG_t4 (List.mem_of_getElem? (i := 6) rfl)) rfl
theorem gw_4_8 : (Cond.lays "WingDoorModel" "WingDoorModel" "seenMany" "I") ∈ zG := zG_mk (zG_t4 (List.mem_of_getElem? (i := 8) rfl)) rfl
theorem gw_4_10 : (Cond.lays "WingDoorModel" "WingDoorModel" "trace" "J") ∈ zG := zG_mk (zG_t4 (List.mem_of_getElem? (i := 10) rfl)) rfl
theorem gw_4_12 : (Cond.laysFinal "WingDoorModel" "WingDoorModel" "text" "[I") ∈ zG := zG_mk (zG_t4 (List.mem_of_getElem? (i := 12) rfl)) rfl
theorem gw_4_14 : (Cond.lays "WingDoorModel" "WingDoorModel" "typed" "I") ∈ zG := zG_mk (zG_t4 (List.mem_of_getElem? (i := 14) rfl)) rfl
theorem gw_4_16 : (Cond.lays "WingDoorModel" "WingDoorModel" "at" "I") ∈ zG := zG_mk (zG_t4 (List.mem_of_getElem? (i := 16) rfl)) rfl
theorem gw_4_18 : (Cond.lays "WingDoorModel" "WingDoorModel" "begin" "I") ∈ zG := zG_mk (zG_t4 (List.mem_of_getElem? (i := 18) rfl)) rfl
theorem gw_4_20 : (Cond.lays "WingDoorModel" "WingDoorModel" "token" "I") ∈ zG := zG_mk (zG_t4 (List.mem_of_getElem? (i := 20) rfl)) rfl
theorem gw_4_22 : (Cond.lays "WingDoorModel" "WingDoorModel" "value" "I") ∈ zG := zG_mk (zG_t4 (List.mem_of_getElem? (i := 22) rfl)) rfl
theorem gw_4_24 : (Cond.lays "WingDoorModel" "WingDoorModel" "readRooms" "I") ∈ zG := zG_mk (zG_t4 (List.mem_of_getElem? (i := 24) rfl)) rfl
theorem gw_4_26 : (Cond.lays "WingDoorModel" "WingDoorModel" "readWide" "I") ∈ zG := zG_mk (zG_t4 (List.mem_of_getElem? (i := 26) rfl)) rfl
theorem gw_4_28 : (Cond.lays "WingDoorModel" "WingDoorModel" "readHard" "I") ∈ zG := zG_mk (zG_t4 (List.mem_of_getElem? (i := 28) rfl)) rfl
theorem gw_4_30 : (Cond.lays "WingDoorModel" "WingDoorModel" "readSorts" "I") ∈ zG := zG_mk (zG_t4 (List.mem_of_getElem? (i := 30) rfl)) rfl
theorem gw_4_32 : (Cond.laysFinal "WingDoorModel" "WingDoorModel" "readBulk" "[I") ∈ zG := zG_mk (zG_t4 (List.mem_of_getElem? (i := 32) rfl)) rfl
theorem gw_4_34 : (Cond.laysFinal "WingDoorModel" "WingDoorModel" "readPush" "[I") ∈ zG := zG_mk (zG_t4 (List.mem_of_getElem? (i := 34) rfl)) rfl
theorem gw_4_36 : (Cond.superclass "WingDoorModel" "java/lang/Object") ∈ zG := zG_mk (zG_t4 (List.mem_of_getElem? (i := 36) rfl)) rfl
theorem gw_4_37 : (Cond.methodLink "WingDoorLaw" 17 ⟨"WingDoorModel", "type", "(I)I"⟩) ∈ zG := zG_mk (zG_t4 (List.mem_of_getElem? (i := 37) rfl)) rfl
theorem gw_4_38 : (Cond.instanceMethod ⟨"WingDoorModel", "type", "(I)I"⟩) ∈ zG := zG_mk (zG_t4 (List.mem_of_getElem? (i := 38) rfl)) rfl
theorem gw_4_39 : (Cond.selects "WingDoorModel" ⟨"WingDoorModel", "type", "(I)I"⟩ ⟨"WingDoorModel", "type", "(I)I"⟩) ∈ zG := zG_mk (zG_t4 (List.mem_of_getElem? (i := 39) rfl)) rfl
theorem gw_4_40 : (Cond.code ⟨"WingDoorModel", "type", "(I)I"⟩ prog_14_method_7_code 2 (some .int)) ∈ zG := zG_mk (zG_t4 (List.mem_of_getElem? (i := 40) rfl)) rfl
theorem gw_4_41 : (Cond.constantLong "WingDoorModel" 54 255) ∈ zG := zG_mk (zG_t4 (List.mem_of_getElem? (i := 41) rfl)) rfl
theorem gw_4_42 : (Cond.methodLink "WingDoorModel" 56 ⟨"WingDoorModel", "in", "(JJJ)Z"⟩) ∈ zG := zG_mk (zG_t4 (List.mem_of_getElem? (i := 42) rfl)) rfl
theorem gw_4_43 : (Cond.static ⟨"WingDoorModel", "in", "(JJJ)Z"⟩) ∈ zG := zG_mk (zG_t4 (List.mem_of_getElem? (i := 43) rfl)) rfl
theorem gw_4_44 : (Cond.code ⟨"WingDoorModel", "in", "(JJJ)Z"⟩ prog_14_method_3_code 6 (some .boolean)) ∈ zG := zG_mk (zG_t4 (List.mem_of_getElem? (i := 44) rfl)) rfl
theorem gw_4_45 : (Cond.methodLink "WingDoorLaw" 22 ⟨"WingDoorModel", "clear", "()I"⟩) ∈ zG := zG_mk (zG_t4 (List.mem_of_getElem? (i := 45) rfl)) rfl
theorem gw_4_46 : (Cond.instanceMethod ⟨"WingDoorModel", "clear", "()I"⟩) ∈ zG := zG_mk (zG_t4 (List.mem_of_getElem? (i := 46) rfl)) rfl
theorem gw_4_47 : (Cond.selects "WingDoorModel" ⟨"WingDoorModel", "clear", "()I"⟩ ⟨"WingDoorModel", "clear", "()I"⟩) ∈ zG := zG_mk (zG_t4 (List.mem_of_getElem? (i := 47) rfl)) rfl
theorem gw_4_48 : (Cond.code ⟨"WingDoorModel", "clear", "()I"⟩ prog_14_method_8_code 2 (some .int)) ∈ zG := zG_mk (zG_t4 (List.mem_of_getElem? (i := 48) rfl)) rfl
theorem gw_4_49 : (Cond.methodLink "WingDoorLaw" 26 ⟨"WingDoorModel", "door", "()I"⟩) ∈ zG := zG_mk (zG_t4 (List.mem_of_getElem? (i := 49) rfl)) rfl
theorem gw_4_50 : (Cond.instanceMethod ⟨"WingDoorModel", "door", "()I"⟩) ∈ zG := zG_mk (zG_t4 (List.mem_of_getElem? (i := 50) rfl)) rfl
theorem gw_4_51 : (Cond.selects "WingDoorModel" ⟨"WingDoorModel", "door", "()I"⟩ ⟨"WingDoorModel", "door", "()I"⟩) ∈ zG := zG_mk (zG_t4 (List.mem_of_getElem? (i := 51) rfl)) rfl
theorem gw_4_52 : (Cond.code ⟨"WingDoorModel", "door", "()I"⟩ prog_14_method_19_code 3 (some .int)) ∈ zG := zG_mk (zG_t4 (List.mem_of_getElem? (i := 52) rfl)) rfl
theorem gw_4_53 : (Cond.methodLink "WingDoorModel" 122 ⟨"WingDoorModel", "reads", "()I"⟩) ∈ zG := zG_mk (zG_t4 (List.mem_of_getElem? (i := 53) rfl)) rfl
theorem gw_4_55 : (Cond.instanceMethod ⟨"WingDoorModel", "reads", "()I"⟩) ∈ zG := zG_mk (zG_t4 (List.mem_of_getElem? (i := 55) rfl)) rfl
theorem gw_4_56 : (Cond.code ⟨"WingDoorModel", "reads", "()I"⟩ prog_14_method_18_code 2 (some .int)) ∈ zG := zG_mk (zG_t4 (List.mem_of_getElem? (i := 56) rfl)) rfl
theorem gw_4_57 : (Cond.methodLink "WingDoorModel" 90 ⟨"WingDoorModel", "nextToken", "()V"⟩) ∈ zG := zG_mk (zG_t4 (List.mem_of_getElem? (i := 57) rfl)) rfl
theorem gw_4_59 : (Cond.instanceMethod ⟨"WingDoorModel", "nextToken", "()V"⟩) ∈ zG := zG_mk (zG_t4 (List.mem_of_getElem? (i := 59) rfl)) rfl
theorem gw_4_60 : (Cond.code ⟨"WingDoorModel", "nextToken", "()V"⟩ prog_14_method_11_code 1 none) ∈ zG := zG_mk (zG_t4 (List.mem_of_getElem? (i := 60) rfl)) rfl
theorem gw_4_61 : (Cond.methodLink "WingDoorModel" 66 ⟨"WingDoorModel", "here", "()I"⟩) ∈ zG := zG_mk (zG_t4 (List.mem_of_getElem? (i := 61) rfl)) rfl
theorem gw_4_63 : (Cond.instanceMethod ⟨"WingDoorModel", "here", "()I"⟩) ∈ zG := zG_mk (zG_t4 (List.mem_of_getElem? (i := 63) rfl)) rfl
theorem gw_4_64 : (Cond.code ⟨"WingDoorModel", "here", "()I"⟩ prog_14_method_9_code 1 (some .int)) ∈ zG := zG_mk (zG_t4 (List.mem_of_getElem? (i := 64) rfl)) rfl
theorem gw_4_65 : (Cond.methodLink "WingDoorModel" 83 ⟨"WingDoorModel", "isFigure", "()Z"⟩) ∈ zG := zG_mk (zG_t4 (List.mem_of_getElem? (i := 65) rfl)) rfl
theorem gw_4_67 : (Cond.instanceMethod ⟨"WingDoorModel", "isFigure", "()Z"⟩) ∈ zG := zG_mk (zG_t4 (List.mem_of_getElem? (i := 67) rfl)) rfl
theorem gw_4_68 : (Cond.code ⟨"WingDoorModel", "isFigure", "()Z"⟩ prog_14_method_10_code 1 (some .boolean)) ∈ zG := zG_mk (zG_t4 (List.mem_of_getElem? (i := 68) rfl)) rfl
theorem gw_4_69 : (Cond.constantLong "WingDoorModel" 70 48) ∈ zG := zG_mk (zG_t4 (List.mem_of_getElem? (i := 69) rfl)) rfl
theorem gw_4_70 : (Cond.constantLong "WingDoorModel" 72 57) ∈ zG := zG_mk (zG_t4 (List.mem_of_getElem? (i := 70) rfl)) rfl
theorem gw_4_71 : (Cond.methodLink "WingDoorModel" 87 ⟨"WingDoorModel", "readsFigures", "()V"⟩) ∈ zG := zG_mk (zG_t4 (List.mem_of_getElem? (i := 71) rfl)) rfl
theorem gw_4_73 : (Cond.instanceMethod ⟨"WingDoorModel", "readsFigures", "()V"⟩) ∈ zG := zG_mk (zG_t4 (List.mem_of_getElem? (i := 73) rfl)) rfl
theorem gw_4_74 : (Cond.code ⟨"WingDoorModel", "readsFigures", "()V"⟩ prog_14_method_12_code 2 none) ∈ zG := zG_mk (zG_t4 (List.mem_of_getElem? (i := 74) rfl)) rfl
theorem gw_4_75 : (Cond.methodLink "WingDoorModel" 118 ⟨"WingDoorModel", "isItem", "(I)Z"⟩) ∈ zG := zG_mk (zG_t4 (List.mem_of_getElem? (i := 75) rfl)) rfl
theorem gw_4_77 : (Cond.instanceMethod ⟨"WingDoorModel", "isItem", "(I)Z"⟩) ∈ zG := zG_mk (zG_t4 (List.mem_of_getElem? (i := 77) rfl)) rfl
theorem gw_4_78 : (Cond.code ⟨"WingDoorModel", "isItem", "(I)Z"⟩ prog_14_method_17_code 2 (some .boolean)) ∈ zG := zG_mk (zG_t4 (List.mem_of_getElem? (i := 78) rfl)) rfl
theorem gw_4_79 : (Cond.methodLink "WingDoorModel" 109 ⟨"WingDoorModel", "isRooms", "()Z"⟩) ∈ zG := zG_mk (zG_t4 (List.mem_of_getElem? (i := 79) rfl)) rfl
theorem gw_4_81 : (Cond.instanceMethod ⟨"WingDoorModel", "isRooms", "()Z"⟩) ∈ zG := zG_mk (zG_t4 (List.mem_of_getElem? (i := 81) rfl)) rfl
theorem gw_4_82 : (Cond.code ⟨"WingDoorModel", "isRooms", "()Z"⟩ prog_14_method_14_code 1 (some .boolean)) ∈ zG := zG_mk (zG_t4 (List.mem_of_getElem? (i := 82) rfl)) rfl
theorem gw_4_83 : (Cond.methodLink "WingDoorModel" 93 ⟨"WingDoorModel", "number", "(II)Z"⟩) ∈ zG := zG_mk (zG_t4 (List.mem_of_getElem? (i := 83) rfl)) rfl
theorem gw_4_85 : (Cond.instanceMethod ⟨"WingDoorModel", "number", "(II)Z"⟩) ∈ zG := zG_mk (zG_t4 (List.mem_of_getElem? (i := 85) rfl)) rfl
theorem gw_4_86 : (Cond.code ⟨"WingDoorModel", "number", "(II)Z"⟩ prog_14_method_13_code 3 (some .boolean)) ∈ zG := zG_mk (zG_t4 (List.mem_of_getElem? (i := 86) rfl)) rfl
theorem gw_4_87 : (Cond.methodLink "WingDoorModel" 112 ⟨"WingDoorModel", "isHard", "()Z"⟩) ∈ zG := zG_mk (zG_t4 (List.mem_of_getElem? (i := 87) rfl)) rfl
theorem gw_4_89 : (Cond.instanceMethod ⟨"WingDoorModel", "isHard", "()Z"⟩) ∈ zG := zG_mk (zG_t4 (List.mem_of_getElem? (i := 89) rfl)) rfl
theorem gw_4_90 : (Cond.code ⟨"WingDoorModel", "isHard", "()Z"⟩ prog_14_method_15_code 1 (some .boolean)) ∈ zG := zG_mk (zG_t4 (List.mem_of_getElem? (i := 90) rfl)) rfl
theorem gw_4_91 : (Cond.methodLink "WingDoorModel" 115 ⟨"WingDoorModel", "isSort", "()Z"⟩) ∈ zG := zG_mk (zG_t4 (List.mem_of_getElem? (i := 91) rfl)) rfl
theorem gw_4_93 : (Cond.instanceMethod ⟨"WingDoorModel", "isSort", "()Z"⟩) ∈ zG := zG_mk (zG_t4 (List.mem_of_getElem? (i := 93) rfl)) rfl
theorem gw_4_94 : (Cond.code ⟨"WingDoorModel", "isSort", "()Z"⟩ prog_14_method_16_code 1 (some .boolean)) ∈ zG := zG_mk (zG_t4 (List.mem_of_getElem? (i := 94) rfl)) rfl
theorem gw_4_95 : (Cond.methodLink "WingDoorModel" 128 ⟨"WingDoorModel", "copies", "([II[III)V"⟩) ∈ zG := zG_mk (zG_t4 (List.mem_of_getElem? (i := 95) rfl)) rfl
theorem gw_4_96 : (Cond.static ⟨"WingDoorModel", "copies", "([II[III)V"⟩) ∈ zG := zG_mk (zG_t4 (List.mem_of_getElem? (i := 96) rfl)) rfl
theorem gw_4_97 : (Cond.code ⟨"WingDoorModel", "copies", "([II[III)V"⟩ prog_14_method_6_code 6 none) ∈ zG := zG_mk (zG_t4 (List.mem_of_getElem? (i := 97) rfl)) rfl
theorem gw_4_98 : (Cond.methodLink "WingDoorLaw" 31 ⟨"WingDoorModel", "sort", "(II)I"⟩) ∈ zG := zG_mk (zG_t4 (List.mem_of_getElem? (i := 98) rfl)) rfl
theorem gw_4_99 : (Cond.instanceMethod ⟨"WingDoorModel", "sort", "(II)I"⟩) ∈ zG := zG_mk (zG_t4 (List.mem_of_getElem? (i := 99) rfl)) rfl
theorem gw_4_100 : (Cond.selects "WingDoorModel" ⟨"WingDoorModel", "sort", "(II)I"⟩ ⟨"WingDoorModel", "sort", "(II)I"⟩) ∈ zG := zG_mk (zG_t4 (List.mem_of_getElem? (i := 100) rfl)) rfl
theorem gw_4_101 : (Cond.code ⟨"WingDoorModel", "sort", "(II)I"⟩ prog_14_method_39_code 5 (some .int)) ∈ zG := zG_mk (zG_t4 (List.mem_of_getElem? (i := 101) rfl)) rfl
theorem gw_4_102 : (Cond.methodLink "WingDoorLaw" 35 ⟨"WingDoorModel", "goer", "(II)I"⟩) ∈ zG := zG_mk (zG_t4 (List.mem_of_getElem? (i := 102) rfl)) rfl
theorem gw_4_103 : (Cond.instanceMethod ⟨"WingDoorModel", "goer", "(II)I"⟩) ∈ zG := zG_mk (zG_t4 (List.mem_of_getElem? (i := 103) rfl)) rfl
theorem gw_4_104 : (Cond.selects "WingDoorModel" ⟨"WingDoorModel", "goer", "(II)I"⟩ ⟨"WingDoorModel", "goer", "(II)I"⟩) ∈ zG := zG_mk (zG_t4 (List.mem_of_getElem? (i := 104) rfl)) rfl
theorem gw_4_105 : (Cond.code ⟨"WingDoorModel", "goer", "(II)I"⟩ prog_14_method_40_code 3 (some .int)) ∈ zG := zG_mk (zG_t4 (List.mem_of_getElem? (i := 105) rfl)) rfl
theorem gw_4_106 : (Cond.methodLink "WingDoorModel" 188 ⟨"WingDoorModel", "isGoer", "(I)Z"⟩) ∈ zG := zG_mk (zG_t4 (List.mem_of_getElem? (i := 106) rfl)) rfl
theorem gw_4_108 : (Cond.instanceMethod ⟨"WingDoorModel", "isGoer", "(I)Z"⟩) ∈ zG := zG_mk (zG_t4 (List.mem_of_getElem? (i := 108) rfl)) rfl
theorem gw_4_109 : (Cond.code ⟨"WingDoorModel", "isGoer", "(I)Z"⟩ prog_14_method_21_code 2 (some .boolean)) ∈ zG := zG_mk (zG_t4 (List.mem_of_getElem? (i := 109) rfl)) rfl
theorem gw_4_110 : (Cond.methodLink "WingDoorModel" 191 ⟨"WingDoorModel", "aheadOf", "([II)I"⟩) ∈ zG := zG_mk (zG_t4 (List.mem_of_getElem? (i := 110) rfl)) rfl
theorem gw_4_111 : (Cond.static ⟨"WingDoorModel", "aheadOf", "([II)I"⟩) ∈ zG := zG_mk (zG_t4 (List.mem_of_getElem? (i := 111) rfl)) rfl
theorem gw_4_112 : (Cond.code ⟨"WingDoorModel", "aheadOf", "([II)I"⟩ prog_14_method_33_code 4 (some .int)) ∈ zG := zG_mk (zG_t4 (List.mem_of_getElem? (i := 112) rfl)) rfl
theorem gw_4_113 : (Cond.methodLink "WingDoorModel" 194 ⟨"WingDoorModel", "when", "(I)I"⟩) ∈ zG := zG_mk (zG_t4 (List.mem_of_getElem? (i := 113) rfl)) rfl
theorem gw_4_115 : (Cond.instanceMethod ⟨"WingDoorModel", "when", "(I)I"⟩) ∈ zG := zG_mk (zG_t4 (List.mem_of_getElem? (i := 115) rfl)) rfl
theorem gw_4_116 : (Cond.code ⟨"WingDoorModel", "when", "(I)I"⟩ prog_14_method_36_code 3 (some .int)) ∈ zG := zG_mk (zG_t4 (List.mem_of_getElem? (i := 116) rfl)) rfl
theorem gw_4_117 : (Cond.methodLink "WingDoorModel" 182 ⟨"WingDoorModel", "layAside", "()V"⟩) ∈ zG := zG_mk (zG_t4 (List.mem_of_getElem? (i := 117) rfl)) rfl
theorem gw_4_119 : (Cond.instanceMethod ⟨"WingDoorModel", "layAside", "()V"⟩) ∈ zG := zG_mk (zG_t4 (List.mem_of_getElem? (i := 119) rfl)) rfl
theorem gw_4_120 : (Cond.code ⟨"WingDoorModel", "layAside", "()V"⟩ prog_14_method_34_code 1 none) ∈ zG := zG_mk (zG_t4 (List.mem_of_getElem? (i := 120) rfl)) rfl
theorem gw_4_121 : (Cond.methodLink "WingDoorModel" 185 ⟨"WingDoorModel", "whenAside", "(I)I"⟩) ∈ zG := zG_mk (zG_t4 (List.mem_of_getElem? (i := 121) rfl)) rfl
theorem gw_4_123 : (Cond.instanceMethod ⟨"WingDoorModel", "whenAside", "(I)I"⟩) ∈ zG := zG_mk (zG_t4 (List.mem_of_getElem? (i := 123) rfl)) rfl
theorem gw_4_124 : (Cond.code ⟨"WingDoorModel", "whenAside", "(I)I"⟩ prog_14_method_35_code 4 (some .int)) ∈ zG := zG_mk (zG_t4 (List.mem_of_getElem? (i := 124) rfl)) rfl
theorem gw_4_125 : (Cond.methodLink "WingDoorModel" 179 ⟨"WingDoorModel", "goes", "([I)I"⟩) ∈ zG := zG_mk (zG_t4 (List.mem_of_getElem? (i := 125) rfl)) rfl
theorem gw_4_127 : (Cond.instanceMethod ⟨"WingDoorModel", "goes", "([I)I"⟩) ∈ zG := zG_mk (zG_t4 (List.mem_of_getElem? (i := 127) rfl)) rfl
theorem gw_4_128 : (Cond.code ⟨"WingDoorModel", "goes", "([I)I"⟩ prog_14_method_32_code 5 (some .int)) ∈ zG := zG_mk (zG_t4 (List.mem_of_getElem? (i := 128) rfl)) rfl
theorem gw_4_129 : (Cond.methodLink "WingDoorModel" 171 ⟨"WingDoorModel", "sticksOn", "([I)Z"⟩) ∈ zG := zG_mk (zG_t4 (List.mem_of_getElem? (i := 129) rfl)) rfl
theorem gw_4_131 : (Cond.instanceMethod ⟨"WingDoorModel", "sticksOn", "([I)Z"⟩) ∈ zG := zG_mk (zG_t4 (List.mem_of_getElem? (i := 131) rfl)) rfl
theorem gw_4_132 : (Cond.code ⟨"WingDoorModel", "sticksOn", "([I)Z"⟩ prog_14_method_31_code 2 (some .boolean)) ∈ zG := zG_mk (zG_t4 (List.mem_of_getElem? (i := 132) rfl)) rfl
theorem gw_4_133 : (Cond.methodLink "WingDoorModel" 158 ⟨"WingDoorModel", "those", "([II)I"⟩) ∈ zG := zG_mk (zG_t4 (List.mem_of_getElem? (i := 133) rfl)) rfl
theorem gw_4_134 : (Cond.static ⟨"WingDoorModel", "those", "([II)I"⟩) ∈ zG := zG_mk (zG_t4 (List.mem_of_getElem? (i := 134) rfl)) rfl
theorem gw_4_135 : (Cond.code ⟨"WingDoorModel", "those", "([II)I"⟩ prog_14_method_23_code 4 (some .int)) ∈ zG := zG_mk (zG_t4 (List.mem_of_getElem? (i := 135) rfl)) rfl
theorem gw_4_136 : (Cond.methodLink "WingDoorModel" 164 ⟨"WingDoorModel", "loadOn", "([I)I"⟩) ∈ zG := zG_mk (zG_t4 (List.mem_of_getElem? (i := 136) rfl)) rfl
theorem gw_4_138 : (Cond.instanceMethod ⟨"WingDoorModel", "loadOn", "([I)I"⟩) ∈ zG := zG_mk (zG_t4 (List.mem_of_getElem? (i := 138) rfl)) rfl
theorem gw_4_139 : (Cond.code ⟨"WingDoorModel", "loadOn", "([I)I"⟩ prog_14_method_29_code 4 (some .int)) ∈ zG := zG_mk (zG_t4 (List.mem_of_getElem? (i := 139) rfl)) rfl
theorem gw_4_140 : (Cond.methodLink "WingDoorModel" 168 ⟨"WingDoorModel", "dragOn", "([I)I"⟩) ∈ zG := zG_mk (zG_t4 (List.mem_of_getElem? (i := 140) rfl)) rfl
theorem gw_4_142 : (Cond.instanceMethod ⟨"WingDoorModel", "dragOn", "([I)I"⟩) ∈ zG := zG_mk (zG_t4 (List.mem_of_getElem? (i := 142) rfl)) rfl
theorem gw_4_143 : (Cond.code ⟨"WingDoorModel", "dragOn", "([I)I"⟩ prog_14_method_30_code 2 (some .int)) ∈ zG := zG_mk (zG_t4 (List.mem_of_getElem? (i := 143) rfl)) rfl
theorem gw_4_144 : (Cond.methodLink "WingDoorModel" 161 ⟨"WingDoorModel", "bits", "(I)I"⟩) ∈ zG := zG_mk (zG_t4 (List.mem_of_getElem? (i := 144) rfl)) rfl
theorem gw_4_145 : (Cond.static ⟨"WingDoorModel", "bits", "(I)I"⟩) ∈ zG := zG_mk (zG_t4 (List.mem_of_getElem? (i := 145) rfl)) rfl
theorem gw_4_146 : (Cond.code ⟨"WingDoorModel", "bits", "(I)I"⟩ prog_14_method_5_code 3 (some .int)) ∈ zG := zG_mk (zG_t4 (List.mem_of_getElem? (i := 146) rfl)) rfl
theorem gw_4_147 : (Cond.methodLink "WingDoorModel" 151 ⟨"WingDoorModel", "placeOf", "(I)I"⟩) ∈ zG := zG_mk (zG_t4 (List.mem_of_getElem? (i := 147) rfl)) rfl
theorem gw_4_149 : (Cond.instanceMethod ⟨"WingDoorModel", "placeOf", "(I)I"⟩) ∈ zG := zG_mk (zG_t4 (List.mem_of_getElem? (i := 149) rfl)) rfl
theorem gw_4_150 : (Cond.code ⟨"WingDoorModel", "placeOf", "(I)I"⟩ prog_14_method_27_code 2 (some .int)) ∈ zG := zG_mk (zG_t4 (List.mem_of_getElem? (i := 150) rfl)) rfl
theorem gw_4_151 : (Cond.methodLink "WingDoorModel" 175 ⟨"WingDoorModel", "fills", "([I)V"⟩) ∈ zG := zG_mk (zG_t4 (List.mem_of_getElem? (i := 151) rfl)) rfl
theorem gw_4_153 : (Cond.instanceMethod ⟨"WingDoorModel", "fills", "([I)V"⟩) ∈ zG := zG_mk (zG_t4 (List.mem_of_getElem? (i := 153) rfl)) rfl
theorem gw_4_154 : (Cond.code ⟨"WingDoorModel", "fills", "([I)V"⟩ prog_14_method_28_code 4 none) ∈ zG := zG_mk (zG_t4 (List.mem_of_getElem? (i := 154) rfl)) rfl
theorem gw_4_155 : (Cond.methodLink "WingDoorModel" 148 ⟨"WingDoorModel", "firstOn", "([II)I"⟩) ∈ zG := zG_mk (zG_t4 (List.mem_of_getElem? (i := 155) rfl)) rfl
theorem gw_4_156 : (Cond.static ⟨"WingDoorModel", "firstOn", "([II)I"⟩) ∈ zG := zG_mk (zG_t4 (List.mem_of_getElem? (i := 156) rfl)) rfl
theorem gw_4_157 : (Cond.code ⟨"WingDoorModel", "firstOn", "([II)I"⟩ prog_14_method_26_code 5 (some .int)) ∈ zG := zG_mk (zG_t4 (List.mem_of_getElem? (i := 157) rfl)) rfl
theorem gw_4_158 : (Cond.methodLink "WingDoorModel" 155 ⟨"WingDoorModel", "bulkIn", "([II)I"⟩) ∈ zG := zG_mk (zG_t4 (List.mem_of_getElem? (i := 158) rfl)) rfl
theorem gw_4_160 : (Cond.instanceMethod ⟨"WingDoorModel", "bulkIn", "([II)I"⟩) ∈ zG := zG_mk (zG_t4 (List.mem_of_getElem? (i := 160) rfl)) rfl
theorem gw_4_161 : (Cond.code ⟨"WingDoorModel", "bulkIn", "([II)I"⟩ prog_14_method_25_code 5 (some .int)) ∈ zG := zG_mk (zG_t4 (List.mem_of_getElem? (i := 161) rfl)) rfl
theorem gw_4_162 : (Cond.methodLink "WingDoorModel" 138 ⟨"WingDoorModel", "inRoom", "([II)I"⟩) ∈ zG := zG_mk (zG_t4 (List.mem_of_getElem? (i := 162) rfl)) rfl
theorem gw_4_163 : (Cond.static ⟨"WingDoorModel", "inRoom", "([II)I"⟩) ∈ zG := zG_mk (zG_t4 (List.mem_of_getElem? (i := 163) rfl)) rfl
theorem gw_4_164 : (Cond.code ⟨"WingDoorModel", "inRoom", "([II)I"⟩ prog_14_method_24_code 4 (some .int)) ∈ zG := zG_mk (zG_t4 (List.mem_of_getElem? (i := 164) rfl)) rfl
theorem gw_4_165 : (Cond.methodLink "WingDoorModel" 142 ⟨"WingDoorModel", "has", "(II)Z"⟩) ∈ zG := zG_mk (zG_t4 (List.mem_of_getElem? (i := 165) rfl)) rfl
theorem gw_4_166 : (Cond.static ⟨"WingDoorModel", "has", "(II)Z"⟩) ∈ zG := zG_mk (zG_t4 (List.mem_of_getElem? (i := 166) rfl)) rfl
theorem gw_4_167 : (Cond.code ⟨"WingDoorModel", "has", "(II)Z"⟩ prog_14_method_4_code 2 (some .boolean)) ∈ zG := zG_mk (zG_t4 (List.mem_of_getElem? (i := 167) rfl)) rfl
theorem gw_4_168 : (Cond.methodLink "WingDoorModel" 145 ⟨"WingDoorModel", "bulkOf", "([II)I"⟩) ∈ zG := zG_mk (zG_t4 (List.mem_of_getElem? (i := 168) rfl)) rfl
theorem gw_4_170 : (Cond.instanceMethod ⟨"WingDoorModel", "bulkOf", "([II)I"⟩) ∈ zG := zG_mk (zG_t4 (List.mem_of_getElem? (i := 170) rfl)) rfl
theorem gw_4_171 : (Cond.code ⟨"WingDoorModel", "bulkOf", "([II)I"⟩ prog_14_method_22_code 3 (some .int)) ∈ zG := zG_mk (zG_t4 (List.mem_of_getElem? (i := 171) rfl)) rfl
theorem gw_4_172 : (Cond.methodLink "WingDoorLaw" 39 ⟨"WingDoorModel", "room", "(II)I"⟩) ∈ zG := zG_mk (zG_t4 (List.mem_of_getElem? (i := 172) rfl)) rfl
theorem gw_4_173 : (Cond.instanceMethod ⟨"WingDoorModel", "room", "(II)I"⟩) ∈ zG := zG_mk (zG_t4 (List.mem_of_getElem? (i := 173) rfl)) rfl
theorem gw_4_174 : (Cond.selects "WingDoorModel" ⟨"WingDoorModel", "room", "(II)I"⟩ ⟨"WingDoorModel", "room", "(II)I"⟩) ∈ zG := zG_mk (zG_t4 (List.mem_of_getElem? (i := 174) rfl)) rfl
theorem gw_4_175 : (Cond.code ⟨"WingDoorModel", "room", "(II)I"⟩ prog_14_method_41_code 3 (some .int)) ∈ zG := zG_mk (zG_t4 (List.mem_of_getElem? (i := 175) rfl)) rfl
theorem gw_4_176 : (Cond.methodLink "WingDoorModel" 197 ⟨"WingDoorModel", "isBit", "(I)Z"⟩) ∈ zG := zG_mk (zG_t4 (List.mem_of_getElem? (i := 176) rfl)) rfl
theorem gw_4_177 : (Cond.static ⟨"WingDoorModel", "isBit", "(I)Z"⟩) ∈ zG := zG_mk (zG_t4 (List.mem_of_getElem? (i := 177) rfl)) rfl
theorem gw_4_178 : (Cond.code ⟨"WingDoorModel", "isBit", "(I)Z"⟩ prog_14_method_20_code 1 (some .boolean)) ∈ zG := zG_mk (zG_t4 (List.mem_of_getElem? (i := 178) rfl)) rfl
theorem gw_4_179 : (Cond.methodLink "WingDoorLaw" 43 ⟨"WingDoorModel", "now", "(I)I"⟩) ∈ zG := zG_mk (zG_t4 (List.mem_of_getElem? (i := 179) rfl)) rfl
theorem gw_4_180 : (Cond.instanceMethod ⟨"WingDoorModel", "now", "(I)I"⟩) ∈ zG := zG_mk (zG_t4 (List.mem_of_getElem? (i := 180) rfl)) rfl
theorem gw_4_181 : (Cond.selects "WingDoorModel" ⟨"WingDoorModel", "now", "(I)I"⟩ ⟨"WingDoorModel", "now", "(I)I"⟩) ∈ zG := zG_mk (zG_t4 (List.mem_of_getElem? (i := 181) rfl)) rfl
theorem gw_4_182 : (Cond.code ⟨"WingDoorModel", "now", "(I)I"⟩ prog_14_method_42_code 2 (some .int)) ∈ zG := zG_mk (zG_t4 (List.mem_of_getElem? (i := 182) rfl)) rfl
theorem gw_4_183 : (Cond.methodLink "WingDoorModel" 200 ⟨"WingDoorModel", "sticksFirst", "()I"⟩) ∈ zG := zG_mk (zG_t4 (List.mem_of_getElem? (i := 183) rfl)) rfl
theorem gw_4_185 : (Cond.instanceMethod ⟨"WingDoorModel", "sticksFirst", "()I"⟩) ∈ zG := zG_mk (zG_t4 (List.mem_of_getElem? (i := 185) rfl)) rfl
theorem gw_4_186 : (Cond.code ⟨"WingDoorModel", "sticksFirst", "()I"⟩ prog_14_method_37_code 3 (some .int)) ∈ zG := zG_mk (zG_t4 (List.mem_of_getElem? (i := 186) rfl)) rfl
theorem gw_4_187 : (Cond.methodLink "WingDoorModel" 203 ⟨"WingDoorModel", "allOut", "()I"⟩) ∈ zG := zG_mk (zG_t4 (List.mem_of_getElem? (i := 187) rfl)) rfl
theorem gw_4_189 : (Cond.instanceMethod ⟨"WingDoorModel", "allOut", "()I"⟩) ∈ zG := zG_mk (zG_t4 (List.mem_of_getElem? (i := 189) rfl)) rfl
theorem gw_4_190 : (Cond.code ⟨"WingDoorModel", "allOut", "()I"⟩ prog_14_method_38_code 3 (some .int)) ∈ zG := zG_mk (zG_t4 (List.mem_of_getElem? (i := 190) rfl)) rfl
theorem gw_4_191 : (Cond.methodLink "WingDoorLaw" 47 ⟨"WingDoorModel", "comes", "(II)I"⟩) ∈ zG := zG_mk (zG_t4 (List.mem_of_getElem? (i := 191) rfl)) rfl
theorem gw_4_192 : (Cond.instanceMethod ⟨"WingDoorModel", "comes", "(II)I"⟩) ∈ zG := zG_mk (zG_t4 (List.mem_of_getElem? (i := 192) rfl)) rfl
theorem gw_4_193 : (Cond.selects "WingDoorModel" ⟨"WingDoorModel", "comes", "(II)I"⟩ ⟨"WingDoorModel", "comes", "(II)I"⟩) ∈ zG := zG_mk (zG_t4 (List.mem_of_getElem? (i := 193) rfl)) rfl
theorem gw_4_194 : (Cond.code ⟨"WingDoorModel", "comes", "(II)I"⟩ prog_14_method_44_code 6 (some .int)) ∈ zG := zG_mk (zG_t4 (List.mem_of_getElem? (i := 194) rfl)) rfl
theorem gw_4_195 : (Cond.methodLink "WingDoorModel" 206 ⟨"WingDoorModel", "notes", "()V"⟩) ∈ zG := zG_mk (zG_t4 (List.mem_of_getElem? (i := 195) rfl)) rfl
theorem gw_4_197 : (Cond.instanceMethod ⟨"WingDoorModel", "notes", "()V"⟩) ∈ zG := zG_mk (zG_t4 (List.mem_of_getElem? (i := 197) rfl)) rfl
theorem gw_4_198 : (Cond.code ⟨"WingDoorModel", "notes", "()V"⟩ prog_14_method_43_code 2 none) ∈ zG := zG_mk (zG_t4 (List.mem_of_getElem? (i := 198) rfl)) rfl
theorem gw_4_199 : (Cond.methodLink "WingDoorLaw" 51 ⟨"WingDoorModel", "steps", "()I"⟩) ∈ zG := zG_mk (zG_t4 (List.mem_of_getElem? (i := 199) rfl)) rfl
theorem gw_4_200 : (Cond.instanceMethod ⟨"WingDoorModel", "steps", "()I"⟩) ∈ zG := zG_mk (zG_t4 (List.mem_of_getElem? (i := 200) rfl)) rfl
theorem gw_4_201 : (Cond.selects "WingDoorModel" ⟨"WingDoorModel", "steps", "()I"⟩ ⟨"WingDoorModel", "steps", "()I"⟩) ∈ zG := zG_mk (zG_t4 (List.mem_of_getElem? (i := 201) rfl)) rfl
theorem gw_4_202 : (Cond.code ⟨"WingDoorModel", "steps", "()I"⟩ prog_14_method_45_code 1 (some .int)) ∈ zG := zG_mk (zG_t4 (List.mem_of_getElem? (i := 202) rfl)) rfl
theorem gw_4_203 : (Cond.methodLink "WingDoorLaw" 55 ⟨"WingDoorModel", "leaves", "(I)I"⟩) ∈ zG := zG_mk (zG_t4 (List.mem_of_getElem? (i := 203) rfl)) rfl
theorem gw_4_204 : (Cond.instanceMethod ⟨"WingDoorModel", "leaves", "(I)I"⟩) ∈ zG := zG_mk (zG_t4 (List.mem_of_getElem? (i := 204) rfl)) rfl
theorem gw_4_205 : (Cond.selects "WingDoorModel" ⟨"WingDoorModel", "leaves", "(I)I"⟩ ⟨"WingDoorModel", "leaves", "(I)I"⟩) ∈ zG := zG_mk (zG_t4 (List.mem_of_getElem? (i := 205) rfl)) rfl
theorem gw_4_206 : (Cond.code ⟨"WingDoorModel", "leaves", "(I)I"⟩ prog_14_method_47_code 2 (some .int)) ∈ zG := zG_mk (zG_t4 (List.mem_of_getElem? (i := 206) rfl)) rfl
theorem gw_4_207 : (Cond.methodLink "WingDoorModel" 209 ⟨"WingDoorModel", "leavesOn", "([II)V"⟩) ∈ zG := zG_mk (zG_t4 (List.mem_of_getElem? (i := 207) rfl)) rfl
theorem gw_4_208 : (Cond.static ⟨"WingDoorModel", "leavesOn", "([II)V"⟩) ∈ zG := zG_mk (zG_t4 (List.mem_of_getElem? (i := 208) rfl)) rfl
theorem gw_4_209 : (Cond.code ⟨"WingDoorModel", "leavesOn", "([II)V"⟩ prog_14_method_46_code 2 none) ∈ zG := zG_mk (zG_t4 (List.mem_of_getElem? (i := 209) rfl)) rfl
theorem gw_4_210 : (Cond.methodLink "WingDoorLaw" 59 ⟨"WingDoorModel", "lets", "(I)I"⟩) ∈ zG := zG_mk (zG_t4 (List.mem_of_getElem? (i := 210) rfl)) rfl
theorem gw_4_211 : (Cond.instanceMethod ⟨"WingDoorModel", "lets", "(I)I"⟩) ∈ zG := zG_mk (zG_t4 (List.mem_of_getElem? (i := 211) rfl)) rfl
theorem gw_4_212 : (Cond.selects "WingDoorModel" ⟨"WingDoorModel", "lets", "(I)I"⟩ ⟨"WingDoorModel", "lets", "(I)I"⟩) ∈ zG := zG_mk (zG_t4 (List.mem_of_getElem? (i := 212) rfl)) rfl
theorem gw_4_213 : (Cond.code ⟨"WingDoorModel", "lets", "(I)I"⟩ prog_14_method_49_code 3 (some .int)) ∈ zG := zG_mk (zG_t4 (List.mem_of_getElem? (i := 213) rfl)) rfl
theorem gw_4_214 : (Cond.methodLink "WingDoorModel" 213 ⟨"WingDoorModel", "letsOn", "([II)V"⟩) ∈ zG := zG_mk (zG_t4 (List.mem_of_getElem? (i := 214) rfl)) rfl
theorem gw_4_215 : (Cond.static ⟨"WingDoorModel", "letsOn", "([II)V"⟩) ∈ zG := zG_mk (zG_t4 (List.mem_of_getElem? (i := 215) rfl)) rfl
theorem gw_4_216 : (Cond.code ⟨"WingDoorModel", "letsOn", "([II)V"⟩ prog_14_method_48_code 2 none) ∈ zG := zG_mk (zG_t4 (List.mem_of_getElem? (i := 216) rfl)) rfl
theorem gw_4_217 : (Cond.methodLink "WingDoorLaw" 63 ⟨"WingDoorModel", "undo", "()I"⟩) ∈ zG := zG_mk (zG_t4 (List.mem_of_getElem? (i := 217) rfl)) rfl
theorem gw_4_218 : (Cond.instanceMethod ⟨"WingDoorModel", "undo", "()I"⟩) ∈ zG := zG_mk (zG_t4 (List.mem_of_getElem? (i := 218) rfl)) rfl
theorem gw_4_219 : (Cond.selects "WingDoorModel" ⟨"WingDoorModel", "undo", "()I"⟩ ⟨"WingDoorModel", "undo", "()I"⟩) ∈ zG := zG_mk (zG_t4 (List.mem_of_getElem? (i := 219) rfl)) rfl
theorem gw_4_220 : (Cond.code ⟨"WingDoorModel", "undo", "()I"⟩ prog_14_method_50_code 1 (some .int)) ∈ zG := zG_mk (zG_t4 (List.mem_of_getElem? (i := 220) rfl)) rfl
theorem gw_4_221 : (Cond.methodLink "WingDoorLaw" 67 ⟨"WingDoorModel", "spare", "(I)I"⟩) ∈ zG := zG_mk (zG_t4 (List.mem_of_getElem? (i := 221) rfl)) rfl
theorem gw_4_222 : (Cond.instanceMethod ⟨"WingDoorModel", "spare", "(I)I"⟩) ∈ zG := zG_mk (zG_t4 (List.mem_of_getElem? (i := 222) rfl)) rfl
theorem gw_4_223 : (Cond.selects "WingDoorModel" ⟨"WingDoorModel", "spare", "(I)I"⟩ ⟨"WingDoorModel", "spare", "(I)I"⟩) ∈ zG := zG_mk (zG_t4 (List.mem_of_getElem? (i := 223) rfl)) rfl
theorem gw_4_224 : (Cond.code ⟨"WingDoorModel", "spare", "(I)I"⟩ prog_14_method_52_code 2 (some .int)) ∈ zG := zG_mk (zG_t4 (List.mem_of_getElem? (i := 224) rfl)) rfl
theorem gw_4_225 : (Cond.methodLink "WingDoorModel" 216 ⟨"WingDoorModel", "best", "(IZ)I"⟩) ∈ zG := zG_mk (zG_t4 (List.mem_of_getElem? (i := 225) rfl)) rfl
theorem gw_4_227 : (Cond.instanceMethod ⟨"WingDoorModel", "best", "(IZ)I"⟩) ∈ zG := zG_mk (zG_t4 (List.mem_of_getElem? (i := 227) rfl)) rfl
theorem gw_4_228 : (Cond.code ⟨"WingDoorModel", "best", "(IZ)I"⟩ prog_14_method_51_code 7 (some .int)) ∈ zG := zG_mk (zG_t4 (List.mem_of_getElem? (i := 228) rfl)) rfl
theorem gw_4_229 : (Cond.methodLink "WingDoorLaw" 71 ⟨"WingDoorModel", "ahead", "(I)I"⟩) ∈ zG := zG_mk (zG_t4 (List.mem_of_getElem? (i := 229) rfl)) rfl
theorem gw_4_230 : (Cond.instanceMethod ⟨"WingDoorModel", "ahead", "(I)I"⟩) ∈ zG := zG_mk (zG_t4 (List.mem_of_getElem? (i := 230) rfl)) rfl
theorem gw_4_231 : (Cond.selects "WingDoorModel" ⟨"WingDoorModel", "ahead", "(I)I"⟩ ⟨"WingDoorModel", "ahead", "(I)I"⟩) ∈ zG := zG_mk (zG_t4 (List.mem_of_getElem? (i := 231) rfl)) rfl
theorem gw_4_232 : (Cond.code ⟨"WingDoorModel", "ahead", "(I)I"⟩ prog_14_method_53_code 2 (some .int)) ∈ zG := zG_mk (zG_t4 (List.mem_of_getElem? (i := 232) rfl)) rfl
theorem gw_4_233 : (Cond.methodLink "WingDoorLaw" 75 ⟨"WingDoorModel", "odds", "(II)I"⟩) ∈ zG := zG_mk (zG_t4 (List.mem_of_getElem? (i := 233) rfl)) rfl
theorem gw_4_234 : (Cond.instanceMethod ⟨"WingDoorModel", "odds", "(II)I"⟩) ∈ zG := zG_mk (zG_t4 (List.mem_of_getElem? (i := 234) rfl)) rfl
theorem gw_4_235 : (Cond.selects "WingDoorModel" ⟨"WingDoorModel", "odds", "(II)I"⟩ ⟨"WingDoorModel", "odds", "(II)I"⟩) ∈ zG := zG_mk (zG_t4 (List.mem_of_getElem? (i := 235) rfl)) rfl
theorem gw_4_236 : (Cond.code ⟨"WingDoorModel", "odds", "(II)I"⟩ prog_14_method_55_code 16 (some .int)) ∈ zG := zG_mk (zG_t4 (List.mem_of_getElem? (i := 236) rfl)) rfl
theorem gw_4_237 : (Cond.constantLong "WingDoorModel" 220 10) ∈ zG := zG_mk (zG_t4 (List.mem_of_getElem? (i := 237) rfl)) rfl
theorem gw_4_238 : (Cond.methodLink "WingDoorModel" 222 ⟨"WingDoorModel", "power", "(JI)J"⟩) ∈ zG := zG_mk (zG_t4 (List.mem_of_getElem? (i := 238) rfl)) rfl
theorem gw_4_239 : (Cond.static ⟨"WingDoorModel", "power", "(JI)J"⟩) ∈ zG := zG_mk (zG_t4 (List.mem_of_getElem? (i := 239) rfl)) rfl
theorem gw_5_0 : (Cond.code ⟨"WingDoorModel", "power", "(JI)J"⟩ prog_14_method_54_code 6 (some .long)) ∈ zG := zG_mk (zG_t5 (List.mem_of_getElem? (i := 0) rfl)) rfl
theorem gw_5_1 : (Cond.methodLink "WingDoorLaw" 80 ⟨"WingDoorModel", "sees", "(III)I"⟩) ∈ zG := zG_mk (zG_t5 (List.mem_of_getElem? (i := 1) rfl)) rfl
theorem gw_5_2 : (Cond.instanceMethod ⟨"WingDoorModel", "sees", "(III)I"⟩) ∈ zG := zG_mk (zG_t5 (List.mem_of_getElem? (i := 2) rfl)) rfl
theorem gw_5_3 : (Cond.selects "WingDoorModel" ⟨"WingDoorModel", "sees", "(III)I"⟩ ⟨"WingDoorModel", "sees", "(III)I"⟩) ∈ zG := zG_mk (zG_t5 (List.mem_of_getElem? (i := 3) rfl)) rfl
theorem gw_5_4 : (Cond.code ⟨"WingDoorModel", "sees", "(III)I"⟩ prog_14_method_56_code 4 (some .int)) ∈ zG := zG_mk (zG_t5 (List.mem_of_getElem? (i := 4) rfl)) rfl
theorem gw_5_5 : (Cond.constantLong "WingDoorModel" 226 5) ∈ zG := zG_mk (zG_t5 (List.mem_of_getElem? (i := 5) rfl)) rfl
theorem gw_5_6 : (Cond.constantLong "WingDoorModel" 228 9) ∈ zG := zG_mk (zG_t5 (List.mem_of_getElem? (i := 6) rfl)) rfl
theorem gw_5_7 : (Cond.methodLink "WingDoorLaw" 84 ⟨"WingDoorModel", "forget", "()I"⟩) ∈ zG := zG_mk (zG_t5 (List.mem_of_getElem? (i := 7) rfl)) rfl
theorem gw_5_8 : (Cond.instanceMethod ⟨"WingDoorModel", "forget", "()I"⟩) ∈ zG := zG_mk (zG_t5 (List.mem_of_getElem? (i := 8) rfl)) rfl
theorem gw_5_9 : (Cond.selects "WingDoorModel" ⟨"WingDoorModel", "forget", "()I"⟩ ⟨"WingDoorModel", "forget", "()I"⟩) ∈ zG := zG_mk (zG_t5 (List.mem_of_getElem? (i := 9) rfl)) rfl
theorem gw_5_10 : (Cond.code ⟨"WingDoorModel", "forget", "()I"⟩ prog_14_method_57_code 2 (some .int)) ∈ zG := zG_mk (zG_t5 (List.mem_of_getElem? (i := 10) rfl)) rfl
theorem gw_5_11 : (Cond.methodLink "WingDoorLaw" 88 ⟨"WingDoorModel", "which", "()I"⟩) ∈ zG := zG_mk (zG_t5 (List.mem_of_getElem? (i := 11) rfl)) rfl
theorem gw_5_12 : (Cond.instanceMethod ⟨"WingDoorModel", "which", "()I"⟩) ∈ zG := zG_mk (zG_t5 (List.mem_of_getElem? (i := 12) rfl)) rfl
theorem gw_5_13 : (Cond.selects "WingDoorModel" ⟨"WingDoorModel", "which", "()I"⟩ ⟨"WingDoorModel", "which", "()I"⟩) ∈ zG := zG_mk (zG_t5 (List.mem_of_getElem? (i := 13) rfl)) rfl
theorem gw_5_14 : (Cond.code ⟨"WingDoorModel", "which", "()I"⟩ prog_14_method_59_code 5 (some .int)) ∈ zG := zG_mk (zG_t5 (List.mem_of_getElem? (i := 14) rfl)) rfl
theorem gw_5_15 : (Cond.methodLink "WingDoorModel" 230 ⟨"WingDoorModel", "of", "(II)I"⟩) ∈ zG := zG_mk (zG_t5 (List.mem_of_getElem? (i := 15) rfl)) rfl
theorem gw_5_17 : (Cond.instanceMethod ⟨"WingDoorModel", "of", "(II)I"⟩) ∈ zG := zG_mk (zG_t5 (List.mem_of_getElem? (i := 17) rfl)) rfl
theorem gw_5_18 : (Cond.code ⟨"WingDoorModel", "of", "(II)I"⟩ prog_14_method_58_code 3 (some .int)) ∈ zG := zG_mk (zG_t5 (List.mem_of_getElem? (i := 18) rfl)) rfl
theorem gw_5_19 : (Cond.methodLink "WingDoorLaw" 92 ⟨"WingDoorModel", "look", "(I)I"⟩) ∈ zG := zG_mk (zG_t5 (List.mem_of_getElem? (i := 19) rfl)) rfl
theorem gw_5_20 : (Cond.instanceMethod ⟨"WingDoorModel", "look", "(I)I"⟩) ∈ zG := zG_mk (zG_t5 (List.mem_of_getElem? (i := 20) rfl)) rfl
theorem gw_5_21 : (Cond.selects "WingDoorModel" ⟨"WingDoorModel", "look", "(I)I"⟩ ⟨"WingDoorModel", "look", "(I)I"⟩) ∈ zG := zG_mk (zG_t5 (List.mem_of_getElem? (i := 21) rfl)) rfl
theorem gw_5_22 : (Cond.code ⟨"WingDoorModel", "look", "(I)I"⟩ prog_14_method_60_code 9 (some .int)) ∈ zG := zG_mk (zG_t5 (List.mem_of_getElem? (i := 22) rfl)) rfl
theorem gw_5_23 : (Cond.methodLink "WingDoorModel" 234 ⟨"WingDoorModel", "which", "()I"⟩) ∈ zG := zG_mk (zG_t5 (List.mem_of_getElem? (i := 23) rfl)) rfl
theorem gw_5_24 : (Cond.methodLink "WingDoorLaw" 96 ⟨"WingDoorModel", "rate", "(II)I"⟩) ∈ zG := zG_mk (zG_t5 (List.mem_of_getElem? (i := 24) rfl)) rfl
theorem gw_5_25 : (Cond.instanceMethod ⟨"WingDoorModel", "rate", "(II)I"⟩) ∈ zG := zG_mk (zG_t5 (List.mem_of_getElem? (i := 25) rfl)) rfl
theorem gw_5_26 : (Cond.selects "WingDoorModel" ⟨"WingDoorModel", "rate", "(II)I"⟩ ⟨"WingDoorModel", "rate", "(II)I"⟩) ∈ zG := zG_mk (zG_t5 (List.mem_of_getElem? (i := 26) rfl)) rfl
theorem gw_5_27 : (Cond.code ⟨"WingDoorModel", "rate", "(II)I"⟩ prog_14_method_64_code 3 (some .int)) ∈ zG := zG_mk (zG_t5 (List.mem_of_getElem? (i := 27) rfl)) rfl
theorem gw_5_28 : (Cond.constant "WingDoorModel" 246 (-1000000)) ∈ zG := zG_mk (zG_t5 (List.mem_of_getElem? (i := 28) rfl)) rfl
theorem gw_5_29 : (Cond.methodLink "WingDoorModel" 241 ⟨"WingDoorModel", "asDoor", "(I)I"⟩) ∈ zG := zG_mk (zG_t5 (List.mem_of_getElem? (i := 29) rfl)) rfl
theorem gw_5_31 : (Cond.instanceMethod ⟨"WingDoorModel", "asDoor", "(I)I"⟩) ∈ zG := zG_mk (zG_t5 (List.mem_of_getElem? (i := 31) rfl)) rfl
theorem gw_5_32 : (Cond.code ⟨"WingDoorModel", "asDoor", "(I)I"⟩ prog_14_method_61_code 2 (some .int)) ∈ zG := zG_mk (zG_t5 (List.mem_of_getElem? (i := 32) rfl)) rfl
theorem gw_5_33 : (Cond.methodLink "WingDoorModel" 247 ⟨"WingDoorModel", "asBank", "(I)I"⟩) ∈ zG := zG_mk (zG_t5 (List.mem_of_getElem? (i := 33) rfl)) rfl
theorem gw_5_35 : (Cond.instanceMethod ⟨"WingDoorModel", "asBank", "(I)I"⟩) ∈ zG := zG_mk (zG_t5 (List.mem_of_getElem? (i := 35) rfl)) rfl
theorem gw_5_36 : (Cond.code ⟨"WingDoorModel", "asBank", "(I)I"⟩ prog_14_method_62_code 2 (some .int)) ∈ zG := zG_mk (zG_t5 (List.mem_of_getElem? (i := 36) rfl)) rfl
theorem gw_5_37 : (Cond.methodLink "WingDoorModel" 250 ⟨"WingDoorModel", "asHotel", "(I)I"⟩) ∈ zG := zG_mk (zG_t5 (List.mem_of_getElem? (i := 37) rfl)) rfl
theorem gw_5_39 : (Cond.instanceMethod ⟨"WingDoorModel", "asHotel", "(I)I"⟩) ∈ zG := zG_mk (zG_t5 (List.mem_of_getElem? (i := 39) rfl)) rfl
theorem gw_5_40 : (Cond.code ⟨"WingDoorModel", "asHotel", "(I)I"⟩ prog_14_method_63_code 2 (some .int)) ∈ zG := zG_mk (zG_t5 (List.mem_of_getElem? (i := 40) rfl)) rfl
theorem gw_5_41 : (Cond.constantLong "WingDoorModel" 244 100) ∈ zG := zG_mk (zG_t5 (List.mem_of_getElem? (i := 41) rfl)) rfl
theorem gw_5_42 : (Cond.constantLong "WingDoorModel" 253 1000) ∈ zG := zG_mk (zG_t5 (List.mem_of_getElem? (i := 42) rfl)) rfl
theorem gw_5_43 : (Cond.constantLong "WingDoorModel" 255 10000) ∈ zG := zG_mk (zG_t5 (List.mem_of_getElem? (i := 43) rfl)) rfl
theorem gw_5_44 : (Cond.constantLong "WingDoorModel" 257 100000) ∈ zG := zG_mk (zG_t5 (List.mem_of_getElem? (i := 44) rfl)) rfl
theorem gw_5_45 : (Cond.methodLink "WingDoorLaw" 100 ⟨"WingDoorModel", "keep", "(I)I"⟩) ∈ zG := zG_mk (zG_t5 (List.mem_of_getElem? (i := 45) rfl)) rfl
theorem gw_5_46 : (Cond.instanceMethod ⟨"WingDoorModel", "keep", "(I)I"⟩) ∈ zG := zG_mk (zG_t5 (List.mem_of_getElem? (i := 46) rfl)) rfl
theorem gw_5_47 : (Cond.selects "WingDoorModel" ⟨"WingDoorModel", "keep", "(I)I"⟩ ⟨"WingDoorModel", "keep", "(I)I"⟩) ∈ zG := zG_mk (zG_t5 (List.mem_of_getElem? (i := 47) rfl)) rfl
theorem gw_5_48 : (Cond.code ⟨"WingDoorModel", "keep", "(I)I"⟩ prog_14_method_65_code 2 (some .int)) ∈ zG := zG_mk (zG_t5 (List.mem_of_getElem? (i := 48) rfl)) rfl
theorem gw_5_49 : (Cond.methodLink "WingDoorLaw" 104 ⟨"WingDoorModel", "back", "(I)I"⟩) ∈ zG := zG_mk (zG_t5 (List.mem_of_getElem? (i := 49) rfl)) rfl
theorem gw_5_50 : (Cond.instanceMethod ⟨"WingDoorModel", "back", "(I)I"⟩) ∈ zG := zG_mk (zG_t5 (List.mem_of_getElem? (i := 50) rfl)) rfl
theorem gw_5_51 : (Cond.selects "WingDoorModel" ⟨"WingDoorModel", "back", "(I)I"⟩ ⟨"WingDoorModel", "back", "(I)I"⟩) ∈ zG := zG_mk (zG_t5 (List.mem_of_getElem? (i := 51) rfl)) rfl
theorem gw_5_52 : (Cond.code ⟨"WingDoorModel", "back", "(I)I"⟩ prog_14_method_66_code 2 (some .int)) ∈ zG := zG_mk (zG_t5 (List.mem_of_getElem? (i := 52) rfl)) rfl
theorem gw_5_53 : (Cond.methodLink "WingDoorLaw" 108 ⟨"WingDoorModel", "count", "(I)I"⟩) ∈ zG := zG_mk (zG_t5 (List.mem_of_getElem? (i := 53) rfl)) rfl
theorem gw_5_54 : (Cond.instanceMethod ⟨"WingDoorModel", "count", "(I)I"⟩) ∈ zG := zG_mk (zG_t5 (List.mem_of_getElem? (i := 54) rfl)) rfl
theorem gw_5_55 : (Cond.selects "WingDoorModel" ⟨"WingDoorModel", "count", "(I)I"⟩ ⟨"WingDoorModel", "count", "(I)I"⟩) ∈ zG := zG_mk (zG_t5 (List.mem_of_getElem? (i := 55) rfl)) rfl
theorem gw_5_56 : (Cond.code ⟨"WingDoorModel", "count", "(I)I"⟩ prog_14_method_67_code 2 (some .int)) ∈ zG := zG_mk (zG_t5 (List.mem_of_getElem? (i := 56) rfl)) rfl
theorem gw_5_57 : (Cond.methodLink "WingDoorLaw" 113 ⟨"WingDoorModel", "trace", "()J"⟩) ∈ zG := zG_mk (zG_t5 (List.mem_of_getElem? (i := 57) rfl)) rfl
theorem gw_5_58 : (Cond.instanceMethod ⟨"WingDoorModel", "trace", "()J"⟩) ∈ zG := zG_mk (zG_t5 (List.mem_of_getElem? (i := 58) rfl)) rfl
theorem gw_5_59 : (Cond.selects "WingDoorModel" ⟨"WingDoorModel", "trace", "()J"⟩ ⟨"WingDoorModel", "trace", "()J"⟩) ∈ zG := zG_mk (zG_t5 (List.mem_of_getElem? (i := 59) rfl)) rfl
theorem gw_5_60 : (Cond.code ⟨"WingDoorModel", "trace", "()J"⟩ prog_14_method_68_code 1 (some .long)) ∈ zG := zG_mk (zG_t5 (List.mem_of_getElem? (i := 60) rfl)) rfl
theorem gw_5_61 : (Cond.sameMethod "WingDoor$BankKind" "WingDoor$BankKind" "worth" "(LWingDoor$Moment;I)I") ∈ zG := zG_mk (zG_t5 (List.mem_of_getElem? (i := 61) rfl)) rfl
theorem gw_5_62 : (Cond.sameMethod "WingDoor$HotelKind" "WingDoor$HotelKind" "worth" "(LWingDoor$Moment;I)I") ∈ zG := zG_mk (zG_t5 (List.mem_of_getElem? (i := 62) rfl)) rfl
theorem gs_0 : (Cond.selects "WingDoor$Text" ⟨"WingDoor$Text", "readToken", "()V"⟩ ⟨"WingDoor$Text", "readToken", "()V"⟩) ∈ zG := zG_mk (List.mem_append_left _ (List.mem_of_getElem? (i := 0) rfl)) rfl
theorem gs_1 : (Cond.selects "WingDoor$Text" ⟨"WingDoor$Text", "readDigits", "()V"⟩ ⟨"WingDoor$Text", "readDigits", "()V"⟩) ∈ zG := zG_mk (List.mem_append_left _ (List.mem_of_getElem? (i := 1) rfl)) rfl
theorem gs_2 : (Cond.selects "WingDoor$Text" ⟨"WingDoor$Text", "readItem", "(LWingDoor$Plan;I)Z"⟩ ⟨"WingDoor$Text", "readItem", "(LWingDoor$Plan;I)Z"⟩) ∈ zG := zG_mk (List.mem_append_left _ (List.mem_of_getElem? (i := 2) rfl)) rfl
theorem gs_3 : (Cond.selects "WingDoor$Text" ⟨"WingDoor$Text", "readRooms", "(LWingDoor$Plan;)Z"⟩ ⟨"WingDoor$Text", "readRooms", "(LWingDoor$Plan;)Z"⟩) ∈ zG := zG_mk (List.mem_append_left _ (List.mem_of_getElem? (i := 3) rfl)) rfl
theorem gs_4 : (Cond.selects "WingDoor$Text" ⟨"WingDoor$Text", "readNumber", "(II)Z"⟩ ⟨"WingDoor$Text", "readNumber", "(II)Z"⟩) ∈ zG := zG_mk (List.mem_append_left _ (List.mem_of_getElem? (i := 4) rfl)) rfl
theorem gs_5 : (Cond.selects "WingDoor$Text" ⟨"WingDoor$Text", "readSemicolon", "()Z"⟩ ⟨"WingDoor$Text", "readSemicolon", "()Z"⟩) ∈ zG := zG_mk (List.mem_append_left _ (List.mem_of_getElem? (i := 5) rfl)) rfl
theorem gs_6 : (Cond.selects "WingDoor$Text" ⟨"WingDoor$Text", "readHard", "(LWingDoor$Plan;)Z"⟩ ⟨"WingDoor$Text", "readHard", "(LWingDoor$Plan;)Z"⟩) ∈ zG := zG_mk (List.mem_append_left _ (List.mem_of_getElem? (i := 6) rfl)) rfl
theorem gs_7 : (Cond.selects "WingDoor$Text" ⟨"WingDoor$Text", "readSort", "(LWingDoor$Plan;)Z"⟩ ⟨"WingDoor$Text", "readSort", "(LWingDoor$Plan;)Z"⟩) ∈ zG := zG_mk (List.mem_append_left _ (List.mem_of_getElem? (i := 7) rfl)) rfl
theorem gs_8 : (Cond.selects "WingDoor" ⟨"WingDoor", "whenNow", "(I)I"⟩ ⟨"WingDoor", "whenNow", "(I)I"⟩) ∈ zG := zG_mk (List.mem_append_left _ (List.mem_of_getElem? (i := 8) rfl)) rfl
theorem gs_9 : (Cond.selects "WingDoor$Moment" ⟨"WingDoor$Moment", "carry", "(I)Z"⟩ ⟨"WingDoor$Moment", "carry", "(I)Z"⟩) ∈ zG := zG_mk (List.mem_append_left _ (List.mem_of_getElem? (i := 9) rfl)) rfl
theorem gs_10 : (Cond.selects "WingDoor$Moment" ⟨"WingDoor$Moment", "fill", "()V"⟩ ⟨"WingDoor$Moment", "fill", "()V"⟩) ∈ zG := zG_mk (List.mem_append_left _ (List.mem_of_getElem? (i := 10) rfl)) rfl
theorem gs_11 : (Cond.selects "WingDoor" ⟨"WingDoor", "sticksNow", "()I"⟩ ⟨"WingDoor", "sticksNow", "()I"⟩) ∈ zG := zG_mk (List.mem_append_left _ (List.mem_of_getElem? (i := 11) rfl)) rfl
theorem gs_12 : (Cond.selects "WingDoor" ⟨"WingDoor", "allNow", "()I"⟩ ⟨"WingDoor", "allNow", "()I"⟩) ∈ zG := zG_mk (List.mem_append_left _ (List.mem_of_getElem? (i := 12) rfl)) rfl
theorem gs_13 : (Cond.selects "WingDoor" ⟨"WingDoor", "bestHelper", "(IZ)I"⟩ ⟨"WingDoor", "bestHelper", "(IZ)I"⟩) ∈ zG := zG_mk (List.mem_append_left _ (List.mem_of_getElem? (i := 13) rfl)) rfl
theorem gs_14 : (Cond.selects "WingDoor" ⟨"WingDoor", "waysToGo", "(I)J"⟩ ⟨"WingDoor", "waysToGo", "(I)J"⟩) ∈ zG := zG_mk (List.mem_append_left _ (List.mem_of_getElem? (i := 14) rfl)) rfl
theorem gs_15 : (Cond.selects "WingDoor" ⟨"WingDoor", "addPusher", "(III)I"⟩ ⟨"WingDoor", "addPusher", "(III)I"⟩) ∈ zG := zG_mk (List.mem_append_left _ (List.mem_of_getElem? (i := 15) rfl)) rfl
theorem gs_16 : (Cond.selects "WingDoor$Sightings" ⟨"WingDoor$Sightings", "allIsSoOf", "(I)Z"⟩ ⟨"WingDoor$Sightings", "allIsSoOf", "(I)Z"⟩) ∈ zG := zG_mk (List.mem_append_left _ (List.mem_of_getElem? (i := 16) rfl)) rfl
theorem gs_17 : (Cond.selects "WingDoorModel" ⟨"WingDoorModel", "reads", "()I"⟩ ⟨"WingDoorModel", "reads", "()I"⟩) ∈ zG := zG_mk (List.mem_append_left _ (List.mem_of_getElem? (i := 17) rfl)) rfl
theorem gs_18 : (Cond.selects "WingDoorModel" ⟨"WingDoorModel", "nextToken", "()V"⟩ ⟨"WingDoorModel", "nextToken", "()V"⟩) ∈ zG := zG_mk (List.mem_append_left _ (List.mem_of_getElem? (i := 18) rfl)) rfl
theorem gs_19 : (Cond.selects "WingDoorModel" ⟨"WingDoorModel", "here", "()I"⟩ ⟨"WingDoorModel", "here", "()I"⟩) ∈ zG := zG_mk (List.mem_append_left _ (List.mem_of_getElem? (i := 19) rfl)) rfl
theorem gs_20 : (Cond.selects "WingDoorModel" ⟨"WingDoorModel", "isFigure", "()Z"⟩ ⟨"WingDoorModel", "isFigure", "()Z"⟩) ∈ zG := zG_mk (List.mem_append_left _ (List.mem_of_getElem? (i := 20) rfl)) rfl
theorem gs_21 : (Cond.selects "WingDoorModel" ⟨"WingDoorModel", "readsFigures", "()V"⟩ ⟨"WingDoorModel", "readsFigures", "()V"⟩) ∈ zG := zG_mk (List.mem_append_left _ (List.mem_of_getElem? (i := 21) rfl)) rfl
theorem gs_22 : (Cond.selects "WingDoorModel" ⟨"WingDoorModel", "isItem", "(I)Z"⟩ ⟨"WingDoorModel", "isItem", "(I)Z"⟩) ∈ zG := zG_mk (List.mem_append_left _ (List.mem_of_getElem? (i := 22) rfl)) rfl
theorem gs_23 : (Cond.selects "WingDoorModel" ⟨"WingDoorModel", "isRooms", "()Z"⟩ ⟨"WingDoorModel", "isRooms", "()Z"⟩) ∈ zG := zG_mk (List.mem_append_left _ (List.mem_of_getElem? (i := 23) rfl)) rfl
theorem gs_24 : (Cond.selects "WingDoorModel" ⟨"WingDoorModel", "number", "(II)Z"⟩ ⟨"WingDoorModel", "number", "(II)Z"⟩) ∈ zG := zG_mk (List.mem_append_left _ (List.mem_of_getElem? (i := 24) rfl)) rfl
theorem gs_25 : (Cond.selects "WingDoorModel" ⟨"WingDoorModel", "isHard", "()Z"⟩ ⟨"WingDoorModel", "isHard", "()Z"⟩) ∈ zG := zG_mk (List.mem_append_left _ (List.mem_of_getElem? (i := 25) rfl)) rfl
theorem gs_26 : (Cond.selects "WingDoorModel" ⟨"WingDoorModel", "isSort", "()Z"⟩ ⟨"WingDoorModel", "isSort", "()Z"⟩) ∈ zG := zG_mk (List.mem_append_left _ (List.mem_of_getElem? (i := 26) rfl)) rfl
theorem gs_27 : (Cond.selects "WingDoorModel" ⟨"WingDoorModel", "isGoer", "(I)Z"⟩ ⟨"WingDoorModel", "isGoer", "(I)Z"⟩) ∈ zG := zG_mk (List.mem_append_left _ (List.mem_of_getElem? (i := 27) rfl)) rfl
theorem gs_28 : (Cond.selects "WingDoorModel" ⟨"WingDoorModel", "when", "(I)I"⟩ ⟨"WingDoorModel", "when", "(I)I"⟩) ∈ zG := zG_mk (List.mem_append_left _ (List.mem_of_getElem? (i := 28) rfl)) rfl
theorem gs_29 : (Cond.selects "WingDoorModel" ⟨"WingDoorModel", "layAside", "()V"⟩ ⟨"WingDoorModel", "layAside", "()V"⟩) ∈ zG := zG_mk (List.mem_append_left _ (List.mem_of_getElem? (i := 29) rfl)) rfl
theorem gs_30 : (Cond.selects "WingDoorModel" ⟨"WingDoorModel", "whenAside", "(I)I"⟩ ⟨"WingDoorModel", "whenAside", "(I)I"⟩) ∈ zG := zG_mk (List.mem_append_left _ (List.mem_of_getElem? (i := 30) rfl)) rfl
theorem gs_31 : (Cond.selects "WingDoorModel" ⟨"WingDoorModel", "goes", "([I)I"⟩ ⟨"WingDoorModel", "goes", "([I)I"⟩) ∈ zG := zG_mk (List.mem_append_left _ (List.mem_of_getElem? (i := 31) rfl)) rfl
theorem gs_32 : (Cond.selects "WingDoorModel" ⟨"WingDoorModel", "sticksOn", "([I)Z"⟩ ⟨"WingDoorModel", "sticksOn", "([I)Z"⟩) ∈ zG := zG_mk (List.mem_append_left _ (List.mem_of_getElem? (i := 32) rfl)) rfl
theorem gs_33 : (Cond.selects "WingDoorModel" ⟨"WingDoorModel", "loadOn", "([I)I"⟩ ⟨"WingDoorModel", "loadOn", "([I)I"⟩) ∈ zG := zG_mk (List.mem_append_left _ (List.mem_of_getElem? (i := 33) rfl)) rfl
theorem gs_34 : (Cond.selects "WingDoorModel" ⟨"WingDoorModel", "dragOn", "([I)I"⟩ ⟨"WingDoorModel", "dragOn", "([I)I"⟩) ∈ zG := zG_mk (List.mem_append_left _ (List.mem_of_getElem? (i := 34) rfl)) rfl
theorem gs_35 : (Cond.selects "WingDoorModel" ⟨"WingDoorModel", "placeOf", "(I)I"⟩ ⟨"WingDoorModel", "placeOf", "(I)I"⟩) ∈ zG := zG_mk (List.mem_append_left _ (List.mem_of_getElem? (i := 35) rfl)) rfl
theorem gs_36 : (Cond.selects "WingDoorModel" ⟨"WingDoorModel", "fills", "([I)V"⟩ ⟨"WingDoorModel", "fills", "([I)V"⟩) ∈ zG := zG_mk (List.mem_append_left _ (List.mem_of_getElem? (i := 36) rfl)) rfl
theorem gs_37 : (Cond.selects "WingDoorModel" ⟨"WingDoorModel", "bulkIn", "([II)I"⟩ ⟨"WingDoorModel", "bulkIn", "([II)I"⟩) ∈ zG := zG_mk (List.mem_append_left _ (List.mem_of_getElem? (i := 37) rfl)) rfl
theorem gs_38 : (Cond.selects "WingDoorModel" ⟨"WingDoorModel", "bulkOf", "([II)I"⟩ ⟨"WingDoorModel", "bulkOf", "([II)I"⟩) ∈ zG := zG_mk (List.mem_append_left _ (List.mem_of_getElem? (i := 38) rfl)) rfl
theorem gs_39 : (Cond.selects "WingDoorModel" ⟨"WingDoorModel", "sticksFirst", "()I"⟩ ⟨"WingDoorModel", "sticksFirst", "()I"⟩) ∈ zG := zG_mk (List.mem_append_left _ (List.mem_of_getElem? (i := 39) rfl)) rfl
theorem gs_40 : (Cond.selects "WingDoorModel" ⟨"WingDoorModel", "allOut", "()I"⟩ ⟨"WingDoorModel", "allOut", "()I"⟩) ∈ zG := zG_mk (List.mem_append_left _ (List.mem_of_getElem? (i := 40) rfl)) rfl
theorem gs_41 : (Cond.selects "WingDoorModel" ⟨"WingDoorModel", "notes", "()V"⟩ ⟨"WingDoorModel", "notes", "()V"⟩) ∈ zG := zG_mk (List.mem_append_left _ (List.mem_of_getElem? (i := 41) rfl)) rfl
theorem gs_42 : (Cond.selects "WingDoorModel" ⟨"WingDoorModel", "best", "(IZ)I"⟩ ⟨"WingDoorModel", "best", "(IZ)I"⟩) ∈ zG := zG_mk (List.mem_append_left _ (List.mem_of_getElem? (i := 42) rfl)) rfl
theorem gs_43 : (Cond.selects "WingDoorModel" ⟨"WingDoorModel", "of", "(II)I"⟩ ⟨"WingDoorModel", "of", "(II)I"⟩) ∈ zG := zG_mk (List.mem_append_left _ (List.mem_of_getElem? (i := 43) rfl)) rfl
theorem gs_44 : (Cond.selects "WingDoorModel" ⟨"WingDoorModel", "asDoor", "(I)I"⟩ ⟨"WingDoorModel", "asDoor", "(I)I"⟩) ∈ zG := zG_mk (List.mem_append_left _ (List.mem_of_getElem? (i := 44) rfl)) rfl
theorem gs_45 : (Cond.selects "WingDoorModel" ⟨"WingDoorModel", "asBank", "(I)I"⟩ ⟨"WingDoorModel", "asBank", "(I)I"⟩) ∈ zG := zG_mk (List.mem_append_left _ (List.mem_of_getElem? (i := 45) rfl)) rfl
theorem gs_46 : (Cond.selects "WingDoorModel" ⟨"WingDoorModel", "asHotel", "(I)I"⟩ ⟨"WingDoorModel", "asHotel", "(I)I"⟩) ∈ zG := zG_mk (List.mem_append_left _ (List.mem_of_getElem? (i := 46) rfl)) rfl
theorem zin_X0 : ∀ w ∈ u_ws RX0 TX0 1, w ∈ zG := by
  intro w hw
  obtain ⟨k, hk, rfl⟩ := List.mem_map.mp hw
  have hk := List.mem_range.mp hk
  obtain rfl : k = 0 := by omega
  exact gw_1_207
theorem zin_X1 : ∀ w ∈ u_ws RX1 TX1 1, w ∈ zG := by
  intro w hw
  obtain ⟨k, hk, rfl⟩ := List.mem_map.mp hw
  have hk := List.mem_range.mp hk
  obtain rfl : k = 0 := by omega
  exact gw_1_223
theorem zin_X2 : ∀ w ∈ u_ws RX2 TX2 1, w ∈ zG := by
  intro w hw
  obtain ⟨k, hk, rfl⟩ := List.mem_map.mp hw
  have hk := List.mem_range.mp hk
  obtain rfl : k = 0 := by omega
  exact gw_1_197
theorem zin_X3 : ∀ w ∈ u_ws RX3 TX3 1, w ∈ zG := by
  intro w hw
  obtain ⟨k, hk, rfl⟩ := List.mem_map.mp hw
  have hk := List.mem_range.mp hk
  obtain rfl : k = 0 := by omega
  exact gw_1_231
theorem zin_X4 : ∀ w ∈ u_ws RX4 TX4 1, w ∈ zG := by
  intro w hw
  obtain ⟨k, hk, rfl⟩ := List.mem_map.mp hw
  have hk := List.mem_range.mp hk
  obtain rfl : k = 0 := by omega
  exact gw_1_215
theorem zin_X5 : ∀ w ∈ u_ws RX5 TX5 8, w ∈ zG := by
  intro w hw
  obtain ⟨k, hk, rfl⟩ := List.mem_map.mp hw
  have hk := List.mem_range.mp hk
  rcases (show k = 0 ∨ k = 1 ∨ k = 2 ∨ k = 3 ∨ k = 4 ∨ k = 5 ∨ k = 6 ∨ k = 7 by omega) with rfl | rfl | rfl | rfl | rfl | rfl | rfl | rfl
  · exact gw_1_117
  · exact gw_1_119
  · exact gw_1_121
  · exact gw_1_123
  · exact gw_1_125
  · exact gw_1_127
  · exact gw_1_129
  · exact gw_1_131
theorem zin_X6 : ∀ w ∈ u_ws RX6 TX6 3, w ∈ zG := by
  intro w hw
  obtain ⟨k, hk, rfl⟩ := List.mem_map.mp hw
  have hk := List.mem_range.mp hk
  rcases (show k = 0 ∨ k = 1 ∨ k = 2 by omega) with rfl | rfl | rfl
  · exact gw_1_147
  · exact gw_1_149
  · exact gw_1_151
theorem zin_X7 : ∀ w ∈ u_ws RX7 TX7 6, w ∈ zG := by
  intro w hw
  obtain ⟨k, hk, rfl⟩ := List.mem_map.mp hw
  have hk := List.mem_range.mp hk
  rcases (show k = 0 ∨ k = 1 ∨ k = 2 ∨ k = 3 ∨ k = 4 ∨ k = 5 by omega) with rfl | rfl | rfl | rfl | rfl | rfl
  · exact gw_1_83
  · exact gw_1_85
  · exact gw_1_87
  · exact gw_1_89
  · exact gw_1_91
  · exact gw_1_93
theorem zin_X8 : ∀ w ∈ u_ws RX8 TX8 5, w ∈ zG := by
  intro w hw
  obtain ⟨k, hk, rfl⟩ := List.mem_map.mp hw
  have hk := List.mem_range.mp hk
  rcases (show k = 0 ∨ k = 1 ∨ k = 2 ∨ k = 3 ∨ k = 4 by omega) with rfl | rfl | rfl | rfl | rfl
  · exact gw_1_166
  · exact gw_1_168
  · exact gw_1_170
  · exact gw_1_172
  · exact gw_1_174
theorem zin_X9 : ∀ w ∈ u_ws RX9 TX9 1, w ∈ zG := by
  intro w hw
  obtain ⟨k, hk, rfl⟩ := List.mem_map.mp hw
  have hk := List.mem_range.mp hk
  obtain rfl : k = 0 := by omega
  exact gw_1_239
theorem zin_X10 : ∀ w ∈ u_ws RX10 TX10 7, w ∈ zG := by
  intro w hw
  obtain ⟨k, hk, rfl⟩ := List.mem_map.mp hw
  have hk := List.mem_range.mp hk
  rcases (show k = 0 ∨ k = 1 ∨ k = 2 ∨ k = 3 ∨ k = 4 ∨ k = 5 ∨ k = 6 by omega) with rfl | rfl | rfl | rfl | rfl | rfl | rfl
  · exact gw_1_40
  · exact gw_1_42
  · exact gw_1_44
  · exact gw_1_46
  · exact gw_1_48
  · exact gw_1_50
  · exact gw_1_52
theorem zin_X11 : ∀ w ∈ u_ws RX11 TX11 11, w ∈ zG := by
  intro w hw
  obtain ⟨k, hk, rfl⟩ := List.mem_map.mp hw
  have hk := List.mem_range.mp hk
  rcases (show k = 0 ∨ k = 1 ∨ k = 2 ∨ k = 3 ∨ k = 4 ∨ k = 5 ∨ k = 6 ∨ k = 7 ∨ k = 8 ∨ k = 9 ∨ k = 10 by omega) with rfl | rfl | rfl | rfl | rfl | rfl | rfl | rfl | rfl | rfl | rfl
  · exact gw_2_12
  · exact gw_2_14
  · exact gw_2_16
  · exact gw_2_18
  · exact gw_2_20
  · exact gw_2_22
  · exact gw_2_24
  · exact gw_2_26
  · exact gw_2_28
  · exact gw_2_30
  · exact gw_2_32
theorem zin_X12 : ∀ w ∈ u_ws RX12 TX12 27, w ∈ zG := by
  intro w hw
  obtain ⟨k, hk, rfl⟩ := List.mem_map.mp hw
  have hk := List.mem_range.mp hk
  rcases (show k = 0 ∨ k = 1 ∨ k = 2 ∨ k = 3 ∨ k = 4 ∨ k = 5 ∨ k = 6 ∨ k = 7 ∨ k = 8 ∨ k = 9 ∨ k = 10 ∨ k = 11 ∨ k = 12 ∨ k = 13 ∨ k = 14 ∨ k = 15 ∨ k = 16 ∨ k = 17 ∨ k = 18 ∨ k = 19 ∨ k = 20 ∨ k = 21 ∨ k = 22 ∨ k = 23 ∨ k = 24 ∨ k = 25 ∨ k = 26 by omega) with rfl | rfl | rfl | rfl | rfl | rfl | rfl | rfl | rfl | rfl | rfl | rfl | rfl | rfl | rfl | rfl | rfl | rfl | rfl | rfl | rfl | rfl | rfl | rfl | rfl | rfl | rfl
  · exact gw_3_222
  · exact gw_3_224
  · exact gw_3_226
  · exact gw_3_228
  · exact gw_3_230
  · exact gw_3_232
  · exact gw_3_234
  · exact gw_3_236
  · exact gw_3_238
  · exact gw_4_0
  · exact gw_4_2
  · exact gw_4_4
  · exact gw_4_6
  · exact gw_4_8
  · exact gw_4_10
  · exact gw_4_12
  · exact gw_4_14
  · exact gw_4_16
  · exact gw_4_18
  · exact gw_4_20
  · exact gw_4_22
  · exact gw_4_24
  · exact gw_4_26
  · exact gw_4_28
  · exact gw_4_30
  · exact gw_4_32
  · exact gw_4_34
end
section
/-! the memory of the whole system: rows of ints and of longs, by place; the references never change once the two objects are made.
places: 0 the class's object, 1 its text, 2 letters, 3 plan 4 5, 6 draft 7 8, 9 past, 10 moments, 11 images, 12 imageKept, 13 sightings 14 15 16, 17 ways, 18 kinds, 19 .. 24 the six kinds, 25 the reference's object, 26 bulk, 27 push, 28 now, 29 aside, 30 past, 31 images, 32 isKept, 33 seen, 34 text, 35 readBulk, 36 readPush, 37 + 6 i the moments (0 state, 1 trial, 2 .. 11 past, 12 13 images), each with its five rows behind it -/
abbrev zM : Type := (Nat → Nat → Int32) × (Nat → Nat → Int64)
abbrev zE : Type := va_G × (Nat → Nat) × (Nat → ClassId)
abbrev zX : Type := Program × Launch × Env × Room × State × MethodId × Array Value × List Frame × Method × Code × Nat × Nat
def zmo (r : Nat → Nat) (c : Nat) (f : Nat → Int32) : List Value := [.ref (r 3), .int (f 1), .int (f 2), .ref (r (c + 1)), .ref (r (c + 2)), .ref (r (c + 3)), .ref (r (c + 4)), .ref (r (c + 5))]
def zpl (r : Nat → Nat) (c : Nat) (f : Nat → Int32) : List Value := [.int (f 0), .int (f 1), .int (f 2), .int (f 3), .ref (r (c + 1)), .ref (r (c + 2))]
def zdo (r : Nat → Nat) : List Value := [.ref (r 1), .ref (r 3), .ref (r 6), .ref (r 37), .ref (r 43), .ref (r 9), .ref (r 11), .ref (r 12), .ref (r 13), .ref (r 17), .ref (r 18)]
def ztx (r : Nat → Nat) (f : Nat → Int32) : List Value := [.ref (r 2), .int (f 1), .int (f 2), .int (f 3), .int (f 4), .int (f 5), .int (f 6)]
def zpa (r : Nat → Nat) (f : Nat → Int32) : List Value := [.ref (r 10), .int (f 1), .int (f 2)]
def zsi (r : Nat → Nat) (f : Nat → Int32) : List Value := [.ref (r 3), .ref (r 14), .ref (r 15), .ref (r 16), .int (f 4)]
def zmd (r : Nat → Nat) (f : Nat → Int32) (g : Nat → Int64) : List Value := [.int (f 0), .int (f 1), .int (f 2), .int (f 3), .ref (r 26), .ref (r 27), .ref (r 28), .ref (r 29), .ref (r 30), .int (f 9), .ref (r 31), .ref (r 32), .ref (r 33), .int (f 13), .long (g 14), .ref (r 34), .int (f 16), .int (f 17), .int (f 18), .int (f 19), .int (f 20), .int (f 21), .int (f 22), .int (f 23), .int (f 24), .ref (r 35), .ref (r 36)]
def zfix (E : zE) (f : Nat → Int32) (g : Nat → Int64) : Nat → va_E
  | 0 => .inr (11, zdo E.2.1)
  | 1 => .inr (10, ztx E.2.1 f)
  | 2 => .inl (E.2.2 0, 100, .inl f)
  | 3 => .inr (7, zpl E.2.1 3 f)
  | 4 => .inl (E.2.2 0, 6, .inl f)
  | 5 => .inl (E.2.2 0, 6, .inl f)
  | 6 => .inr (7, zpl E.2.1 6 f)
  | 7 => .inl (E.2.2 0, 6, .inl f)
  | 8 => .inl (E.2.2 0, 6, .inl f)
  | 9 => .inr (6, zpa E.2.1 f)
  | 10 => .inl (E.2.2 3, 10, .inr (.inr (.inr (.inr (fun j => some (E.2.1 (49 + 6 * j)))))))
  | 11 => .inl (E.2.2 3, 2, .inr (.inr (.inr (.inr (fun j => some (E.2.1 (109 + 6 * j)))))))
  | 12 => .inl (E.2.2 2, 2, .inl f)
  | 13 => .inr (8, zsi E.2.1 f)
  | 14 => .inl (E.2.2 0, 6, .inl f)
  | 15 => .inl (E.2.2 0, 6, .inl f)
  | 16 => .inl (E.2.2 0, 6, .inl f)
  | 17 => .inl (E.2.2 1, 82, .inr (.inl g))
  | 18 => .inl (E.2.2 4, 6, .inr (.inr (.inr (.inr (fun j => some (E.2.1 (19 + j)))))))
  | 19 => .inr (2, [.long (g 0)])
  | 20 => .inr (0, [.long (g 0)])
  | 21 => .inr (4, [.long (g 0)])
  | 22 => .inr (1, [.long (g 0)])
  | 23 => .inr (3, [.long (g 0)])
  | 24 => .inr (9, [.long (g 0)])
  | 25 => .inr (12, zmd E.2.1 f g)
  | 26 => .inl (E.2.2 0, 6, .inl f)
  | 27 => .inl (E.2.2 0, 6, .inl f)
  | 28 => .inl (E.2.2 0, 47, .inl f)
  | 29 => .inl (E.2.2 0, 47, .inl f)
  | 30 => .inl (E.2.2 0, 470, .inl f)
  | 31 => .inl (E.2.2 0, 94, .inl f)
  | 32 => .inl (E.2.2 2, 2, .inl f)
  | 33 => .inl (E.2.2 0, 18, .inl f)
  | 34 => .inl (E.2.2 0, 100, .inl f)
  | 35 => .inl (E.2.2 0, 6, .inl f)
  | _ => .inl (E.2.2 0, 6, .inl f)
def zc (E : zE) (k : Nat) (f : Nat → Int32) (g : Nat → Int64) : va_E := if k < 37 then zfix E f g k else if (k - 37) % 6 = 0 then .inr (5, zmo E.2.1 k f) else .inl (E.2.2 0, 9, .inl f)
/-- a place of a moment, of a plan -/
def zmp (c : Nat) : Prop := 37 ≤ c ∧ c < 121 ∧ (c - 37) % 6 = 0
def zpp (c : Nat) : Prop := c = 3 ∨ c = 6
theorem zmp.lt {c : Nat} (h : zmp c) : c < 121 := h.2.1
theorem zmp.lt' {c : Nat} (h : zmp c) (j : Nat) (hj : j < 6) : c + j < 121 := by
  obtain ⟨h1, h2, h3⟩ := h
  omega
theorem zpp.lt {c : Nat} (h : zpp c) : c < 121 := by
  rcases h with h | h <;> omega
theorem zpp.lt' {c : Nat} (h : zpp c) (j : Nat) (hj : j < 3) : c + j < 121 := by
  rcases h with h | h <;> omega
theorem zmp.c {c : Nat} (h : zmp c) (E : zE) (f : Nat → Int32) (g : Nat → Int64) : zc E c f g = .inr (5, zmo E.2.1 c f) := by
  obtain ⟨h1, h2, h3⟩ := h
  rw [zc, if_neg (by omega), if_pos h3]
theorem zmp.a {c : Nat} (h : zmp c) {j : Nat} (h0 : 0 < j) (hj : j < 6) (E : zE) (f : Nat → Int32) (g : Nat → Int64) : zc E (c + j) f g = .inl (E.2.2 0, 9, .inl f) := by
  obtain ⟨h1, h2, h3⟩ := h
  rw [zc, if_neg (by omega), if_neg (by omega)]
theorem zpp.c {c : Nat} (h : zpp c) (E : zE) (f : Nat → Int32) (g : Nat → Int64) : zc E c f g = .inr (7, zpl E.2.1 c f) := by
  rcases h with rfl | rfl <;> rfl
theorem zpp.a {c : Nat} (h : zpp c) {j : Nat} (h0 : 0 < j) (hj : j < 3) (E : zE) (f : Nat → Int32) (g : Nat → Int64) : zc E (c + j) f g = .inl (E.2.2 0, 6, .inl f) := by
  rcases h with rfl | rfl <;> rcases (show j = 1 ∨ j = 2 by omega) with rfl | rfl <;> rfl
/-- a place of a row of ints, of length n -/
def zia (a n : Nat) : Prop := a < 121 ∧ ∀ (E : zE) (f : Nat → Int32) (g : Nat → Int64), zc E a f g = .inl (E.2.2 0, n, .inl f)
theorem zmp.ia {c : Nat} (h : zmp c) {j : Nat} (h0 : 0 < j) (hj : j < 6) : zia (c + j) 9 := ⟨h.lt' j hj, fun E f g => h.a h0 hj E f g⟩
theorem zpp.ia {c : Nat} (h : zpp c) {j : Nat} (h0 : 0 < j) (hj : j < 3) : zia (c + j) 6 := ⟨h.lt' j hj, fun E f g => h.a h0 hj E f g⟩
/-- the world -/
def zl (E : zE) (M : zM) : va_W := (List.range 121).map (fun k => (E.2.1 k, zc E k (M.1 k) (M.2 k)))
def zA (E : zE) : Nat → Prop := fun q => ∃ k, k < 121 ∧ q = E.2.1 k
def zI (E : zE) : Prop := ∀ i j, i < 121 → j < 121 → E.2.1 i = E.2.1 j → i = j
def zt (E : zE) : List (ClassId × FieldType) := [(E.2.2 0, .int), (E.2.2 1, .long), (E.2.2 2, .boolean), (E.2.2 3, .object "WingDoor$Moment"), (E.2.2 4, .object "WingDoor$DoorKind")]
def zr (M : zM) (k : Nat) (f : Nat → Int32) : zM := (fun q => if q = k then f else M.1 q, M.2)
def zrL (M : zM) (k : Nat) (g : Nat → Int64) : zM := (M.1, fun q => if q = k then g else M.2 q)
def zs (M : zM) (k j : Nat) (v : Int32) : zM := zr M k (upd (M.1 k) j v)
def zsL (M : zM) (k j : Nat) (v : Int64) : zM := zrL M k (vp_updL (M.2 k) j v)
theorem zl_at {E : zE} {M : zM} {k : Nat} (hk : k < 121) : (zl E M)[k]? = some (E.2.1 k, zc E k (M.1 k) (M.2 k)) := by
  rw [zl, List.getElem?_map, List.getElem?_range hk]
  rfl
theorem zl_len {E : zE} {M : zM} : (zl E M).length = 121 := by rw [zl, List.length_map, List.length_range]
theorem zl_of {E : zE} {M : zM} {k : Nat} {q : Nat × va_E} (h : (zl E M)[k]? = some q) : k < 121 ∧ q = (E.2.1 k, zc E k (M.1 k) (M.2 k)) := by
  have hk : k < 121 := by
    have := (List.getElem?_eq_some_iff.mp h).1
    rwa [zl_len] at this
  rw [zl_at hk] at h
  exact ⟨hk, (Option.some.inj h).symm⟩
theorem zl_setG {E : zE} {M M' : zM} {k : Nat} {e : va_E} (hk : k < 121) (he : e = zc E k (M'.1 k) (M'.2 k)) (h1 : ∀ q, q ≠ k → M'.1 q = M.1 q) (h2 : ∀ q, q ≠ k → M'.2 q = M.2 q) : (zl E M).set k (E.2.1 k, e) = zl E M' := by
  apply List.ext_getElem?
  intro i
  by_cases hi : i < 121
  · rw [zl_at hi]
    by_cases hik : k = i
    · subst hik
      rw [List.getElem?_set_self (by rw [zl_len]; exact hk), he]
    · rw [List.getElem?_set_ne hik, zl_at hi, h1 i (fun h => hik h.symm), h2 i (fun h => hik h.symm)]
  · rw [List.getElem?_eq_none (by rw [List.length_set, zl_len]; omega), List.getElem?_eq_none (by rw [zl_len]; omega)]
theorem zl_set {E : zE} {M : zM} {k : Nat} {f : Nat → Int32} {e : va_E} (hk : k < 121) (he : e = zc E k f (M.2 k)) : (zl E M).set k (E.2.1 k, e) = zl E (zr M k f) := by
  refine zl_setG hk ?_ (fun q hq => ?_) (fun q _ => rfl)
  · rw [he]; simp [zr]
  · simp [zr, hq]
theorem zl_setL {E : zE} {M : zM} {k : Nat} {g : Nat → Int64} {e : va_E} (hk : k < 121) (he : e = zc E k (M.1 k) g) : (zl E M).set k (E.2.1 k, e) = zl E (zrL M k g) := by
  refine zl_setG hk ?_ (fun q _ => rfl) (fun q hq => ?_)
  · rw [he]; simp [zrL]
  · simp [zrL, hq]
theorem zl_D {E : zE} (hI : zI E) (M : zM) : va_D (zA E) (zl E M) := by
  refine ⟨fun i j p q hp hq e => ?_, fun k q hq => ?_⟩
  · obtain ⟨h1, rfl⟩ := zl_of hp
    obtain ⟨h2, rfl⟩ := zl_of hq
    exact hI i j h1 h2 e
  · obtain ⟨h1, rfl⟩ := zl_of hq
    exact ⟨k, h1, rfl⟩
end
section
/-! words of nest mates: they are no word that a callee may take along; they come with the start of every contract -/
def zNf : List Cond := [.fieldLinkNest "WingDoor" 90 "WingDoor$Text" "length" "I" "WingDoor", .fieldLinkNest "WingDoor$Text" 64 "WingDoor$Plan" "rooms" "I" "WingDoor", .fieldLinkNest "WingDoor" 146 "WingDoor$Plan" "rooms" "I" "WingDoor", .fieldLinkNest "WingDoor$Text" 67 "WingDoor$Plan" "wide" "I" "WingDoor", .fieldLinkNest "WingDoor$Moment" 94 "WingDoor$Plan" "wide" "I" "WingDoor", .fieldLinkNest "WingDoor" 250 "WingDoor$Plan" "wide" "I" "WingDoor", .fieldLinkNest "WingDoor$Text" 74 "WingDoor$Plan" "hard" "I" "WingDoor", .fieldLinkNest "WingDoor$Moment" 65 "WingDoor$Plan" "hard" "I" "WingDoor", .fieldLinkNest "WingDoor" 253 "WingDoor$Plan" "hard" "I" "WingDoor", .fieldLinkNest "WingDoor$Sightings" 29 "WingDoor$Plan" "sorts" "I" "WingDoor", .fieldLinkNest "WingDoor$Text" 51 "WingDoor$Plan" "sorts" "I" "WingDoor", .fieldLinkNest "WingDoor" 256 "WingDoor$Plan" "sorts" "I" "WingDoor", .fieldLinkNest "WingDoor$StoreKind" 19 "WingDoor$Moment" "step" "I" "WingDoor", .fieldLinkNest "WingDoor" 155 "WingDoor$Moment" "step" "I" "WingDoor", .fieldLinkNest "WingDoor" 174 "WingDoor$Moment" "goers" "I" "WingDoor", .fieldLinkNest "WingDoor" 124 "WingDoor$Moment" "sortOf" "[I" "WingDoor", .fieldLinkNest "WingDoor" 128 "WingDoor$Moment" "sideOf" "[I" "WingDoor", .fieldLinkNest "WingDoor" 131 "WingDoor$Moment" "whereOf" "[I" "WingDoor", .fieldLinkNest "WingDoor" 134 "WingDoor$Moment" "placeOf" "[I" "WingDoor", .fieldLinkNest "WingDoor" 104 "WingDoor$Past" "size" "I" "WingDoor", .fieldLinkNest "WingDoor" 107 "WingDoor$Sightings" "size" "I" "WingDoor"]
def zNm : List Cond := [.methodLinkNest "WingDoor" 9 ⟨"WingDoor$Text", "<init>", "()V"⟩ "WingDoor", .methodLinkNest "WingDoor" 66 ⟨"WingDoor$DoorKind", "<init>", "()V"⟩ "WingDoor", .methodLinkNest "WingDoor" 69 ⟨"WingDoor$BankKind", "<init>", "()V"⟩ "WingDoor", .methodLinkNest "WingDoor$BankKind" 1 ⟨"WingDoor$DoorKind", "<init>", "()V"⟩ "WingDoor", .methodLinkNest "WingDoor" 72 ⟨"WingDoor$HotelKind", "<init>", "()V"⟩ "WingDoor", .methodLinkNest "WingDoor$HotelKind" 3 ⟨"WingDoor$DoorKind", "<init>", "()V"⟩ "WingDoor", .methodLinkNest "WingDoor" 75 ⟨"WingDoor$CourtKind", "<init>", "()V"⟩ "WingDoor", .methodLinkNest "WingDoor$CourtKind" 1 ⟨"WingDoor$BankKind", "<init>", "()V"⟩ "WingDoor", .methodLinkNest "WingDoor" 78 ⟨"WingDoor$GrandKind", "<init>", "()V"⟩ "WingDoor", .methodLinkNest "WingDoor$GrandKind" 1 ⟨"WingDoor$HotelKind", "<init>", "()V"⟩ "WingDoor", .methodLinkNest "WingDoor" 81 ⟨"WingDoor$StoreKind", "<init>", "()V"⟩ "WingDoor", .methodLinkNest "WingDoor$StoreKind" 1 ⟨"WingDoor$DoorKind", "<init>", "()V"⟩ "WingDoor"]
def zN (U : State) : Prop := (∀ w ∈ zNf, va_Nw w U) ∧ ∀ w ∈ zNm, va_Nw w U
theorem zN.warm {s U : State} (hW : s.WarmedH U.vm) (h : zN s) : zN U := by
  refine ⟨?_, ?_⟩
  · have h := h.1
    unfold zNf at h ⊢
    simp only [List.forall_mem_cons] at h ⊢
    obtain ⟨h0, h1, h2, h3, h4, h5, h6, h7, h8, h9, h10, h11, h12, h13, h14, h15, h16, h17, h18, h19, h20, -⟩ := h
    exact ⟨va_Nw.warmF hW h0, va_Nw.warmF hW h1, va_Nw.warmF hW h2, va_Nw.warmF hW h3, va_Nw.warmF hW h4, va_Nw.warmF hW h5, va_Nw.warmF hW h6, va_Nw.warmF hW h7, va_Nw.warmF hW h8, va_Nw.warmF hW h9, va_Nw.warmF hW h10, va_Nw.warmF hW h11, va_Nw.warmF hW h12, va_Nw.warmF hW h13, va_Nw.warmF hW h14, va_Nw.warmF hW h15, va_Nw.warmF hW h16, va_Nw.warmF hW h17, va_Nw.warmF hW h18, va_Nw.warmF hW h19, va_Nw.warmF hW h20, fun _ hx => absurd hx List.not_mem_nil⟩
  · have h := h.2
    unfold zNm at h ⊢
    simp only [List.forall_mem_cons] at h ⊢
    obtain ⟨h0, h1, h2, h3, h4, h5, h6, h7, h8, h9, h10, h11, -⟩ := h
    exact ⟨va_Nw.warmM hW h0, va_Nw.warmM hW h1, va_Nw.warmM hW h2, va_Nw.warmM hW h3, va_Nw.warmM hW h4, va_Nw.warmM hW h5, va_Nw.warmM hW h6, va_Nw.warmM hW h7, va_Nw.warmM hW h8, va_Nw.warmM hW h9, va_Nw.warmM hW h10, va_Nw.warmM hW h11, fun _ hx => absurd hx List.not_mem_nil⟩
theorem zN_tab : ∀ w ∈ zNf ++ zNm, w ∈ lw_tbl := by decide +kernel
theorem zN_on : ∀ w ∈ zNf ++ zNm, w.onTables = true := by decide +kernel
theorem zN.same {u U : State} (h : u.vm = U.vm) (hZ : zN u) : zN U := ⟨fun w hw => va_Nw.same (zN_on w (List.mem_append_left _ hw)) h (hZ.1 w hw), fun w hw => va_Nw.same (zN_on w (List.mem_append_right _ hw)) h (hZ.2 w hw)⟩
/-- the word of the tables, all of them good -/
theorem zw_good : GoodIn lw_tbl zG := fun w hw => ⟨zG_in hw, zG_good hw⟩
theorem zw_sub {ws : List Cond} (h : ∀ w ∈ ws, w ∈ zG) {big : List Cond} (hb : ∀ w ∈ zG, w ∈ big) : GoodIn big ws := fun w hw => ⟨hb w (h w hw), (zw_good w (h w hw)).2⟩
/-- the room of a method with d calls below it -/
def zR (d : Nat) : Room := { frames := d, cells := 0, slots := 0, locals := 45 * d }
/-- what a method's body knows -/
abbrev zC (X : zX) (E : zE) (cc : ByteArray) (nL : Nat) (own : String) (rt : Option FieldType) (d : Nat) : Prop :=
  X.1.tables.exec = Jvm.exec ∧ X.2.2.2.2.2.2.2.2.2.1.code = cc ∧ X.2.2.2.2.2.2.2.2.2.1.maxLocals = nL ∧ X.2.2.2.2.1.vm.findClass own = some X.2.2.2.2.2.1.cls ∧ (∀ w ∈ zG, w.before X.2.2.2.2.2.2.1 X.2.2.2.2.1 = true) ∧ va_K E.1 vwCl (zt E) X.2.2.2.2.1 ∧ zN X.2.2.2.2.1 ∧ zI E ∧ (X.2.2.2.2.2.2.2.2.2.2.1 ≤ X.2.2.2.1.cells ∧ X.2.2.2.2.2.2.2.2.2.2.2 ≤ X.2.2.2.1.slots) ∧ (d ≤ X.2.2.2.1.frames ∧ 45 * d ≤ X.2.2.2.1.locals) ∧ X.2.2.2.2.2.2.2.2.1.locks = false ∧ X.2.2.2.2.2.2.2.2.1.sig.returnType = rt
/-- the machine at a place of a method, over the world that holds M -/
def zW (X : zX) (E : zE) (Q : State → Prop) (M : zM) (pc : Nat) (lv : List (Nat × Value)) (st : List Value) : Prop :=
  ∀ (H : Heap) (locs : List Loc) (ls : Array Slot), va_P E.1 vwCl (zl E M) H → va_S (zA E) X.2.2.2.2.1.heap H locs → lv_has ls X.2.2.2.2.2.2.2.2.2.1.maxLocals lv → W X.1 X.2.1 X.2.2.1 X.2.2.2.1 X.2.2.2.2.1 X.2.2.2.2.2.1 X.2.2.2.2.2.2.1 X.2.2.2.2.2.2.2.1 X.2.2.2.2.2.2.2.2.1 X.2.2.2.2.2.2.2.2.2.1 H locs X.2.2.2.2.2.2.2.2.2.2.1 X.2.2.2.2.2.2.2.2.2.2.2 Q (F0 X.2.2.2.2.2.1 pc ls st)
/-- a contract: from the world M to the world M', with an answer -/
def zP (E : zE) (M : zM) (U : State) : Prop := va_P E.1 vwCl (zl E M) U.heap ∧ va_K E.1 vwCl (zt E) U ∧ zN U
def zQ (E : zE) (rv : Option Value) (M : zM) : Array Value → State → Outcome → State → Prop := fun _ st oc t => oc = .returned rv ∧ va_P E.1 vwCl (zl E M) t.heap ∧ va_F (zA E) st t
def zMet (l : Launch) (E : zE) (y : MethodName) (cc : ByteArray) (mL : Nat) (rt : Option FieldType) (d : Nat) (avs : List Value) (M M' : zM) (rv : Option Value) : Prop :=
  Met l y (.code y cc mL rt :: zG) (zR d) (va_Pc avs (zP E M)) (zQ E rv M') 0 0 (zA E)
def zRQ (X : zX) (E : zE) (rv : Option Value) (M : zM) : State → Prop := MQ X.2.2.2.2.2.2.2.1 (zQ E rv M) X.2.2.2.2.2.2.1 X.2.2.2.2.1 X.2.2.2.2.2.2.2.2.2.2.1 X.2.2.2.2.2.2.2.2.2.2.2 (zA E)
/-- a contract out of its body -/
theorem zm_of {l : Launch} {E : zE} {y : MethodName} {cc : ByteArray} {mL : Nat} {rt : Option FieldType} {d : Nat} {avs : List Value} {M M' : zM} {rv : Option Value} (hI : zI E) (hy : plainName y.cls = true) (hlen : (lg_sl avs).length ≤ mL)
    (body : ∀ X : zX, X.2.1 = l → zC X E cc mL y.cls rt d → zW X E (zRQ X E rv M') M 0 (lv_args 0 avs) []) : zMet l E y cc mL rt d avs M M' rv := by
  refine Met.ofW (cc := cc) (maxL := mL) (ret := rt) hy rfl ?_
  intro p e s m args below meth c s₁ B hml hv
  obtain ⟨rfl, hP, hK, hN⟩ := hv
  have hts := atoms_spec (ws := .code y cc mL rt :: zG) B.pre
  have hl := lv_entry avs (n := mL) hlen
  rw [lg_entry_eq]
  have hb := body (p, l, e, zR d, s, m, avs.toArray, below, meth, c, 0, 0) rfl ⟨B.exec, B.bytes, hml, findClass_of_methodNamed B.named, fun w hw => hts w (List.mem_cons_of_mem _ hw), hK, hN, hI, ⟨Nat.le_refl _, Nat.le_refl _⟩, ⟨Nat.le_refl _, Nat.le_refl _⟩, B.notSynchronized, B.returns⟩
  exact hb s.heap [] _ hP va_S.rf (by show lv_has _ c.maxLocals _; rw [hml]; exact hl)
theorem zM_blind (E : zE) (M : zM) (avs : List Value) : FrameBlind (va_Pc avs (zP E M)) := fun a U g mk q => ⟨q.1, q.2.1, va_K.moved (u := U) (U := U.calling g mk a) (Vm.Alike.refl U.vm) q.2.2.1, zN.same (u := U) (U := U.calling g mk a) rfl q.2.2.2⟩
section ZROWS
variable {X : zX} {E : zE} {cc : ByteArray} {nL : Nat} {own : String} {rt : Option FieldType} {d : Nat} {Q : State → Prop} {M : zM} {pc : Nat} {lv lv' : List (Nat × Value)} {st : List Value}
theorem zw_sb (ks : List Nat) (hl : lv_pick lv ks = lv') (k : zW X E Q M pc lv' st) : zW X E Q M pc lv st := fun H locs ls hP hS h => k H locs ls hP hS (lv_sub h ks hl)
theorem zw_iconst (C : zC X E cc nL own rt d) {n : Int} {v : Int32} (hd : decode cc pc = .ok (.iconst n, 1)) (hv : Int32.ofInt n = v) (k : zW X E Q M (pc + 1) lv (.int v :: st)) : zW X E Q M pc lv st := fun H locs ls hP hS h => lv_iconst C.1 C.2.1 hd hv (k H locs ls hP hS h)
theorem zw_bipush (C : zC X E cc nL own rt d) {n : Int} {v : Int32} (hd : decode cc pc = .ok (.bipush n, 2)) (hv : (Int8.ofInt n).toInt32 = v) (k : zW X E Q M (pc + 2) lv (.int v :: st)) : zW X E Q M pc lv st := fun H locs ls hP hS h => lv_bipush C.1 C.2.1 hd hv (k H locs ls hP hS h)
theorem zw_sipush (C : zC X E cc nL own rt d) {n : Int} {v : Int32} (hd : decode cc pc = .ok (.sipush n, 3)) (hv : (Int16.ofInt n).toInt32 = v) (k : zW X E Q M (pc + 3) lv (.int v :: st)) : zW X E Q M pc lv st := fun H locs ls hP hS h => lv_sipush C.1 C.2.1 hd hv (k H locs ls hP hS h)
theorem zw_lconst (C : zC X E cc nL own rt d) {n : Fin 2} {v : Int64} (hd : decode cc pc = .ok (.lconst n, 1)) (hv : Int64.ofNat (n : Nat) = v) (k : zW X E Q M (pc + 1) lv (.long v :: st)) : zW X E Q M pc lv st := fun H locs ls hP hS h => lv_lconst C.1 C.2.1 hd hv (k H locs ls hP hS h)
theorem zw_ldc (C : zC X E cc nL own rt d) {i : Nat} {v : Int32} (hw : Cond.constant own i v ∈ zG) (hd : decode cc pc = .ok (.ldc i, 2)) (k : zW X E Q M (pc + 2) lv (.int v :: st)) : zW X E Q M pc lv st := fun H locs ls hP hS h => lv_ldc C.1 C.2.1 C.2.2.2.1 (C.2.2.2.2.1 _ hw) hd (k H locs ls hP hS h)
theorem zw_ldcw (C : zC X E cc nL own rt d) {i : Nat} {v : Int32} (hw : Cond.constant own i v ∈ zG) (hd : decode cc pc = .ok (.ldc_w i, 3)) (k : zW X E Q M (pc + 3) lv (.int v :: st)) : zW X E Q M pc lv st := fun H locs ls hP hS h => lv_ldcw C.1 C.2.1 C.2.2.2.1 (C.2.2.2.2.1 _ hw) hd (k H locs ls hP hS h)
theorem zw_ldc2 (C : zC X E cc nL own rt d) {i : Nat} {v : Int64} (hw : Cond.constantLong own i v ∈ zG) (hd : decode cc pc = .ok (.ldc2_w i, 3)) (k : zW X E Q M (pc + 3) lv (.long v :: st)) : zW X E Q M pc lv st := fun H locs ls hP hS h => lv_ldc2 C.1 C.2.1 C.2.2.2.1 (C.2.2.2.2.1 _ hw) hd (k H locs ls hP hS h)
theorem zw_iload_n (C : zC X E cc nL own rt d) {j : Fin 4} {i : Nat} {x : Int32} (q : Nat) (hl : lv[q]? = some (i, .int x)) (hd : decode cc pc = .ok (.iload_n j, 1)) (hi : (j : Nat) = i) (k : zW X E Q M (pc + 1) lv (.int x :: st)) : zW X E Q M pc lv st := fun H locs ls hP hS h => lv_iload_n C.1 C.2.1 hd hi (lv_at h q hl) (k H locs ls hP hS h)
theorem zw_iload (C : zC X E cc nL own rt d) {i : Nat} {x : Int32} (q : Nat) (hl : lv[q]? = some (i, .int x)) (hd : decode cc pc = .ok (.iload i, 2)) (k : zW X E Q M (pc + 2) lv (.int x :: st)) : zW X E Q M pc lv st := fun H locs ls hP hS h => lv_iload C.1 C.2.1 hd (lv_at h q hl) (k H locs ls hP hS h)
theorem zw_lload_n (C : zC X E cc nL own rt d) {j : Fin 4} {i : Nat} {x : Int64} (q : Nat) (hl : lv[q]? = some (i, .long x)) (hd : decode cc pc = .ok (.lload_n j, 1)) (hi : (j : Nat) = i) (k : zW X E Q M (pc + 1) lv (.long x :: st)) : zW X E Q M pc lv st := fun H locs ls hP hS h => lv_lload_n C.1 C.2.1 hd hi (lv_at h q hl) (k H locs ls hP hS h)
theorem zw_lload (C : zC X E cc nL own rt d) {i : Nat} {x : Int64} (q : Nat) (hl : lv[q]? = some (i, .long x)) (hd : decode cc pc = .ok (.lload i, 2)) (k : zW X E Q M (pc + 2) lv (.long x :: st)) : zW X E Q M pc lv st := fun H locs ls hP hS h => lv_lload C.1 C.2.1 hd (lv_at h q hl) (k H locs ls hP hS h)
theorem zw_aload_n (C : zC X E cc nL own rt d) {j : Fin 4} {i x : Nat} (q : Nat) (hl : lv[q]? = some (i, .ref x)) (hd : decode cc pc = .ok (.aload_n j, 1)) (hi : (j : Nat) = i) (k : zW X E Q M (pc + 1) lv (.ref x :: st)) : zW X E Q M pc lv st := fun H locs ls hP hS h => lv_aload_n C.1 C.2.1 hd hi (lv_at h q hl) (k H locs ls hP hS h)
theorem zw_istore_n (C : zC X E cc nL own rt d) {j : Fin 4} {i : Nat} {x : Int32} (hd : decode cc pc = .ok (.istore_n j, 1)) (hi : (j : Nat) = i) (hn : i < nL) (hl : (i, Value.int x) :: lv.filter (fun q => !(q.1 == i) && !(q.1 + 1 == i && q.2.category == 2)) = lv') (k : zW X E Q M (pc + 1) lv' st) : zW X E Q M pc lv (.int x :: st) := fun H locs ls hP hS h => lv_istore_n C.1 C.2.1 hd hi h (by rw [C.2.2.1]; exact hn) hl (fun ls h => k H locs ls hP hS h)
theorem zw_istore (C : zC X E cc nL own rt d) {i : Nat} {x : Int32} (hd : decode cc pc = .ok (.istore i, 2)) (hn : i < nL) (hl : (i, Value.int x) :: lv.filter (fun q => !(q.1 == i) && !(q.1 + 1 == i && q.2.category == 2)) = lv') (k : zW X E Q M (pc + 2) lv' st) : zW X E Q M pc lv (.int x :: st) := fun H locs ls hP hS h => lv_istore C.1 C.2.1 hd h (by rw [C.2.2.1]; exact hn) hl (fun ls h => k H locs ls hP hS h)
theorem zw_lstore_n (C : zC X E cc nL own rt d) {j : Fin 4} {i : Nat} {x : Int64} (hd : decode cc pc = .ok (.lstore_n j, 1)) (hi : (j : Nat) = i) (hn : i + 1 < nL) (hl : (i, Value.long x) :: lv.filter (fun q => !(q.1 == i) && (!(q.1 == i + 1) && !(q.1 + 1 == i && q.2.category == 2))) = lv') (k : zW X E Q M (pc + 1) lv' st) : zW X E Q M pc lv (.long x :: st) := fun H locs ls hP hS h => lv_lstore_n C.1 C.2.1 hd hi h (by rw [C.2.2.1]; exact hn) hl (fun ls h => k H locs ls hP hS h)
theorem zw_lstore (C : zC X E cc nL own rt d) {i : Nat} {x : Int64} (hd : decode cc pc = .ok (.lstore i, 2)) (hn : i + 1 < nL) (hl : (i, Value.long x) :: lv.filter (fun q => !(q.1 == i) && (!(q.1 == i + 1) && !(q.1 + 1 == i && q.2.category == 2))) = lv') (k : zW X E Q M (pc + 2) lv' st) : zW X E Q M pc lv (.long x :: st) := fun H locs ls hP hS h => lv_lstore C.1 C.2.1 hd h (by rw [C.2.2.1]; exact hn) hl (fun ls h => k H locs ls hP hS h)
theorem zw_iinc (C : zC X E cc nL own rt d) {i : Nat} {n : Int} {x v : Int32} (q : Nat) (hk : lv[q]? = some (i, .int x)) (hd : decode cc pc = .ok (.iinc i n, 3)) (hv : x + Int32.ofInt n = v) (hn : i < nL) (hl : (i, Value.int v) :: lv.filter (fun q => !(q.1 == i) && !(q.1 + 1 == i && q.2.category == 2)) = lv') (k : zW X E Q M (pc + 3) lv' st) : zW X E Q M pc lv st := fun H locs ls hP hS h => lv_iinc C.1 C.2.1 hd h hk hv (by rw [C.2.2.1]; exact hn) hl (fun ls h => k H locs ls hP hS h)
theorem zw_iadd (C : zC X E cc nL own rt d) {x y : Int32} (hd : decode cc pc = .ok (.iadd, 1)) (k : zW X E Q M (pc + 1) lv (.int (x + y) :: st)) : zW X E Q M pc lv (.int y :: .int x :: st) := fun H locs ls hP hS h => lv_iadd C.1 C.2.1 hd (k H locs ls hP hS h)
theorem zw_isub (C : zC X E cc nL own rt d) {x y : Int32} (hd : decode cc pc = .ok (.isub, 1)) (k : zW X E Q M (pc + 1) lv (.int (x - y) :: st)) : zW X E Q M pc lv (.int y :: .int x :: st) := fun H locs ls hP hS h => lv_isub C.1 C.2.1 hd (k H locs ls hP hS h)
theorem zw_imul (C : zC X E cc nL own rt d) {x y : Int32} (hd : decode cc pc = .ok (.imul, 1)) (k : zW X E Q M (pc + 1) lv (.int (x * y) :: st)) : zW X E Q M pc lv (.int y :: .int x :: st) := fun H locs ls hP hS h => lv_imul C.1 C.2.1 hd (k H locs ls hP hS h)
theorem zw_iand (C : zC X E cc nL own rt d) {x y : Int32} (hd : decode cc pc = .ok (.iand, 1)) (k : zW X E Q M (pc + 1) lv (.int (x &&& y) :: st)) : zW X E Q M pc lv (.int y :: .int x :: st) := fun H locs ls hP hS h => lv_iand C.1 C.2.1 hd (k H locs ls hP hS h)
theorem zw_ior (C : zC X E cc nL own rt d) {x y : Int32} (hd : decode cc pc = .ok (.ior, 1)) (k : zW X E Q M (pc + 1) lv (.int (x ||| y) :: st)) : zW X E Q M pc lv (.int y :: .int x :: st) := fun H locs ls hP hS h => lv_ior C.1 C.2.1 hd (k H locs ls hP hS h)
theorem zw_ixor (C : zC X E cc nL own rt d) {x y : Int32} (hd : decode cc pc = .ok (.ixor, 1)) (k : zW X E Q M (pc + 1) lv (.int (x ^^^ y) :: st)) : zW X E Q M pc lv (.int y :: .int x :: st) := fun H locs ls hP hS h => lv_ixor C.1 C.2.1 hd (k H locs ls hP hS h)
theorem zw_ishl (C : zC X E cc nL own rt d) {x y : Int32} (hd : decode cc pc = .ok (.ishl, 1)) (k : zW X E Q M (pc + 1) lv (.int (x <<< (y &&& 31)) :: st)) : zW X E Q M pc lv (.int y :: .int x :: st) := fun H locs ls hP hS h => lv_ishl C.1 C.2.1 hd (k H locs ls hP hS h)
theorem zw_ishr (C : zC X E cc nL own rt d) {x y : Int32} (hd : decode cc pc = .ok (.ishr, 1)) (k : zW X E Q M (pc + 1) lv (.int (x >>> (y &&& 31)) :: st)) : zW X E Q M pc lv (.int y :: .int x :: st) := fun H locs ls hP hS h => lv_ishr C.1 C.2.1 hd (k H locs ls hP hS h)
theorem zw_ladd (C : zC X E cc nL own rt d) {x y : Int64} (hd : decode cc pc = .ok (.ladd, 1)) (k : zW X E Q M (pc + 1) lv (.long (x + y) :: st)) : zW X E Q M pc lv (.long y :: .long x :: st) := fun H locs ls hP hS h => lv_ladd C.1 C.2.1 hd (k H locs ls hP hS h)
theorem zw_lmul (C : zC X E cc nL own rt d) {x y : Int64} (hd : decode cc pc = .ok (.lmul, 1)) (k : zW X E Q M (pc + 1) lv (.long (x * y) :: st)) : zW X E Q M pc lv (.long y :: .long x :: st) := fun H locs ls hP hS h => lv_lmul C.1 C.2.1 hd (k H locs ls hP hS h)
theorem zw_idiv (C : zC X E cc nL own rt d) {x y : Int32} (hne : ¬ y = 0) (hd : decode cc pc = .ok (.idiv, 1)) (k : zW X E Q M (pc + 1) lv (.int (x / y) :: st)) : zW X E Q M pc lv (.int y :: .int x :: st) := fun H locs ls hP hS h => lv_idiv C.1 C.2.1 hd hne (k H locs ls hP hS h)
theorem zw_irem (C : zC X E cc nL own rt d) {x y : Int32} (hne : ¬ y = 0) (hd : decode cc pc = .ok (.irem, 1)) (k : zW X E Q M (pc + 1) lv (.int (x - x / y * y) :: st)) : zW X E Q M pc lv (.int y :: .int x :: st) := fun H locs ls hP hS h => lv_irem C.1 C.2.1 hd hne (k H locs ls hP hS h)
theorem zw_ldiv (C : zC X E cc nL own rt d) {x y : Int64} (hne : ¬ y = 0) (hd : decode cc pc = .ok (.ldiv, 1)) (k : zW X E Q M (pc + 1) lv (.long (x / y) :: st)) : zW X E Q M pc lv (.long y :: .long x :: st) := fun H locs ls hP hS h => lv_ldiv C.1 C.2.1 hd hne (k H locs ls hP hS h)
theorem zw_lrem (C : zC X E cc nL own rt d) {x y : Int64} (hne : ¬ y = 0) (hd : decode cc pc = .ok (.lrem, 1)) (k : zW X E Q M (pc + 1) lv (.long (x - x / y * y) :: st)) : zW X E Q M pc lv (.long y :: .long x :: st) := fun H locs ls hP hS h => lv_lrem C.1 C.2.1 hd hne (k H locs ls hP hS h)
theorem zw_iushr (C : zC X E cc nL own rt d) {x y : Int32} (hd : decode cc pc = .ok (.iushr, 1)) (k : zW X E Q M (pc + 1) lv (.int (x.toUInt32 >>> (y.toUInt32 &&& Int32.toUInt32 31)).toInt32 :: st)) : zW X E Q M pc lv (.int y :: .int x :: st) := fun H locs ls hP hS h => lv_iushr C.1 C.2.1 hd rfl (k H locs ls hP hS h)
theorem zw_i2l (C : zC X E cc nL own rt d) {x : Int32} (hd : decode cc pc = .ok (.i2l, 1)) (k : zW X E Q M (pc + 1) lv (.long x.toInt64 :: st)) : zW X E Q M pc lv (.int x :: st) := fun H locs ls hP hS h => lv_i2l C.1 C.2.1 hd rfl (k H locs ls hP hS h)
theorem zw_l2i (C : zC X E cc nL own rt d) {x : Int64} (hd : decode cc pc = .ok (.l2i, 1)) (k : zW X E Q M (pc + 1) lv (.int x.toInt32 :: st)) : zW X E Q M pc lv (.long x :: st) := fun H locs ls hP hS h => lv_l2i C.1 C.2.1 hd rfl (k H locs ls hP hS h)
theorem zw_lcmp (C : zC X E cc nL own rt d) {x y : Int64} (hd : decode cc pc = .ok (.lcmp, 1)) (k : zW X E Q M (pc + 1) lv (.int (lg_cmp x y) :: st)) : zW X E Q M pc lv (.long y :: .long x :: st) := fun H locs ls hP hS h => W.lcmp C.1 C.2.1 hd (k H locs ls hP hS h)
theorem zw_dup (C : zC X E cc nL own rt d) {v : Value} (hv : v.category = 1) (hd : decode cc pc = .ok (.dup, 1)) (k : zW X E Q M (pc + 1) lv (v :: v :: st)) : zW X E Q M pc lv (v :: st) := fun H locs ls hP hS h => lv_dup C.1 C.2.1 hd hv (k H locs ls hP hS h)
theorem zw_dup2 (C : zC X E cc nL own rt d) {v w : Value} (hv : v.category = 1) (hw : w.category = 1) (hd : decode cc pc = .ok (.dup2, 1)) (k : zW X E Q M (pc + 1) lv (v :: w :: v :: w :: st)) : zW X E Q M pc lv (v :: w :: st) := fun H locs ls hP hS h => lv_dup2_11 C.1 C.2.1 hd hv hw (k H locs ls hP hS h)
theorem zw_pop (C : zC X E cc nL own rt d) {v : Value} (hv : v.category = 1) (hd : decode cc pc = .ok (.pop, 1)) (k : zW X E Q M (pc + 1) lv st) : zW X E Q M pc lv (v :: st) := fun H locs ls hP hS h => lv_pop C.1 C.2.1 hd hv (k H locs ls hP hS h)
theorem zw_goto (C : zC X E cc nL own rt d) {off : Int} {tgt : Nat} (hd : decode cc pc = .ok (.goto off, 3)) (ht : (pc : Int) + off = (tgt : Int)) (k : zW X E Q M tgt lv st) : zW X E Q M pc lv st := fun H locs ls hP hS h => lv_goto C.1 C.2.1 hd ht (k H locs ls hP hS h)
theorem zw_if_eq (C : zC X E cc nL own rt d) {x : Int32} {off : Int} {tgt : Nat} (hd : decode cc pc = .ok (.ifCond .eq off, 3)) (ht : (pc : Int) + off = (tgt : Int)) (k1 : x = 0 → zW X E Q M tgt lv st) (k2 : ¬ x = 0 → zW X E Q M (pc + 3) lv st) : zW X E Q M pc lv (.int x :: st) := fun H locs ls hP hS h => lv_if_eq C.1 C.2.1 hd ht (fun q => k1 q H locs ls hP hS h) (fun q => k2 q H locs ls hP hS h)
theorem zw_icmp_eq (C : zC X E cc nL own rt d) {x y : Int32} {off : Int} {tgt : Nat} (hd : decode cc pc = .ok (.if_icmp .eq off, 3)) (ht : (pc : Int) + off = (tgt : Int)) (k1 : x = y → zW X E Q M tgt lv st) (k2 : ¬ x = y → zW X E Q M (pc + 3) lv st) : zW X E Q M pc lv (.int y :: .int x :: st) := fun H locs ls hP hS h => lv_icmp_eq C.1 C.2.1 hd ht (fun q => k1 q H locs ls hP hS h) (fun q => k2 q H locs ls hP hS h)
theorem zw_if_ne (C : zC X E cc nL own rt d) {x : Int32} {off : Int} {tgt : Nat} (hd : decode cc pc = .ok (.ifCond .ne off, 3)) (ht : (pc : Int) + off = (tgt : Int)) (k1 : x = 0 → zW X E Q M (pc + 3) lv st) (k2 : ¬ x = 0 → zW X E Q M tgt lv st) : zW X E Q M pc lv (.int x :: st) := fun H locs ls hP hS h => lv_if_ne C.1 C.2.1 hd ht (fun q => k2 q H locs ls hP hS h) (fun q => k1 q H locs ls hP hS h)
theorem zw_icmp_ne (C : zC X E cc nL own rt d) {x y : Int32} {off : Int} {tgt : Nat} (hd : decode cc pc = .ok (.if_icmp .ne off, 3)) (ht : (pc : Int) + off = (tgt : Int)) (k1 : x = y → zW X E Q M (pc + 3) lv st) (k2 : ¬ x = y → zW X E Q M tgt lv st) : zW X E Q M pc lv (.int y :: .int x :: st) := fun H locs ls hP hS h => lv_icmp_ne C.1 C.2.1 hd ht (fun q => k2 q H locs ls hP hS h) (fun q => k1 q H locs ls hP hS h)
theorem zw_if_lt (C : zC X E cc nL own rt d) {x : Int32} {off : Int} {tgt : Nat} (hd : decode cc pc = .ok (.ifCond .lt off, 3)) (ht : (pc : Int) + off = (tgt : Int)) (k1 : x < 0 → zW X E Q M tgt lv st) (k2 : ¬ x < 0 → zW X E Q M (pc + 3) lv st) : zW X E Q M pc lv (.int x :: st) := fun H locs ls hP hS h => lv_if_lt C.1 C.2.1 hd ht (fun q => k1 q H locs ls hP hS h) (fun q => k2 q H locs ls hP hS h)
theorem zw_icmp_lt (C : zC X E cc nL own rt d) {x y : Int32} {off : Int} {tgt : Nat} (hd : decode cc pc = .ok (.if_icmp .lt off, 3)) (ht : (pc : Int) + off = (tgt : Int)) (k1 : x < y → zW X E Q M tgt lv st) (k2 : ¬ x < y → zW X E Q M (pc + 3) lv st) : zW X E Q M pc lv (.int y :: .int x :: st) := fun H locs ls hP hS h => lv_icmp_lt C.1 C.2.1 hd ht (fun q => k1 q H locs ls hP hS h) (fun q => k2 q H locs ls hP hS h)
theorem zw_if_ge (C : zC X E cc nL own rt d) {x : Int32} {off : Int} {tgt : Nat} (hd : decode cc pc = .ok (.ifCond .ge off, 3)) (ht : (pc : Int) + off = (tgt : Int)) (k1 : 0 ≤ x → zW X E Q M tgt lv st) (k2 : ¬ 0 ≤ x → zW X E Q M (pc + 3) lv st) : zW X E Q M pc lv (.int x :: st) := fun H locs ls hP hS h => lv_if_ge C.1 C.2.1 hd ht (fun q => k1 q H locs ls hP hS h) (fun q => k2 q H locs ls hP hS h)
theorem zw_icmp_ge (C : zC X E cc nL own rt d) {x y : Int32} {off : Int} {tgt : Nat} (hd : decode cc pc = .ok (.if_icmp .ge off, 3)) (ht : (pc : Int) + off = (tgt : Int)) (k1 : y ≤ x → zW X E Q M tgt lv st) (k2 : ¬ y ≤ x → zW X E Q M (pc + 3) lv st) : zW X E Q M pc lv (.int y :: .int x :: st) := fun H locs ls hP hS h => lv_icmp_ge C.1 C.2.1 hd ht (fun q => k1 q H locs ls hP hS h) (fun q => k2 q H locs ls hP hS h)
theorem zw_if_gt (C : zC X E cc nL own rt d) {x : Int32} {off : Int} {tgt : Nat} (hd : decode cc pc = .ok (.ifCond .gt off, 3)) (ht : (pc : Int) + off = (tgt : Int)) (k1 : 0 < x → zW X E Q M tgt lv st) (k2 : ¬ 0 < x → zW X E Q M (pc + 3) lv st) : zW X E Q M pc lv (.int x :: st) := fun H locs ls hP hS h => lv_if_gt C.1 C.2.1 hd ht (fun q => k1 q H locs ls hP hS h) (fun q => k2 q H locs ls hP hS h)
theorem zw_icmp_gt (C : zC X E cc nL own rt d) {x y : Int32} {off : Int} {tgt : Nat} (hd : decode cc pc = .ok (.if_icmp .gt off, 3)) (ht : (pc : Int) + off = (tgt : Int)) (k1 : y < x → zW X E Q M tgt lv st) (k2 : ¬ y < x → zW X E Q M (pc + 3) lv st) : zW X E Q M pc lv (.int y :: .int x :: st) := fun H locs ls hP hS h => lv_icmp_gt C.1 C.2.1 hd ht (fun q => k1 q H locs ls hP hS h) (fun q => k2 q H locs ls hP hS h)
theorem zw_if_le (C : zC X E cc nL own rt d) {x : Int32} {off : Int} {tgt : Nat} (hd : decode cc pc = .ok (.ifCond .le off, 3)) (ht : (pc : Int) + off = (tgt : Int)) (k1 : x ≤ 0 → zW X E Q M tgt lv st) (k2 : ¬ x ≤ 0 → zW X E Q M (pc + 3) lv st) : zW X E Q M pc lv (.int x :: st) := fun H locs ls hP hS h => lv_if_le C.1 C.2.1 hd ht (fun q => k1 q H locs ls hP hS h) (fun q => k2 q H locs ls hP hS h)
theorem zw_icmp_le (C : zC X E cc nL own rt d) {x y : Int32} {off : Int} {tgt : Nat} (hd : decode cc pc = .ok (.if_icmp .le off, 3)) (ht : (pc : Int) + off = (tgt : Int)) (k1 : x ≤ y → zW X E Q M tgt lv st) (k2 : ¬ x ≤ y → zW X E Q M (pc + 3) lv st) : zW X E Q M pc lv (.int y :: .int x :: st) := fun H locs ls hP hS h => lv_icmp_le C.1 C.2.1 hd ht (fun q => k1 q H locs ls hP hS h) (fun q => k2 q H locs ls hP hS h)
theorem zw_tabIn (C : zC X E cc nL own rt d) {x v : Int32} {df lo hi : Int} {offs : Array Int} {len : Nat} {off : Int} {tgt : Nat} (hx : x = v) (hd : decode cc pc = .ok (.tableswitch df lo hi offs, len)) (h1 : ¬ v.toInt < lo) (h2 : ¬ hi < v.toInt) (ho : offs[(v.toInt - lo).toNat]? = some off) (ht : (pc : Int) + off = (tgt : Int)) (k : zW X E Q M tgt lv st) : zW X E Q M pc lv (.int x :: st) := by
  subst hx
  exact fun H locs ls hP hS h => lv_tableIn C.1 C.2.1 hd h1 h2 ho ht (k H locs ls hP hS h)
theorem zw_tabOut (C : zC X E cc nL own rt d) {x : Int32} {df lo hi : Int} {offs : Array Int} {len : Nat} {tgt : Nat} (hx : x.toInt < lo ∨ hi < x.toInt) (hd : decode cc pc = .ok (.tableswitch df lo hi offs, len)) (ht : (pc : Int) + df = (tgt : Int)) (k : zW X E Q M tgt lv st) : zW X E Q M pc lv (.int x :: st) := fun H locs ls hP hS h => lv_tableOut C.1 C.2.1 hd hx ht (k H locs ls hP hS h)
theorem zw_look (C : zC X E cc nL own rt d) {x : Int32} {df : Int} {ps : Array (Int × Int)} {len : Nat} {off : Int} {tgt : Nat} (hd : decode cc pc = .ok (.lookupswitch df ps, len)) (hp : (ps.toList.zip (ps.toList.drop 1)).all (fun (a, next) => a.1 < next.1) = true) (ho : Op.lookupswitch.offset ps.toList df x.toInt = off) (ht : (pc : Int) + off = (tgt : Int)) (k : zW X E Q M tgt lv st) : zW X E Q M pc lv (.int x :: st) := fun H locs ls hP hS h => lv_lookup C.1 C.2.1 hd hp ho ht (k H locs ls hP hS h)
/-- fields -/
theorem zw_get (C : zC X E cc nL own rt d) {b ci N idx : Nat} {Cn : String} {T : u_T} {fs : (Nat → Int32) → (Nat → Int64) → List Value} (hb : b < 121) (hc : ∀ f g, zc E b f g = .inr (ci, fs f g)) (hcl : vwCl[ci]? = some (Cn, T, N)) (hin : ∀ w ∈ u_ws Cn T N, w ∈ zG) (j : Nat) (hj : j < N) (hlink : Cond.fieldLink own idx (T j).1 (T j).2.1 (T j).2.2.1 ∈ zG) {v : Value} (hv : (fs (M.1 b) (M.2 b))[j]? = some v) (hd : decode cc pc = .ok (.getfield idx, 3)) (k : zW X E Q M (pc + 3) lv (v :: st)) : zW X E Q M pc lv (.ref (E.2.1 b) :: st) := fun H locs ls hP hS h => va_get C.1 C.2.1 C.2.2.2.2.1 hin C.2.2.2.1 C.2.2.2.2.2.1 hP b ((zl_at hb).trans (by rw [hc])) hcl j hj (C.2.2.2.2.1 _ hlink) (fun _ h9 => h9) hv hd (k H locs ls hP hS h)
theorem zw_getN (C : zC X E cc nL own rt d) {b ci N idx : Nat} {Cn host : String} {T : u_T} {fs : (Nat → Int32) → (Nat → Int64) → List Value} (hb : b < 121) (hc : ∀ f g, zc E b f g = .inr (ci, fs f g)) (hcl : vwCl[ci]? = some (Cn, T, N)) (hin : ∀ w ∈ u_ws Cn T N, w ∈ zG) (j : Nat) (hj : j < N) (hlink : Cond.fieldLinkNest own idx (T j).1 (T j).2.1 (T j).2.2.1 host ∈ zNf) {v : Value} (hv : (fs (M.1 b) (M.2 b))[j]? = some v) (hd : decode cc pc = .ok (.getfield idx, 3)) (k : zW X E Q M (pc + 3) lv (v :: st)) : zW X E Q M pc lv (.ref (E.2.1 b) :: st) := fun H locs ls hP hS h => va_getN C.1 C.2.1 C.2.2.2.2.1 hin C.2.2.2.1 C.2.2.2.2.2.1 hP b ((zl_at hb).trans (by rw [hc])) hcl j hj (va_Nw.use rfl (C.2.2.2.2.2.2.1.1 _ hlink)) (fun _ h9 => h9) hv hd (k H locs ls hP hS h)
/-- an inherited field -/
theorem zw_getS (C : zC X E cc nL own rt d) {b ci N idx : Nat} {Cn ref : String} {T : u_T} {fs : (Nat → Int32) → (Nat → Int64) → List Value} (hb : b < 121) (hc : ∀ f g, zc E b f g = .inr (ci, fs f g)) (hcl : vwCl[ci]? = some (Cn, T, N)) (hin : ∀ w ∈ u_ws Cn T N, w ∈ zG) (j : Nat) (hj : j < N) (hlink : Cond.fieldLink own idx ref (T j).2.1 (T j).2.2.1 ∈ zG) (hsame : Cond.sameField ref (T j).1 (T j).2.1 (T j).2.2.1 ∈ zG) {v : Value} (hv : (fs (M.1 b) (M.2 b))[j]? = some v) (hd : decode cc pc = .ok (.getfield idx, 3)) (k : zW X E Q M (pc + 3) lv (v :: st)) : zW X E Q M pc lv (.ref (E.2.1 b) :: st) := fun H locs ls hP hS h => va_get C.1 C.2.1 C.2.2.2.2.1 hin C.2.2.2.1 C.2.2.2.2.2.1 hP b ((zl_at hb).trans (by rw [hc])) hcl j hj (C.2.2.2.2.1 _ hlink) (u_same (C.2.2.2.2.1 _ hsame)) hv hd (k H locs ls hP hS h)
theorem zw_put (C : zC X E cc nL own rt d) {b ci N idx : Nat} {Cn : String} {T : u_T} {fs : (Nat → Int32) → (Nat → Int64) → List Value} {x : Int32} {ty : FieldType} (hb : b < 121) (hc : ∀ f g, zc E b f g = .inr (ci, fs f g)) (hcl : vwCl[ci]? = some (Cn, T, N)) (hin : ∀ w ∈ u_ws Cn T N, w ∈ zG) (ty0 : Nat → FieldType) (hty : ∀ k, k < N → parseFieldDescriptor (T k).2.2.1 = some (ty0 k)) (hnm : ∀ a, a < N → ∀ b, b < N → a ≠ b → (T a).2.1 ≠ (T b).2.1) (j : Nat) (hj : j < N) (hlink : Cond.fieldLink own idx (T j).1 (T j).2.1 (T j).2.2.1 ∈ zG) (hfin : (T j).2.2.2 = false) (hde : parseFieldDescriptor (T j).2.2.1 = some ty) (hn : narrow ty (.int x) = .int x) (hfit : fits ty (.int x) = true) (hlen : ∀ f g, j < (fs f g).length) (hset : ∀ f g, (fs f g).set j (.int x) = fs (upd f j x) g) (hd : decode cc pc = .ok (.putfield idx, 3)) (k : zW X E Q (zs M b j x) (pc + 3) lv st) : zW X E Q M pc lv (.int x :: .ref (E.2.1 b) :: st) := fun H locs ls hP hS h => va_put C.1 C.2.1 C.2.2.2.2.1 hin ty0 hty hnm C.2.2.2.1 C.2.2.2.2.2.1 hP (zl_D C.2.2.2.2.2.2.2.1 M) hS b ((zl_at hb).trans (by rw [hc])) hcl j hj (C.2.2.2.2.1 _ hlink) (fun _ h9 => h9) hfin hde hn hfit (hlen _ _) hd (fun H locs hP hD hS => k H locs ls (by
  rw [hset, zl_set hb (hc _ _).symm] at hP; exact hP) hS h)
theorem zw_putN (C : zC X E cc nL own rt d) {b ci N idx : Nat} {Cn host : String} {T : u_T} {fs : (Nat → Int32) → (Nat → Int64) → List Value} {x : Int32} {ty : FieldType} (hb : b < 121) (hc : ∀ f g, zc E b f g = .inr (ci, fs f g)) (hcl : vwCl[ci]? = some (Cn, T, N)) (hin : ∀ w ∈ u_ws Cn T N, w ∈ zG) (ty0 : Nat → FieldType) (hty : ∀ k, k < N → parseFieldDescriptor (T k).2.2.1 = some (ty0 k)) (hnm : ∀ a, a < N → ∀ b, b < N → a ≠ b → (T a).2.1 ≠ (T b).2.1) (j : Nat) (hj : j < N) (hlink : Cond.fieldLinkNest own idx (T j).1 (T j).2.1 (T j).2.2.1 host ∈ zNf) (hfin : (T j).2.2.2 = false) (hde : parseFieldDescriptor (T j).2.2.1 = some ty) (hn : narrow ty (.int x) = .int x) (hfit : fits ty (.int x) = true) (hlen : ∀ f g, j < (fs f g).length) (hset : ∀ f g, (fs f g).set j (.int x) = fs (upd f j x) g) (hd : decode cc pc = .ok (.putfield idx, 3)) (k : zW X E Q (zs M b j x) (pc + 3) lv st) : zW X E Q M pc lv (.int x :: .ref (E.2.1 b) :: st) := fun H locs ls hP hS h => va_putN C.1 C.2.1 C.2.2.2.2.1 hin ty0 hty hnm C.2.2.2.1 C.2.2.2.2.2.1 hP (zl_D C.2.2.2.2.2.2.2.1 M) hS b ((zl_at hb).trans (by rw [hc])) hcl j hj (va_Nw.use rfl (C.2.2.2.2.2.2.1.1 _ hlink)) (fun _ h9 => h9) hfin hde hn hfit (hlen _ _) hd (fun H locs hP hD hS => k H locs ls (by
  rw [hset, zl_set hb (hc _ _).symm] at hP; exact hP) hS h)
theorem zw_putL (C : zC X E cc nL own rt d) {b ci N idx : Nat} {Cn : String} {T : u_T} {fs : (Nat → Int32) → (Nat → Int64) → List Value} {x : Int64} (hb : b < 121) (hc : ∀ f g, zc E b f g = .inr (ci, fs f g)) (hcl : vwCl[ci]? = some (Cn, T, N)) (hin : ∀ w ∈ u_ws Cn T N, w ∈ zG) (ty0 : Nat → FieldType) (hty : ∀ k, k < N → parseFieldDescriptor (T k).2.2.1 = some (ty0 k)) (hnm : ∀ a, a < N → ∀ b, b < N → a ≠ b → (T a).2.1 ≠ (T b).2.1) (j : Nat) (hj : j < N) (hlink : Cond.fieldLink own idx (T j).1 (T j).2.1 (T j).2.2.1 ∈ zG) (hfin : (T j).2.2.2 = false) (hde : parseFieldDescriptor (T j).2.2.1 = some .long) (hlen : ∀ f g, j < (fs f g).length) (hset : ∀ f g, (fs f g).set j (.long x) = fs f (vp_updL g j x)) (hd : decode cc pc = .ok (.putfield idx, 3)) (k : zW X E Q (zsL M b j x) (pc + 3) lv st) : zW X E Q M pc lv (.long x :: .ref (E.2.1 b) :: st) := fun H locs ls hP hS h => va_put C.1 C.2.1 C.2.2.2.2.1 hin ty0 hty hnm C.2.2.2.1 C.2.2.2.2.2.1 hP (zl_D C.2.2.2.2.2.2.2.1 M) hS b ((zl_at hb).trans (by rw [hc])) hcl j hj (C.2.2.2.2.1 _ hlink) (fun _ h9 => h9) hfin hde rfl rfl (hlen _ _) hd (fun H locs hP hD hS => k H locs ls (by
  rw [hset, zl_setL hb (hc _ _).symm] at hP; exact hP) hS h)
theorem zw_putLS (C : zC X E cc nL own rt d) {b ci N idx : Nat} {Cn ref : String} {T : u_T} {fs : (Nat → Int32) → (Nat → Int64) → List Value} {x : Int64} (hb : b < 121) (hc : ∀ f g, zc E b f g = .inr (ci, fs f g)) (hcl : vwCl[ci]? = some (Cn, T, N)) (hin : ∀ w ∈ u_ws Cn T N, w ∈ zG) (ty0 : Nat → FieldType) (hty : ∀ k, k < N → parseFieldDescriptor (T k).2.2.1 = some (ty0 k)) (hnm : ∀ a, a < N → ∀ b, b < N → a ≠ b → (T a).2.1 ≠ (T b).2.1) (j : Nat) (hj : j < N) (hlink : Cond.fieldLink own idx ref (T j).2.1 (T j).2.2.1 ∈ zG) (hsame : Cond.sameField ref (T j).1 (T j).2.1 (T j).2.2.1 ∈ zG) (hfin : (T j).2.2.2 = false) (hde : parseFieldDescriptor (T j).2.2.1 = some .long) (hlen : ∀ f g, j < (fs f g).length) (hset : ∀ f g, (fs f g).set j (.long x) = fs f (vp_updL g j x)) (hd : decode cc pc = .ok (.putfield idx, 3)) (k : zW X E Q (zsL M b j x) (pc + 3) lv st) : zW X E Q M pc lv (.long x :: .ref (E.2.1 b) :: st) := fun H locs ls hP hS h => va_put C.1 C.2.1 C.2.2.2.2.1 hin ty0 hty hnm C.2.2.2.1 C.2.2.2.2.2.1 hP (zl_D C.2.2.2.2.2.2.2.1 M) hS b ((zl_at hb).trans (by rw [hc])) hcl j hj (C.2.2.2.2.1 _ hlink) (u_same (C.2.2.2.2.1 _ hsame)) hfin hde rfl rfl (hlen _ _) hd (fun H locs hP hD hS => k H locs ls (by
  rw [hset, zl_setL hb (hc _ _).symm] at hP; exact hP) hS h)
/-- arrays -/
theorem zw_iald (C : zC X E cc nL own rt d) {a n : Nat} {i : Int32} (ha : zia a n) (hin : vp_in i n) (hd : decode cc pc = .ok (.iaload, 1)) (k : zW X E Q M (pc + 1) lv (.int (M.1 a i.toNatClampNeg) :: st)) : zW X E Q M pc lv (.int i :: .ref (E.2.1 a) :: st) := fun H locs ls hP hS h => va_iald C.1 C.2.1 C.2.2.2.2.2.1 hP a 0 ((zl_at ha.1).trans (by rw [ha.2])) rfl hin hd (k H locs ls hP hS h)
theorem zw_iast (C : zC X E cc nL own rt d) {a n : Nat} {i x : Int32} (ha : zia a n) (hin : vp_in i n) (hd : decode cc pc = .ok (.iastore, 1)) (k : zW X E Q (zs M a i.toNatClampNeg x) (pc + 1) lv st) : zW X E Q M pc lv (.int x :: .int i :: .ref (E.2.1 a) :: st) := fun H locs ls hP hS h => va_iast C.1 C.2.1 C.2.2.2.2.2.1 hP (zl_D C.2.2.2.2.2.2.2.1 M) hS a 0 ((zl_at ha.1).trans (by rw [ha.2])) rfl hin hd (fun H locs hP hD hS => k H locs ls (by
  rw [zl_set ha.1 (ha.2 _ _ _).symm] at hP; exact hP) hS h)
def zza (a n : Nat) : Prop := a < 121 ∧ ∀ (E : zE) (f : Nat → Int32) (g : Nat → Int64), zc E a f g = .inl (E.2.2 2, n, .inl f)
def zja (a n : Nat) : Prop := a < 121 ∧ ∀ (E : zE) (f : Nat → Int32) (g : Nat → Int64), zc E a f g = .inl (E.2.2 1, n, .inr (.inl g))
theorem zw_zald (C : zC X E cc nL own rt d) {a n : Nat} {i : Int32} (ha : zza a n) (hin : vp_in i n) (hd : decode cc pc = .ok (.baload, 1)) (k : zW X E Q M (pc + 1) lv (.int (M.1 a i.toNatClampNeg) :: st)) : zW X E Q M pc lv (.int i :: .ref (E.2.1 a) :: st) := fun H locs ls hP hS h => va_zald C.1 C.2.1 C.2.2.2.2.2.1 hP a 2 ((zl_at ha.1).trans (by rw [ha.2])) rfl hin hd (k H locs ls hP hS h)
theorem zw_zast (C : zC X E cc nL own rt d) {a n : Nat} {i x : Int32} (ha : zza a n) (hx : vp_nar .boolean x = x) (hin : vp_in i n) (hd : decode cc pc = .ok (.bastore, 1)) (k : zW X E Q (zs M a i.toNatClampNeg x) (pc + 1) lv st) : zW X E Q M pc lv (.int x :: .int i :: .ref (E.2.1 a) :: st) := fun H locs ls hP hS h => va_zast C.1 C.2.1 C.2.2.2.2.2.1 hP (zl_D C.2.2.2.2.2.2.2.1 M) hS a 2 ((zl_at ha.1).trans (by rw [ha.2])) rfl hin hd (fun H locs hP hD hS => k H locs ls (by
  rw [hx, zl_set ha.1 (ha.2 _ _ _).symm] at hP; exact hP) hS h)
theorem zw_lald (C : zC X E cc nL own rt d) {a n : Nat} {i : Int32} (ha : zja a n) (hin : vp_in i n) (hd : decode cc pc = .ok (.laload, 1)) (k : zW X E Q M (pc + 1) lv (.long (M.2 a i.toNatClampNeg) :: st)) : zW X E Q M pc lv (.int i :: .ref (E.2.1 a) :: st) := fun H locs ls hP hS h => va_lald C.1 C.2.1 C.2.2.2.2.2.1 hP a 1 ((zl_at ha.1).trans (by rw [ha.2])) rfl hin hd (k H locs ls hP hS h)
theorem zw_last (C : zC X E cc nL own rt d) {a n : Nat} {i : Int32} {x : Int64} (ha : zja a n) (hin : vp_in i n) (hd : decode cc pc = .ok (.lastore, 1)) (k : zW X E Q (zsL M a i.toNatClampNeg x) (pc + 1) lv st) : zW X E Q M pc lv (.long x :: .int i :: .ref (E.2.1 a) :: st) := fun H locs ls hP hS h => va_last C.1 C.2.1 C.2.2.2.2.2.1 hP (zl_D C.2.2.2.2.2.2.2.1 M) hS a 1 ((zl_at ha.1).trans (by rw [ha.2])) rfl hin hd (fun H locs hP hD hS => k H locs ls (by
  rw [zl_setL ha.1 (ha.2 _ _ _).symm] at hP; exact hP) hS h)
/-- a row of references: the j-th one's place is p j -/
def zqa (a n t : Nat) (s : String) (p : Nat → Nat) : Prop := a < 121 ∧ (∀ E : zE, (zt E)[t]? = some (E.2.2 t, .object s)) ∧ ∀ (E : zE) (f : Nat → Int32) (g : Nat → Int64), zc E a f g = .inl (E.2.2 t, n, .inr (.inr (.inr (.inr (fun j => some (E.2.1 (p j)))))))
theorem zw_aald (C : zC X E cc nL own rt d) {a n t : Nat} {s : String} {p : Nat → Nat} {i : Int32} (ha : zqa a n t s p) (hin : vp_in i n) (hd : decode cc pc = .ok (.aaload, 1)) (k : zW X E Q M (pc + 1) lv (.ref (E.2.1 (p i.toNatClampNeg)) :: st)) : zW X E Q M pc lv (.int i :: .ref (E.2.1 a) :: st) := fun H locs ls hP hS h => va_aldq (f := fun j => some (E.2.1 (p j))) C.1 C.2.1 C.2.2.2.2.2.1 hP a t ((zl_at ha.1).trans (by rw [ha.2.2])) (ha.2.1 E) hin hd (k H locs ls hP hS h)
theorem zw_alen (C : zC X E cc nL own rt d) {a t n : Nat} {ty : FieldType} {z : vp_A} (h1 : a < 121) (ha : zc E a (M.1 a) (M.2 a) = .inl (E.2.2 t, z)) (ht : (zt E)[t]? = some (E.2.2 t, ty)) {v : Int32} (hv : Int32.ofNat z.1 = v) (hd : decode cc pc = .ok (.arraylength, 1)) (k : zW X E Q M (pc + 1) lv (.int v :: st)) : zW X E Q M pc lv (.ref (E.2.1 a) :: st) := fun H locs ls hP hS h => va_alen C.1 C.2.1 C.2.2.2.2.2.1 hP a t ((zl_at h1).trans (by rw [ha])) ht hv hd (k H locs ls hP hS h)
theorem zw_copyi (C : zC X E cc nL own rt d) {a a0 n n0 idx : Nat} {sp dp m : Int32} (ha0 : zia a0 n0) (ha : zia a n) (hlink : Cond.methodLink own idx arraycopyName ∈ zG) (h1 : ¬ sp < 0) (h2 : ¬ dp < 0) (h3 : ¬ m < 0) (h4 : sp.toNatClampNeg + m.toNatClampNeg ≤ n0) (h5 : dp.toNatClampNeg + m.toNatClampNeg ≤ n) (hd0 : 1 ≤ d) (hst : (st.map fun v => v.category).sum ≤ 8) (hd : decode cc pc = .ok (.invokestatic idx, 3)) (k : zW X E Q (zr M a (va_cpy (M.1 a0) (M.1 a) sp.toNatClampNeg dp.toNatClampNeg m.toNatClampNeg)) (pc + 3) lv st) : zW X E Q M pc lv (.int m :: .int dp :: .ref (E.2.1 a) :: .int sp :: .ref (E.2.1 a0) :: st) := fun H locs ls hP hS h => by
  have h9 := C.2.2.2.2.2.2.2.2.2.1
  have e9 : nativeFrameWords "java/lang/System" "arraycopy" 5 + 11 ≤ 30 := by decide +kernel
  refine va_copyi C.1 C.2.1 (by rw [h.1]) C.2.2.2.1 (C.2.2.2.2.1 _ hlink) (C.2.2.2.2.1 _ gw_2_98) (C.2.2.2.2.1 _ gw_2_97) (C.2.2.2.2.1 _ gw_1_14) C.2.2.2.2.2.1 hP (zl_D C.2.2.2.2.2.2.2.1 M) hS a0 a 0 0 (ty := .int) ((zl_at ha0.1).trans (by rw [ha0.2])) ((zl_at ha.1).trans (by rw [ha.2])) rfl rfl rfl h1 h2 h3 h4 h5 (fun _ _ => rfl) (by omega) (by omega) hd (fun H locs hP hD hS => k H locs ls ?_ hS h)
  rw [zl_set ha.1 (ha.2 _ _ _).symm] at hP
  exact hP
theorem zw_mmax (C : zC X E cc nL own rt d) {idx : Nat} {x y : Int32} (hlink : Cond.methodLink own idx Lib.Math.max.name ∈ zG) (hstat : Cond.static Lib.Math.max.name ∈ zG) (hini : Cond.initialized "java/lang/Math" ∈ zG) (hcode : Cond.code Lib.Math.max.name Lib.Math.max.code 2 (some .int) ∈ zG) (hd0 : 1 ≤ d) (hst : (st.map fun v => v.category).sum ≤ 8) (hd : decode cc pc = .ok (.invokestatic idx, 3)) (k : zW X E Q M (pc + 3) lv (.int (if x < y then y else x) :: st)) : zW X E Q M pc lv (.int y :: .int x :: st) := fun H locs ls hP hS h => by
  have h9 := C.2.2.2.2.2.2.2.2.2.1
  exact va_mmax C.1 C.2.1 (by rw [h.1]) C.2.2.2.1 (C.2.2.2.2.1 _ hlink) (C.2.2.2.2.1 _ hstat) (C.2.2.2.2.1 _ hini) (C.2.2.2.2.1 _ hcode) (by omega) (by omega) C.2.2.2.2.2.2.2.2.1.1 C.2.2.2.2.2.2.2.2.1.2 hd (k H locs ls hP hS h)
theorem zw_mmin (C : zC X E cc nL own rt d) {idx : Nat} {x y : Int32} (hlink : Cond.methodLink own idx Lib.Math.min.name ∈ zG) (hstat : Cond.static Lib.Math.min.name ∈ zG) (hini : Cond.initialized "java/lang/Math" ∈ zG) (hcode : Cond.code Lib.Math.min.name Lib.Math.min.code 2 (some .int) ∈ zG) (hd0 : 1 ≤ d) (hst : (st.map fun v => v.category).sum ≤ 8) (hd : decode cc pc = .ok (.invokestatic idx, 3)) (k : zW X E Q M (pc + 3) lv (.int (if y < x then y else x) :: st)) : zW X E Q M pc lv (.int y :: .int x :: st) := fun H locs ls hP hS h => by
  have h9 := C.2.2.2.2.2.2.2.2.2.1
  exact va_mmin C.1 C.2.1 (by rw [h.1]) C.2.2.2.1 (C.2.2.2.2.1 _ hlink) (C.2.2.2.2.1 _ hstat) (C.2.2.2.2.1 _ hini) (C.2.2.2.2.1 _ hcode) (by omega) (by omega) C.2.2.2.2.2.2.2.2.1.1 C.2.2.2.2.2.2.2.2.1.2 hd (k H locs ls hP hS h)
theorem zw_mmaxL (C : zC X E cc nL own rt d) {idx : Nat} {x y : Int64} (hlink : Cond.methodLink own idx Lib.MathLoose.max_long.x ∈ zG) (hstat : Cond.static Lib.MathLoose.max_long.x ∈ zG) (hini : Cond.initialized "java/lang/Math" ∈ zG) (hcode : Cond.code Lib.MathLoose.max_long.x Lib.MathLoose.max_long.code 4 (some .long) ∈ zG) (hd0 : 1 ≤ d) (hst : (st.map fun v => v.category).sum ≤ 8) (hd : decode cc pc = .ok (.invokestatic idx, 3)) (k : zW X E Q M (pc + 3) lv (.long (if y < x then x else y) :: st)) : zW X E Q M pc lv (.long y :: .long x :: st) := fun H locs ls hP hS h => by
  have h9 := C.2.2.2.2.2.2.2.2.2.1
  exact va_mmax_long C.1 C.2.1 (by rw [h.1]) C.2.2.2.1 (C.2.2.2.2.1 _ hlink) (C.2.2.2.2.1 _ hstat) (C.2.2.2.2.1 _ hini) (C.2.2.2.2.1 _ hcode) (by omega) (by omega) C.2.2.2.2.2.2.2.2.1.1 C.2.2.2.2.2.2.2.2.1.2 hd (k H locs ls hP hS h)
/-- returns -/
theorem zw_ireturn (C : zC X E cc nL own (some .int) d) {v : Int32} (hd : decode cc pc = .ok (.ireturn, 1)) : zW X E (zRQ X E (some (.int v)) M) M pc lv [.int v] := fun H locs ls hP hS h => W.iret C.1 C.2.1 C.2.2.2.2.2.2.2.2.2.2.2 (fun t ht hW => ⟨rfl, by rw [ht]; exact hP, hS.F ht⟩) hS.2.2 hd C.2.2.2.2.2.2.2.2.2.2.1
theorem zw_zreturn (C : zC X E cc nL own (some .boolean) d) {v : Int32} (hn : narrow .boolean (.int v) = .int v) (hd : decode cc pc = .ok (.ireturn, 1)) : zW X E (zRQ X E (some (.int v)) M) M pc lv [.int v] := fun H locs ls hP hS h => W.zret C.1 C.2.1 C.2.2.2.2.2.2.2.2.2.2.2 hn (fun t ht hW => ⟨rfl, by rw [ht]; exact hP, hS.F ht⟩) hS.2.2 hd C.2.2.2.2.2.2.2.2.2.2.1
theorem zw_lreturn (C : zC X E cc nL own (some .long) d) {v : Int64} (hd : decode cc pc = .ok (.lreturn, 1)) : zW X E (zRQ X E (some (.long v)) M) M pc lv [.long v] := fun H locs ls hP hS h => W.lret C.1 C.2.1 C.2.2.2.2.2.2.2.2.2.2.2 (fun t ht hW => ⟨rfl, by rw [ht]; exact hP, hS.F ht⟩) hS.2.2 hd C.2.2.2.2.2.2.2.2.2.2.1
theorem zw_return (C : zC X E cc nL own none d) (hd : decode cc pc = .ok (.return_, 1)) : zW X E (zRQ X E none M) M pc lv [] := fun H locs ls hP hS h => W.vret C.1 C.2.1 C.2.2.2.2.2.2.2.2.2.2.2 (fun t ht hW => ⟨rfl, by rw [ht]; exact hP, hS.F ht⟩) hS.2.2 hd C.2.2.2.2.2.2.2.2.2.2.1
/-- calls -/
theorem zw_run {M1 : zM} {rv : Option Value} {a : Array Value} {st0 : List Value} (hr : ∀ (H : Heap) (locs : List Loc) (ls : Array Slot), va_P E.1 vwCl (zl E M) H → lv_has ls X.2.2.2.2.2.2.2.2.2.1.maxLocals lv → va_Run X.1 X.2.1 X.2.2.1 X.2.2.2.1 X.2.2.2.2.1 X.2.2.2.2.2.1 X.2.2.2.2.2.2.1 X.2.2.2.2.2.2.2.1 X.2.2.2.2.2.2.2.2.1 X.2.2.2.2.2.2.2.2.2.1 H locs X.2.2.2.2.2.2.2.2.2.2.1 X.2.2.2.2.2.2.2.2.2.2.2 0 0 (F0 X.2.2.2.2.2.1 pc ls st0) st (zQ E rv M1 a) (zA E)) (k : zW X E Q M1 (pc + 3) lv (rv.toList ++ st)) : zW X E Q M pc lv st0 := by
  intro H locs ls hP hS h T hT Y
  obtain ⟨v, st₀, t, T', L, h0, Y', hL, e1, e2, ⟨hv, hp, hz, hk⟩, go⟩ := hr H locs ls hP h T hT Y
  cases hv
  rw [h0] at hz hk
  obtain ⟨t2, a1, b1⟩ := k T'.heap (locs ++ L) ls (by rw [e1]; exact hp) ⟨Nat.le_trans hS.1 (by rw [e1]; exact hz), fun q h1 h2 => by rw [e1, hk q (Nat.lt_of_lt_of_le h1 hS.1) h2]; exact hS.2.1 q h1 h2, fun q hq => by
      rcases List.mem_append.mp hq with h | h
      · exact hS.2.2 q h
      · exact hL q h⟩ h T' rfl Y'
  exact ⟨t2, go t2 a1, b1⟩
/-- what a callee's words must hold: of an instance method of the class Cn, of a static one -/
def zKV (y : MethodName) (bytes : ByteArray) (mL : Nat) (ret : Option FieldType) (n : Nat) : Prop := (Cond.instanceMethod y ∈ zG ∧ Cond.selects y.cls y y ∈ zG ∧ Cond.initialized y.cls ∈ zG ∧ Cond.code y bytes mL ret ∈ zG) ∧ (y.cls ≠ "java/lang/invoke/MethodHandle" ∧ y.cls ≠ "java/lang/invoke/VarHandle" ∧ (parseMethodDescriptor y.desc).map (fun d => d.parameters.length) = some n) ∧ mL ≤ 26
def zKS (y : MethodName) (bytes : ByteArray) (mL : Nat) (ret : Option FieldType) (n : Nat) : Prop := (Cond.static y ∈ zG ∧ Cond.initialized y.cls ∈ zG ∧ Cond.code y bytes mL ret ∈ zG) ∧ (y.cls ≠ "java/lang/invoke/MethodHandle" ∧ y.cls ≠ "java/lang/invoke/VarHandle" ∧ (parseMethodDescriptor y.desc).map (fun d => d.parameters.length) = some n) ∧ mL ≤ 26
theorem zw_good2 {y : MethodName} {bytes : ByteArray} {mL : Nat} {ret : Option FieldType} (h : Cond.code y bytes mL ret ∈ zG) : GoodIn zG (.code y bytes mL ret :: zG) := zw_sub (fun w hw => (List.mem_cons.mp hw).elim (fun e => e ▸ h) id) (fun _ h => h)
theorem zw_callB (C : zC X E cc nL own rt d) {y : MethodName} {bytes : ByteArray} {mL : Nat} {ret : Option FieldType} {d' n idx : Nat} (hcode : Cond.code y bytes mL ret ∈ zG) (hini : Cond.initialized y.cls ∈ zG) (hk : y.cls ≠ "java/lang/invoke/MethodHandle" ∧ y.cls ≠ "java/lang/invoke/VarHandle" ∧ (parseMethodDescriptor y.desc).map (fun d => d.parameters.length) = some n) (hm : mL ≤ 26) (hdd : d' < d) (hlink : Cond.methodLink own idx y ∈ zG) : CallB X.2.2.2.1 X.2.2.2.2.1 X.2.2.2.2.2.2.1 own idx y bytes mL ret (.code y bytes mL ret :: zG) (zR d') 0 0 n := by
  have h9 := C.2.2.2.2.2.2.2.2.2.1
  refine callB_of n C.2.2.2.2.1 (zw_good2 hcode) rfl rfl rfl (C.2.2.2.2.1 _ hini) (C.2.2.2.2.1 _ hlink) hk ⟨?_, ?_⟩
  · show d' + 1 ≤ _
    omega
  · show 8 + (mL + 11) + 45 * d' ≤ _
    omega
theorem zw_preS (C : zC X E cc nL own rt d) {As : List Value} {H : Heap} (hP : va_P E.1 vwCl (zl E M) H) : PreS X.2.2.2.2.1 H (va_Pc As (zP E M)) As := ⟨zM_blind E M As, fun U hU hW => ⟨rfl, by rw [hU]; exact hP, va_K.moved hW.alike C.2.2.2.2.2.1, C.2.2.2.2.2.2.1.warm hW⟩⟩
theorem zw_preV (C : zC X E cc nL own rt d) {b ci : Nat} {q : vw_C} {fs : (Nat → Int32) → (Nat → Int64) → List Value} {As : List Value} {H : Heap} (hP : va_P E.1 vwCl (zl E M) H) (hb : b < 121) (hc : ∀ f g, zc E b f g = .inr (ci, fs f g)) (hcl : vwCl[ci]? = some q) : PreV X.2.2.2.2.1 H q.1 (E.2.1 b) (va_Pc (.ref (E.2.1 b) :: As) (zP E M)) As :=
  ⟨zM_blind E M _, va_recv C.2.2.2.2.2.1 hP hcl ((zl_at hb).trans (by rw [hc])), fun U hU hW => ⟨rfl, by rw [hU]; exact hP, va_K.moved hW.alike C.2.2.2.2.2.1, C.2.2.2.2.2.2.1.warm hW⟩⟩
theorem zw_callV (C : zC X E cc nL own rt d) {y : MethodName} {bytes : ByteArray} {mL : Nat} {ret : Option FieldType} {d' n idx b ci : Nat} {q : vw_C} {fs : (Nat → Int32) → (Nat → Int64) → List Value} {As st0 : List Value} {M1 : zM} {rv : Option Value} (hM : zMet X.2.1 E y bytes mL ret d' (.ref (E.2.1 b) :: As) M M1 rv) (hk : zKV y bytes mL ret n) (hlink : Cond.methodLink own idx y ∈ zG) (hdd : d' < d) (hb : b < 121) (hc : ∀ f g, zc E b f g = .inr (ci, fs f g)) (hcl : vwCl[ci]? = some q) (hq : q.1 = y.cls) (hn : As.length = n) (hst0 : st0 = As.reverse ++ .ref (E.2.1 b) :: st) (hst : (st.map fun v => v.category).sum ≤ 8) (hd : decode cc pc = .ok (.invokevirtual idx, 3)) (k : zW X E Q M1 (pc + 3) lv (rv.toList ++ st)) : zW X E Q M pc lv st0 :=
  zw_run (fun H locs ls hP h => va_runV (As := As) (rest := st) (nL := X.2.2.2.2.2.2.2.2.2.1.maxLocals) ⟨C.1, C.2.1, rfl, C.2.2.2.1, C.2.2.2.2.1⟩ hM ⟨zw_callB C hk.1.2.2.2 hk.1.2.2.1 hk.2.1 hk.2.2 hdd hlink, C.2.2.2.2.1 _ hk.1.1, C.2.2.2.2.1 _ (hq ▸ hk.1.2.1)⟩ (zw_preV C hP hb hc hcl) rfl hn h.1 hst0 (lv_room hst) hd ⟨C.2.2.2.2.2.2.2.2.1.1, C.2.2.2.2.2.2.2.2.1.2⟩) k
theorem zw_callS (C : zC X E cc nL own rt d) {y : MethodName} {bytes : ByteArray} {mL : Nat} {ret : Option FieldType} {d' n idx : Nat} {As st0 : List Value} {M1 : zM} {rv : Option Value} (hM : zMet X.2.1 E y bytes mL ret d' As M M1 rv) (hk : zKS y bytes mL ret n) (hlink : Cond.methodLink own idx y ∈ zG) (hdd : d' < d) (hn : As.length = n) (hst0 : st0 = As.reverse ++ st) (hst : (st.map fun v => v.category).sum ≤ 8) (hd : decode cc pc = .ok (.invokestatic idx, 3)) (k : zW X E Q M1 (pc + 3) lv (rv.toList ++ st)) : zW X E Q M pc lv st0 :=
  zw_run (fun H locs ls hP h => va_runS (As := As) (rest := st) (nL := X.2.2.2.2.2.2.2.2.2.1.maxLocals) ⟨C.1, C.2.1, rfl, C.2.2.2.1, C.2.2.2.2.1⟩ hM ⟨zw_callB C hk.1.2.2 hk.1.2.1 hk.2.1 hk.2.2 hdd hlink, C.2.2.2.2.1 _ hk.1.1⟩ (zw_preS C hP) rfl hn h.1 hst0 (lv_room hst) hd ⟨C.2.2.2.2.2.2.2.2.1.1, C.2.2.2.2.2.2.2.2.1.2⟩) k
theorem zw_callVi (C : zC X E cc nL own rt d) {y : MethodName} {bytes : ByteArray} {mL : Nat} {ret : Option FieldType} {d' n idx b ci : Nat} {q : vw_C} {fs : (Nat → Int32) → (Nat → Int64) → List Value} {As st0 : List Value} {M1 : zM} {v : Value} (hM : zMet X.2.1 E y bytes mL ret d' (.ref (E.2.1 b) :: As) M M1 (some v)) (hk : zKV y bytes mL ret n) (hlink : Cond.methodLink own idx y ∈ zG) (hdd : d' < d) (hb : b < 121) (hc : ∀ f g, zc E b f g = .inr (ci, fs f g)) (hcl : vwCl[ci]? = some q) (hq : q.1 = y.cls) (hn : As.length = n) (hst0 : st0 = As.reverse ++ .ref (E.2.1 b) :: st) (hst : (st.map fun v => v.category).sum ≤ 8) (hd : decode cc pc = .ok (.invokevirtual idx, 3)) (k : zW X E Q M1 (pc + 3) lv (v :: st)) : zW X E Q M pc lv st0 := zw_callV C hM hk hlink hdd hb hc hcl hq hn hst0 hst hd k
theorem zw_callVv (C : zC X E cc nL own rt d) {y : MethodName} {bytes : ByteArray} {mL : Nat} {ret : Option FieldType} {d' n idx b ci : Nat} {q : vw_C} {fs : (Nat → Int32) → (Nat → Int64) → List Value} {As st0 : List Value} {M1 : zM} (hM : zMet X.2.1 E y bytes mL ret d' (.ref (E.2.1 b) :: As) M M1 none) (hk : zKV y bytes mL ret n) (hlink : Cond.methodLink own idx y ∈ zG) (hdd : d' < d) (hb : b < 121) (hc : ∀ f g, zc E b f g = .inr (ci, fs f g)) (hcl : vwCl[ci]? = some q) (hq : q.1 = y.cls) (hn : As.length = n) (hst0 : st0 = As.reverse ++ .ref (E.2.1 b) :: st) (hst : (st.map fun v => v.category).sum ≤ 8) (hd : decode cc pc = .ok (.invokevirtual idx, 3)) (k : zW X E Q M1 (pc + 3) lv st) : zW X E Q M pc lv st0 := zw_callV C hM hk hlink hdd hb hc hcl hq hn hst0 hst hd k
theorem zw_callSi (C : zC X E cc nL own rt d) {y : MethodName} {bytes : ByteArray} {mL : Nat} {ret : Option FieldType} {d' n idx : Nat} {As st0 : List Value} {M1 : zM} {v : Value} (hM : zMet X.2.1 E y bytes mL ret d' As M M1 (some v)) (hk : zKS y bytes mL ret n) (hlink : Cond.methodLink own idx y ∈ zG) (hdd : d' < d) (hn : As.length = n) (hst0 : st0 = As.reverse ++ st) (hst : (st.map fun v => v.category).sum ≤ 8) (hd : decode cc pc = .ok (.invokestatic idx, 3)) (k : zW X E Q M1 (pc + 3) lv (v :: st)) : zW X E Q M pc lv st0 := zw_callS C hM hk hlink hdd hn hst0 hst hd k
theorem zw_callSv (C : zC X E cc nL own rt d) {y : MethodName} {bytes : ByteArray} {mL : Nat} {ret : Option FieldType} {d' n idx : Nat} {As st0 : List Value} {M1 : zM} (hM : zMet X.2.1 E y bytes mL ret d' As M M1 none) (hk : zKS y bytes mL ret n) (hlink : Cond.methodLink own idx y ∈ zG) (hdd : d' < d) (hn : As.length = n) (hst0 : st0 = As.reverse ++ st) (hst : (st.map fun v => v.category).sum ≤ 8) (hd : decode cc pc = .ok (.invokestatic idx, 3)) (k : zW X E Q M1 (pc + 3) lv st) : zW X E Q M pc lv st0 := zw_callS C hM hk hlink hdd hn hst0 hst hd k
end ZROWS
/-- what the walks take apart -/
def zcp (M : zM) (a0 a : Nat) (sp dp n : Int32) : zM := zr M a (va_cpy (M.1 a0) (M.1 a) sp.toNatClampNeg dp.toNatClampNeg n.toNatClampNeg)
def zbi {α β : Type} (a : Option (α × zM)) (k : α → zM → Option β) : Option β := match a with
  | none => none
  | some q => k q.1 q.2
def zbv {β : Type} (a : Option zM) (k : zM → Option β) : Option β := match a with
  | none => none
  | some q => k q
theorem zbi_e {α β : Type} {a : Option (α × zM)} {k : α → zM → Option β} {r : β} (h : zbi a k = some r) : ∃ x M1, a = some (x, M1) ∧ k x M1 = some r := by
  cases a with
  | none => cases h
  | some q => exact ⟨q.1, q.2, rfl, h⟩
theorem zbv_e {β : Type} {a : Option zM} {k : zM → Option β} {r : β} (h : zbv a k = some r) : ∃ M1, a = some M1 ∧ k M1 = some r := by
  cases a with
  | none => cases h
  | some q => exact ⟨q, rfl, h⟩
def zbo (v : Int32) : Bool := decide (v = 0 ∨ v = 1)
theorem zbo_e {v : Int32} (h : zbo v = true) : narrow .boolean (.int v) = .int v := by
  have h2 : v = 0 ∨ v = 1 := of_decide_eq_true h
  rcases h2 with rfl | rfl <;> rfl
def znz (v : Int32) : Bool := decide (¬ v = 0)
theorem znz_e {v : Int32} (h : znz v = true) : ¬ v = 0 := of_decide_eq_true h
def znL (v : Int64) : Bool := decide (¬ v = 0)
theorem znL_e {v : Int64} (h : znL v = true) : ¬ v = 0 := of_decide_eq_true h
/-- the steps that a loop may take -/
def zFU : Nat := 2000
def zg {α : Type} (b : Bool) (k : Option α) : Option α := if b = true then k else none
def zin (i : Int32) (n : Nat) : Bool := decide (¬ (i < 0 ∨ n ≤ i.toNatClampNeg))
theorem zg_e {α : Type} {b : Bool} {k : Option α} {r : α} (h : zg b k = some r) : b = true ∧ k = some r := by
  cases b with
  | false => cases h
  | true => exact ⟨rfl, h⟩
theorem zin_e {i : Int32} {n : Nat} (h : zin i n = true) : vp_in i n := by
  have h2 : ¬ (i < 0 ∨ n ≤ i.toNatClampNeg) := of_decide_eq_true h
  exact h2
theorem zt_ {α : Type} {c : Prop} [Decidable c] {a b : Option α} {r : Option α} (hc : c) (h : (if c then a else b) = r) : a = r := by rw [if_pos hc] at h; exact h
theorem zf_ {α : Type} {c : Prop} [Decidable c] {a b : Option α} {r : Option α} (hc : ¬ c) (h : (if c then a else b) = r) : b = r := by rw [if_neg hc] at h; exact h
theorem zb_ {α β : Type} {a : Option α} {f : α → Option β} {r : β} (h : a.bind f = some r) : ∃ x, a = some x ∧ f x = some r := Option.bind_eq_some_iff.mp h
theorem zs_ {α : Type} {a b : α} (h : some a = some b) : a = b := Option.some.inj h
theorem zc_0 (E : zE) (f : Nat → Int32) (g : Nat → Int64) : zc E 0 f g = .inr (11, zdo E.2.1) := rfl
theorem zc_1 (E : zE) (f : Nat → Int32) (g : Nat → Int64) : zc E 1 f g = .inr (10, ztx E.2.1 f) := rfl
theorem zc_9 (E : zE) (f : Nat → Int32) (g : Nat → Int64) : zc E 9 f g = .inr (6, zpa E.2.1 f) := rfl
theorem zc_13 (E : zE) (f : Nat → Int32) (g : Nat → Int64) : zc E 13 f g = .inr (8, zsi E.2.1 f) := rfl
theorem zc_25 (E : zE) (f : Nat → Int32) (g : Nat → Int64) : zc E 25 f g = .inr (12, zmd E.2.1 f g) := rfl
theorem zpp_3 : zpp 3 := Or.inl rfl
theorem zpp_6 : zpp 6 := Or.inr rfl
theorem zmp_37 : zmp 37 := ⟨by decide, by decide, by decide⟩
theorem zmp_43 : zmp 43 := ⟨by decide, by decide, by decide⟩
theorem zmp_past {j : Nat} (h : j < 10) : zmp (49 + 6 * j) := ⟨by omega, by omega, by omega⟩
theorem zmp_img {j : Nat} (h : j < 2) : zmp (109 + 6 * j) := ⟨by omega, by omega, by omega⟩
theorem zia_2 : zia 2 100 := ⟨by decide, fun _ _ _ => rfl⟩
theorem zia_4 : zia 4 6 := ⟨by decide, fun _ _ _ => rfl⟩
theorem zia_5 : zia 5 6 := ⟨by decide, fun _ _ _ => rfl⟩
theorem zia_7 : zia 7 6 := ⟨by decide, fun _ _ _ => rfl⟩
theorem zia_8 : zia 8 6 := ⟨by decide, fun _ _ _ => rfl⟩
theorem zia_14 : zia 14 6 := ⟨by decide, fun _ _ _ => rfl⟩
theorem zia_15 : zia 15 6 := ⟨by decide, fun _ _ _ => rfl⟩
theorem zia_16 : zia 16 6 := ⟨by decide, fun _ _ _ => rfl⟩
theorem zia_26 : zia 26 6 := ⟨by decide, fun _ _ _ => rfl⟩
theorem zia_27 : zia 27 6 := ⟨by decide, fun _ _ _ => rfl⟩
theorem zia_28 : zia 28 47 := ⟨by decide, fun _ _ _ => rfl⟩
theorem zia_29 : zia 29 47 := ⟨by decide, fun _ _ _ => rfl⟩
theorem zia_30 : zia 30 470 := ⟨by decide, fun _ _ _ => rfl⟩
theorem zia_31 : zia 31 94 := ⟨by decide, fun _ _ _ => rfl⟩
theorem zia_33 : zia 33 18 := ⟨by decide, fun _ _ _ => rfl⟩
theorem zia_34 : zia 34 100 := ⟨by decide, fun _ _ _ => rfl⟩
theorem zia_35 : zia 35 6 := ⟨by decide, fun _ _ _ => rfl⟩
theorem zia_36 : zia 36 6 := ⟨by decide, fun _ _ _ => rfl⟩
theorem zza_12 : zza 12 2 := ⟨by decide, fun _ _ _ => rfl⟩
theorem zza_32 : zza 32 2 := ⟨by decide, fun _ _ _ => rfl⟩
theorem zja_17 : zja 17 82 := ⟨by decide, fun _ _ _ => rfl⟩
theorem zqa_10 : zqa 10 10 3 "WingDoor$Moment" (fun j => 49 + 6 * j) := ⟨by decide, fun _ => rfl, fun _ _ _ => rfl⟩
theorem zqa_11 : zqa 11 2 3 "WingDoor$Moment" (fun j => 109 + 6 * j) := ⟨by decide, fun _ => rfl, fun _ _ _ => rfl⟩
theorem zqa_18 : zqa 18 6 4 "WingDoor$DoorKind" (fun j => 19 + j) := ⟨by decide, fun _ => rfl, fun _ _ _ => rfl⟩
end
