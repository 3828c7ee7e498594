section
/-- a private method of a class that the tables say can be made, by its rows of tables_1 -/
def lw_okq (q : MethodName × Nat) : Prop := (q.1.cls ≠ "java/lang/invoke/MethodHandle" ∧ q.1.cls ≠ "java/lang/invoke/VarHandle") ∧ Cond.instantiable q.1.cls q.2 ∈ tables_1 ∧ Cond.privateMethod q.1 ∈ tables_1 ∧ Cond.instanceMethod q.1 ∈ tables_1
theorem lw_p0 : lw_okq (⟨"WingDoor$Text", "readToken", "()V"⟩, 7) := ⟨⟨by decide +kernel, by decide +kernel⟩, List.mem_of_getElem? (i := 27) (by decide +kernel), List.mem_of_getElem? (i := 297) (by decide +kernel), List.mem_of_getElem? (i := 298) (by decide +kernel)⟩
theorem lw_p1 : lw_okq (⟨"WingDoor$Text", "readDigits", "()V"⟩, 7) := ⟨⟨by decide +kernel, by decide +kernel⟩, List.mem_of_getElem? (i := 27) (by decide +kernel), List.mem_of_getElem? (i := 301) (by decide +kernel), List.mem_of_getElem? (i := 302) (by decide +kernel)⟩
theorem lw_p2 : lw_okq (⟨"WingDoor$Text", "readItem", "(LWingDoor$Plan;I)Z"⟩, 7) := ⟨⟨by decide +kernel, by decide +kernel⟩, List.mem_of_getElem? (i := 27) (by decide +kernel), List.mem_of_getElem? (i := 305) (by decide +kernel), List.mem_of_getElem? (i := 306) (by decide +kernel)⟩
theorem lw_p3 : lw_okq (⟨"WingDoor$Text", "readRooms", "(LWingDoor$Plan;)Z"⟩, 7) := ⟨⟨by decide +kernel, by decide +kernel⟩, List.mem_of_getElem? (i := 27) (by decide +kernel), List.mem_of_getElem? (i := 309) (by decide +kernel), List.mem_of_getElem? (i := 310) (by decide +kernel)⟩
theorem lw_p4 : lw_okq (⟨"WingDoor$Text", "readNumber", "(II)Z"⟩, 7) := ⟨⟨by decide +kernel, by decide +kernel⟩, List.mem_of_getElem? (i := 27) (by decide +kernel), List.mem_of_getElem? (i := 313) (by decide +kernel), List.mem_of_getElem? (i := 314) (by decide +kernel)⟩
theorem lw_p5 : lw_okq (⟨"WingDoor$Text", "readSemicolon", "()Z"⟩, 7) := ⟨⟨by decide +kernel, by decide +kernel⟩, List.mem_of_getElem? (i := 27) (by decide +kernel), List.mem_of_getElem? (i := 317) (by decide +kernel), List.mem_of_getElem? (i := 318) (by decide +kernel)⟩
theorem lw_p6 : lw_okq (⟨"WingDoor$Text", "readHard", "(LWingDoor$Plan;)Z"⟩, 7) := ⟨⟨by decide +kernel, by decide +kernel⟩, List.mem_of_getElem? (i := 27) (by decide +kernel), List.mem_of_getElem? (i := 321) (by decide +kernel), List.mem_of_getElem? (i := 322) (by decide +kernel)⟩
theorem lw_p7 : lw_okq (⟨"WingDoor$Text", "readSort", "(LWingDoor$Plan;)Z"⟩, 7) := ⟨⟨by decide +kernel, by decide +kernel⟩, List.mem_of_getElem? (i := 27) (by decide +kernel), List.mem_of_getElem? (i := 325) (by decide +kernel), List.mem_of_getElem? (i := 326) (by decide +kernel)⟩
theorem lw_p8 : lw_okq (⟨"WingDoor", "whenNow", "(I)I"⟩, 11) := ⟨⟨by decide +kernel, by decide +kernel⟩, List.mem_of_getElem? (i := 19) (by decide +kernel), List.mem_of_getElem? (i := 377) (by decide +kernel), List.mem_of_getElem? (i := 378) (by decide +kernel)⟩
theorem lw_p9 : lw_okq (⟨"WingDoor$Moment", "carry", "(I)Z"⟩, 8) := ⟨⟨by decide +kernel, by decide +kernel⟩, List.mem_of_getElem? (i := 97) (by decide +kernel), List.mem_of_getElem? (i := 417) (by decide +kernel), List.mem_of_getElem? (i := 418) (by decide +kernel)⟩
theorem lw_p10 : lw_okq (⟨"WingDoor$Moment", "fill", "()V"⟩, 8) := ⟨⟨by decide +kernel, by decide +kernel⟩, List.mem_of_getElem? (i := 97) (by decide +kernel), List.mem_of_getElem? (i := 429) (by decide +kernel), List.mem_of_getElem? (i := 430) (by decide +kernel)⟩
theorem lw_p11 : lw_okq (⟨"WingDoor", "sticksNow", "()I"⟩, 11) := ⟨⟨by decide +kernel, by decide +kernel⟩, List.mem_of_getElem? (i := 19) (by decide +kernel), List.mem_of_getElem? (i := 461) (by decide +kernel), List.mem_of_getElem? (i := 462) (by decide +kernel)⟩
theorem lw_p12 : lw_okq (⟨"WingDoor", "allNow", "()I"⟩, 11) := ⟨⟨by decide +kernel, by decide +kernel⟩, List.mem_of_getElem? (i := 19) (by decide +kernel), List.mem_of_getElem? (i := 469) (by decide +kernel), List.mem_of_getElem? (i := 470) (by decide +kernel)⟩
theorem lw_p13 : lw_okq (⟨"WingDoor", "bestHelper", "(IZ)I"⟩, 11) := ⟨⟨by decide +kernel, by decide +kernel⟩, List.mem_of_getElem? (i := 19) (by decide +kernel), List.mem_of_getElem? (i := 527) (by decide +kernel), List.mem_of_getElem? (i := 528) (by decide +kernel)⟩
theorem lw_p14 : lw_okq (⟨"WingDoor", "waysToGo", "(I)J"⟩, 11) := ⟨⟨by decide +kernel, by decide +kernel⟩, List.mem_of_getElem? (i := 19) (by decide +kernel), List.mem_of_getElem? (i := 540) (by decide +kernel), List.mem_of_getElem? (i := 541) (by decide +kernel)⟩
theorem lw_p15 : lw_okq (⟨"WingDoor", "addPusher", "(III)I"⟩, 11) := ⟨⟨by decide +kernel, by decide +kernel⟩, List.mem_of_getElem? (i := 19) (by decide +kernel), List.mem_of_getElem? (i := 551) (by decide +kernel), List.mem_of_getElem? (i := 552) (by decide +kernel)⟩
def lw_privs_1 : List (MethodName × Nat) := [(⟨"WingDoor$Text", "readToken", "()V"⟩, 7), (⟨"WingDoor$Text", "readDigits", "()V"⟩, 7), (⟨"WingDoor$Text", "readItem", "(LWingDoor$Plan;I)Z"⟩, 7), (⟨"WingDoor$Text", "readRooms", "(LWingDoor$Plan;)Z"⟩, 7), (⟨"WingDoor$Text", "readNumber", "(II)Z"⟩, 7), (⟨"WingDoor$Text", "readSemicolon", "()Z"⟩, 7), (⟨"WingDoor$Text", "readHard", "(LWingDoor$Plan;)Z"⟩, 7), (⟨"WingDoor$Text", "readSort", "(LWingDoor$Plan;)Z"⟩, 7), (⟨"WingDoor", "whenNow", "(I)I"⟩, 11), (⟨"WingDoor$Moment", "carry", "(I)Z"⟩, 8), (⟨"WingDoor$Moment", "fill", "()V"⟩, 8), (⟨"WingDoor", "sticksNow", "()I"⟩, 11), (⟨"WingDoor", "allNow", "()I"⟩, 11), (⟨"WingDoor", "bestHelper", "(IZ)I"⟩, 11), (⟨"WingDoor", "waysToGo", "(I)J"⟩, 11), (⟨"WingDoor", "addPusher", "(III)I"⟩, 11)]
theorem lw_r1 : ∀ q ∈ lw_privs_1, lw_okq q := List.forall_mem_cons.mpr ⟨lw_p0, List.forall_mem_cons.mpr ⟨lw_p1, List.forall_mem_cons.mpr ⟨lw_p2, List.forall_mem_cons.mpr ⟨lw_p3, List.forall_mem_cons.mpr ⟨lw_p4, List.forall_mem_cons.mpr ⟨lw_p5, List.forall_mem_cons.mpr ⟨lw_p6, List.forall_mem_cons.mpr ⟨lw_p7, List.forall_mem_cons.mpr ⟨lw_p8, List.forall_mem_cons.mpr ⟨lw_p9, List.forall_mem_cons.mpr ⟨lw_p10, List.forall_mem_cons.mpr ⟨lw_p11, List.forall_mem_cons.mpr ⟨lw_p12, List.forall_mem_cons.mpr ⟨lw_p13, List.forall_mem_cons.mpr ⟨lw_p14, List.forall_mem_cons.mpr ⟨lw_p15, fun _ h => absurd h List.not_mem_nil⟩⟩⟩⟩⟩⟩⟩⟩⟩⟩⟩⟩⟩⟩⟩⟩
theorem lw_p16 : lw_okq (⟨"WingDoor$Sightings", "allIsSoOf", "(I)Z"⟩, 5) := ⟨⟨by decide +kernel, by decide +kernel⟩, List.mem_of_getElem? (i := 155) (by decide +kernel), List.mem_of_getElem? (i := 590) (by decide +kernel), List.mem_of_getElem? (i := 591) (by decide +kernel)⟩
theorem lw_p17 : lw_okq (⟨"WingDoorModel", "reads", "()I"⟩, 27) := ⟨⟨by decide +kernel, by decide +kernel⟩, List.mem_of_getElem? (i := 670) (by decide +kernel), List.mem_of_getElem? (i := 774) (by decide +kernel), List.mem_of_getElem? (i := 775) (by decide +kernel)⟩
theorem lw_p18 : lw_okq (⟨"WingDoorModel", "nextToken", "()V"⟩, 27) := ⟨⟨by decide +kernel, by decide +kernel⟩, List.mem_of_getElem? (i := 670) (by decide +kernel), List.mem_of_getElem? (i := 778) (by decide +kernel), List.mem_of_getElem? (i := 779) (by decide +kernel)⟩
theorem lw_p19 : lw_okq (⟨"WingDoorModel", "here", "()I"⟩, 27) := ⟨⟨by decide +kernel, by decide +kernel⟩, List.mem_of_getElem? (i := 670) (by decide +kernel), List.mem_of_getElem? (i := 782) (by decide +kernel), List.mem_of_getElem? (i := 783) (by decide +kernel)⟩
theorem lw_p20 : lw_okq (⟨"WingDoorModel", "isFigure", "()Z"⟩, 27) := ⟨⟨by decide +kernel, by decide +kernel⟩, List.mem_of_getElem? (i := 670) (by decide +kernel), List.mem_of_getElem? (i := 786) (by decide +kernel), List.mem_of_getElem? (i := 787) (by decide +kernel)⟩
theorem lw_p21 : lw_okq (⟨"WingDoorModel", "readsFigures", "()V"⟩, 27) := ⟨⟨by decide +kernel, by decide +kernel⟩, List.mem_of_getElem? (i := 670) (by decide +kernel), List.mem_of_getElem? (i := 792) (by decide +kernel), List.mem_of_getElem? (i := 793) (by decide +kernel)⟩
theorem lw_p22 : lw_okq (⟨"WingDoorModel", "isItem", "(I)Z"⟩, 27) := ⟨⟨by decide +kernel, by decide +kernel⟩, List.mem_of_getElem? (i := 670) (by decide +kernel), List.mem_of_getElem? (i := 796) (by decide +kernel), List.mem_of_getElem? (i := 797) (by decide +kernel)⟩
theorem lw_p23 : lw_okq (⟨"WingDoorModel", "isRooms", "()Z"⟩, 27) := ⟨⟨by decide +kernel, by decide +kernel⟩, List.mem_of_getElem? (i := 670) (by decide +kernel), List.mem_of_getElem? (i := 800) (by decide +kernel), List.mem_of_getElem? (i := 801) (by decide +kernel)⟩
theorem lw_p24 : lw_okq (⟨"WingDoorModel", "number", "(II)Z"⟩, 27) := ⟨⟨by decide +kernel, by decide +kernel⟩, List.mem_of_getElem? (i := 670) (by decide +kernel), List.mem_of_getElem? (i := 804) (by decide +kernel), List.mem_of_getElem? (i := 805) (by decide +kernel)⟩
theorem lw_p25 : lw_okq (⟨"WingDoorModel", "isHard", "()Z"⟩, 27) := ⟨⟨by decide +kernel, by decide +kernel⟩, List.mem_of_getElem? (i := 670) (by decide +kernel), List.mem_of_getElem? (i := 808) (by decide +kernel), List.mem_of_getElem? (i := 809) (by decide +kernel)⟩
theorem lw_p26 : lw_okq (⟨"WingDoorModel", "isSort", "()Z"⟩, 27) := ⟨⟨by decide +kernel, by decide +kernel⟩, List.mem_of_getElem? (i := 670) (by decide +kernel), List.mem_of_getElem? (i := 812) (by decide +kernel), List.mem_of_getElem? (i := 813) (by decide +kernel)⟩
theorem lw_p27 : lw_okq (⟨"WingDoorModel", "isGoer", "(I)Z"⟩, 27) := ⟨⟨by decide +kernel, by decide +kernel⟩, List.mem_of_getElem? (i := 670) (by decide +kernel), List.mem_of_getElem? (i := 827) (by decide +kernel), List.mem_of_getElem? (i := 828) (by decide +kernel)⟩
theorem lw_p28 : lw_okq (⟨"WingDoorModel", "when", "(I)I"⟩, 27) := ⟨⟨by decide +kernel, by decide +kernel⟩, List.mem_of_getElem? (i := 670) (by decide +kernel), List.mem_of_getElem? (i := 834) (by decide +kernel), List.mem_of_getElem? (i := 835) (by decide +kernel)⟩
theorem lw_p29 : lw_okq (⟨"WingDoorModel", "layAside", "()V"⟩, 27) := ⟨⟨by decide +kernel, by decide +kernel⟩, List.mem_of_getElem? (i := 670) (by decide +kernel), List.mem_of_getElem? (i := 838) (by decide +kernel), List.mem_of_getElem? (i := 839) (by decide +kernel)⟩
theorem lw_p30 : lw_okq (⟨"WingDoorModel", "whenAside", "(I)I"⟩, 27) := ⟨⟨by decide +kernel, by decide +kernel⟩, List.mem_of_getElem? (i := 670) (by decide +kernel), List.mem_of_getElem? (i := 842) (by decide +kernel), List.mem_of_getElem? (i := 843) (by decide +kernel)⟩
theorem lw_p31 : lw_okq (⟨"WingDoorModel", "goes", "([I)I"⟩, 27) := ⟨⟨by decide +kernel, by decide +kernel⟩, List.mem_of_getElem? (i := 670) (by decide +kernel), List.mem_of_getElem? (i := 846) (by decide +kernel), List.mem_of_getElem? (i := 847) (by decide +kernel)⟩
def lw_privs_2 : List (MethodName × Nat) := [(⟨"WingDoor$Sightings", "allIsSoOf", "(I)Z"⟩, 5), (⟨"WingDoorModel", "reads", "()I"⟩, 27), (⟨"WingDoorModel", "nextToken", "()V"⟩, 27), (⟨"WingDoorModel", "here", "()I"⟩, 27), (⟨"WingDoorModel", "isFigure", "()Z"⟩, 27), (⟨"WingDoorModel", "readsFigures", "()V"⟩, 27), (⟨"WingDoorModel", "isItem", "(I)Z"⟩, 27), (⟨"WingDoorModel", "isRooms", "()Z"⟩, 27), (⟨"WingDoorModel", "number", "(II)Z"⟩, 27), (⟨"WingDoorModel", "isHard", "()Z"⟩, 27), (⟨"WingDoorModel", "isSort", "()Z"⟩, 27), (⟨"WingDoorModel", "isGoer", "(I)Z"⟩, 27), (⟨"WingDoorModel", "when", "(I)I"⟩, 27), (⟨"WingDoorModel", "layAside", "()V"⟩, 27), (⟨"WingDoorModel", "whenAside", "(I)I"⟩, 27), (⟨"WingDoorModel", "goes", "([I)I"⟩, 27)]
theorem lw_r2 : ∀ q ∈ lw_privs_2, lw_okq q := List.forall_mem_cons.mpr ⟨lw_p16, List.forall_mem_cons.mpr ⟨lw_p17, List.forall_mem_cons.mpr ⟨lw_p18, List.forall_mem_cons.mpr ⟨lw_p19, List.forall_mem_cons.mpr ⟨lw_p20, List.forall_mem_cons.mpr ⟨lw_p21, List.forall_mem_cons.mpr ⟨lw_p22, List.forall_mem_cons.mpr ⟨lw_p23, List.forall_mem_cons.mpr ⟨lw_p24, List.forall_mem_cons.mpr ⟨lw_p25, List.forall_mem_cons.mpr ⟨lw_p26, List.forall_mem_cons.mpr ⟨lw_p27, List.forall_mem_cons.mpr ⟨lw_p28, List.forall_mem_cons.mpr ⟨lw_p29, List.forall_mem_cons.mpr ⟨lw_p30, List.forall_mem_cons.mpr ⟨lw_p31, fun _ h => absurd h List.not_mem_nil⟩⟩⟩⟩⟩⟩⟩⟩⟩⟩⟩⟩⟩⟩⟩⟩
theorem lw_p32 : lw_okq (⟨"WingDoorModel", "sticksOn", "([I)Z"⟩, 27) := ⟨⟨by decide +kernel, by decide +kernel⟩, List.mem_of_getElem? (i := 670) (by decide +kernel), List.mem_of_getElem? (i := 850) (by decide +kernel), List.mem_of_getElem? (i := 851) (by decide +kernel)⟩
theorem lw_p33 : lw_okq (⟨"WingDoorModel", "loadOn", "([I)I"⟩, 27) := ⟨⟨by decide +kernel, by decide +kernel⟩, List.mem_of_getElem? (i := 670) (by decide +kernel), List.mem_of_getElem? (i := 857) (by decide +kernel), List.mem_of_getElem? (i := 858) (by decide +kernel)⟩
theorem lw_p34 : lw_okq (⟨"WingDoorModel", "dragOn", "([I)I"⟩, 27) := ⟨⟨by decide +kernel, by decide +kernel⟩, List.mem_of_getElem? (i := 670) (by decide +kernel), List.mem_of_getElem? (i := 861) (by decide +kernel), List.mem_of_getElem? (i := 862) (by decide +kernel)⟩
theorem lw_p35 : lw_okq (⟨"WingDoorModel", "placeOf", "(I)I"⟩, 27) := ⟨⟨by decide +kernel, by decide +kernel⟩, List.mem_of_getElem? (i := 670) (by decide +kernel), List.mem_of_getElem? (i := 868) (by decide +kernel), List.mem_of_getElem? (i := 869) (by decide +kernel)⟩
theorem lw_p36 : lw_okq (⟨"WingDoorModel", "fills", "([I)V"⟩, 27) := ⟨⟨by decide +kernel, by decide +kernel⟩, List.mem_of_getElem? (i := 670) (by decide +kernel), List.mem_of_getElem? (i := 872) (by decide +kernel), List.mem_of_getElem? (i := 873) (by decide +kernel)⟩
theorem lw_p37 : lw_okq (⟨"WingDoorModel", "bulkIn", "([II)I"⟩, 27) := ⟨⟨by decide +kernel, by decide +kernel⟩, List.mem_of_getElem? (i := 670) (by decide +kernel), List.mem_of_getElem? (i := 879) (by decide +kernel), List.mem_of_getElem? (i := 880) (by decide +kernel)⟩
theorem lw_p38 : lw_okq (⟨"WingDoorModel", "bulkOf", "([II)I"⟩, 27) := ⟨⟨by decide +kernel, by decide +kernel⟩, List.mem_of_getElem? (i := 670) (by decide +kernel), List.mem_of_getElem? (i := 889) (by decide +kernel), List.mem_of_getElem? (i := 890) (by decide +kernel)⟩
theorem lw_p39 : lw_okq (⟨"WingDoorModel", "sticksFirst", "()I"⟩, 27) := ⟨⟨by decide +kernel, by decide +kernel⟩, List.mem_of_getElem? (i := 670) (by decide +kernel), List.mem_of_getElem? (i := 904) (by decide +kernel), List.mem_of_getElem? (i := 905) (by decide +kernel)⟩
theorem lw_p40 : lw_okq (⟨"WingDoorModel", "allOut", "()I"⟩, 27) := ⟨⟨by decide +kernel, by decide +kernel⟩, List.mem_of_getElem? (i := 670) (by decide +kernel), List.mem_of_getElem? (i := 908) (by decide +kernel), List.mem_of_getElem? (i := 909) (by decide +kernel)⟩
theorem lw_p41 : lw_okq (⟨"WingDoorModel", "notes", "()V"⟩, 27) := ⟨⟨by decide +kernel, by decide +kernel⟩, List.mem_of_getElem? (i := 670) (by decide +kernel), List.mem_of_getElem? (i := 916) (by decide +kernel), List.mem_of_getElem? (i := 917) (by decide +kernel)⟩
theorem lw_p42 : lw_okq (⟨"WingDoorModel", "best", "(IZ)I"⟩, 27) := ⟨⟨by decide +kernel, by decide +kernel⟩, List.mem_of_getElem? (i := 670) (by decide +kernel), List.mem_of_getElem? (i := 946) (by decide +kernel), List.mem_of_getElem? (i := 947) (by decide +kernel)⟩
theorem lw_p43 : lw_okq (⟨"WingDoorModel", "of", "(II)I"⟩, 27) := ⟨⟨by decide +kernel, by decide +kernel⟩, List.mem_of_getElem? (i := 670) (by decide +kernel), List.mem_of_getElem? (i := 976) (by decide +kernel), List.mem_of_getElem? (i := 977) (by decide +kernel)⟩
theorem lw_p44 : lw_okq (⟨"WingDoorModel", "asDoor", "(I)I"⟩, 27) := ⟨⟨by decide +kernel, by decide +kernel⟩, List.mem_of_getElem? (i := 670) (by decide +kernel), List.mem_of_getElem? (i := 990) (by decide +kernel), List.mem_of_getElem? (i := 991) (by decide +kernel)⟩
theorem lw_p45 : lw_okq (⟨"WingDoorModel", "asBank", "(I)I"⟩, 27) := ⟨⟨by decide +kernel, by decide +kernel⟩, List.mem_of_getElem? (i := 670) (by decide +kernel), List.mem_of_getElem? (i := 994) (by decide +kernel), List.mem_of_getElem? (i := 995) (by decide +kernel)⟩
theorem lw_p46 : lw_okq (⟨"WingDoorModel", "asHotel", "(I)I"⟩, 27) := ⟨⟨by decide +kernel, by decide +kernel⟩, List.mem_of_getElem? (i := 670) (by decide +kernel), List.mem_of_getElem? (i := 998) (by decide +kernel), List.mem_of_getElem? (i := 999) (by decide +kernel)⟩
def lw_privs_3 : List (MethodName × Nat) := [(⟨"WingDoorModel", "sticksOn", "([I)Z"⟩, 27), (⟨"WingDoorModel", "loadOn", "([I)I"⟩, 27), (⟨"WingDoorModel", "dragOn", "([I)I"⟩, 27), (⟨"WingDoorModel", "placeOf", "(I)I"⟩, 27), (⟨"WingDoorModel", "fills", "([I)V"⟩, 27), (⟨"WingDoorModel", "bulkIn", "([II)I"⟩, 27), (⟨"WingDoorModel", "bulkOf", "([II)I"⟩, 27), (⟨"WingDoorModel", "sticksFirst", "()I"⟩, 27), (⟨"WingDoorModel", "allOut", "()I"⟩, 27), (⟨"WingDoorModel", "notes", "()V"⟩, 27), (⟨"WingDoorModel", "best", "(IZ)I"⟩, 27), (⟨"WingDoorModel", "of", "(II)I"⟩, 27), (⟨"WingDoorModel", "asDoor", "(I)I"⟩, 27), (⟨"WingDoorModel", "asBank", "(I)I"⟩, 27), (⟨"WingDoorModel", "asHotel", "(I)I"⟩, 27)]
theorem lw_r3 : ∀ q ∈ lw_privs_3, lw_okq q := List.forall_mem_cons.mpr ⟨lw_p32, List.forall_mem_cons.mpr ⟨lw_p33, List.forall_mem_cons.mpr ⟨lw_p34, List.forall_mem_cons.mpr ⟨lw_p35, List.forall_mem_cons.mpr ⟨lw_p36, List.forall_mem_cons.mpr ⟨lw_p37, List.forall_mem_cons.mpr ⟨lw_p38, List.forall_mem_cons.mpr ⟨lw_p39, List.forall_mem_cons.mpr ⟨lw_p40, List.forall_mem_cons.mpr ⟨lw_p41, List.forall_mem_cons.mpr ⟨lw_p42, List.forall_mem_cons.mpr ⟨lw_p43, List.forall_mem_cons.mpr ⟨lw_p44, List.forall_mem_cons.mpr ⟨lw_p45, List.forall_mem_cons.mpr ⟨lw_p46, fun _ h => absurd h List.not_mem_nil⟩⟩⟩⟩⟩⟩⟩⟩⟩⟩⟩⟩⟩⟩⟩
def lw_privs : List (MethodName × Nat) := lw_privs_1 ++ (lw_privs_2 ++ (lw_privs_3))
def lw_tbl : List Cond := k2_sels lw_privs ++ tables_1
theorem lw_privs_ok : ∀ q ∈ lw_privs, lw_okq q := by
  show ∀ q ∈ lw_privs_1 ++ (lw_privs_2 ++ (lw_privs_3)), lw_okq q
  exact List.forall_mem_append.mpr ⟨lw_r1, List.forall_mem_append.mpr ⟨lw_r2, lw_r3⟩⟩
end
section
def RX0 : String := "WingDoor$BankKind"
def TX0 : u_T := fun k => match k with
  | _ => ("WingDoor$DoorKind", "noted", "J", false)
def tyX0 : Nat → FieldType := fun k => match k with
  | _ => .long
abbrev wsX00 : List Cond := u_ws RX0 TX0 1
theorem nmX0 : ∀ a, a < 1 → ∀ b, b < 1 → a ≠ b → (TX0 a).2.1 ≠ (TX0 b).2.1 := by decide +kernel
theorem tyX0_ok : ∀ k, k < 1 → parseFieldDescriptor (TX0 k).2.2.1 = some (tyX0 k) := by decide +kernel
abbrev cX0_init : ByteArray := prog_2_method_1_code
def yX0_init : MethodName := ⟨RX0, "<init>", "()V"⟩
abbrev cX0_worth : ByteArray := prog_2_method_2_code
def yX0_worth : MethodName := ⟨RX0, "worth", "(LWingDoor$Moment;I)I"⟩
def RX1 : String := "WingDoor$CourtKind"
def TX1 : u_T := fun k => match k with
  | _ => ("WingDoor$DoorKind", "noted", "J", false)
def tyX1 : Nat → FieldType := fun k => match k with
  | _ => .long
abbrev wsX10 : List Cond := u_ws RX1 TX1 1
theorem nmX1 : ∀ a, a < 1 → ∀ b, b < 1 → a ≠ b → (TX1 a).2.1 ≠ (TX1 b).2.1 := by decide +kernel
theorem tyX1_ok : ∀ k, k < 1 → parseFieldDescriptor (TX1 k).2.2.1 = some (tyX1 k) := by decide +kernel
abbrev cX1_init : ByteArray := prog_3_method_1_code
def yX1_init : MethodName := ⟨RX1, "<init>", "()V"⟩
abbrev cX1_worth : ByteArray := prog_3_method_2_code
def yX1_worth : MethodName := ⟨RX1, "worth", "(LWingDoor$Moment;I)I"⟩
def RX2 : String := "WingDoor$DoorKind"
def TX2 : u_T := fun k => match k with
  | _ => ("WingDoor$DoorKind", "noted", "J", false)
def tyX2 : Nat → FieldType := fun k => match k with
  | _ => .long
abbrev wsX20 : List Cond := u_ws RX2 TX2 1
theorem nmX2 : ∀ a, a < 1 → ∀ b, b < 1 → a ≠ b → (TX2 a).2.1 ≠ (TX2 b).2.1 := by decide +kernel
theorem tyX2_ok : ∀ k, k < 1 → parseFieldDescriptor (TX2 k).2.2.1 = some (tyX2 k) := by decide +kernel
abbrev cX2_init : ByteArray := prog_4_method_1_code
def yX2_init : MethodName := ⟨RX2, "<init>", "()V"⟩
abbrev cX2_worth : ByteArray := prog_4_method_2_code
def yX2_worth : MethodName := ⟨RX2, "worth", "(LWingDoor$Moment;I)I"⟩
def RX3 : String := "WingDoor$GrandKind"
def TX3 : u_T := fun k => match k with
  | _ => ("WingDoor$DoorKind", "noted", "J", false)
def tyX3 : Nat → FieldType := fun k => match k with
  | _ => .long
abbrev wsX30 : List Cond := u_ws RX3 TX3 1
theorem nmX3 : ∀ a, a < 1 → ∀ b, b < 1 → a ≠ b → (TX3 a).2.1 ≠ (TX3 b).2.1 := by decide +kernel
theorem tyX3_ok : ∀ k, k < 1 → parseFieldDescriptor (TX3 k).2.2.1 = some (tyX3 k) := by decide +kernel
abbrev cX3_init : ByteArray := prog_5_method_1_code
def yX3_init : MethodName := ⟨RX3, "<init>", "()V"⟩
abbrev cX3_worth : ByteArray := prog_5_method_2_code
def yX3_worth : MethodName := ⟨RX3, "worth", "(LWingDoor$Moment;I)I"⟩
def RX4 : String := "WingDoor$HotelKind"
def TX4 : u_T := fun k => match k with
  | _ => ("WingDoor$DoorKind", "noted", "J", false)
def tyX4 : Nat → FieldType := fun k => match k with
  | _ => .long
abbrev wsX40 : List Cond := u_ws RX4 TX4 1
theorem nmX4 : ∀ a, a < 1 → ∀ b, b < 1 → a ≠ b → (TX4 a).2.1 ≠ (TX4 b).2.1 := by decide +kernel
theorem tyX4_ok : ∀ k, k < 1 → parseFieldDescriptor (TX4 k).2.2.1 = some (tyX4 k) := by decide +kernel
abbrev cX4_init : ByteArray := prog_6_method_1_code
def yX4_init : MethodName := ⟨RX4, "<init>", "()V"⟩
abbrev cX4_worth : ByteArray := prog_6_method_2_code
def yX4_worth : MethodName := ⟨RX4, "worth", "(LWingDoor$Moment;I)I"⟩
def RX5 : String := "WingDoor$Moment"
def TX5 : u_T := fun k => match k with
  | 0 => ("WingDoor$Moment", "plan", "LWingDoor$Plan;", true)
  | 1 => ("WingDoor$Moment", "step", "I", false)
  | 2 => ("WingDoor$Moment", "goers", "I", false)
  | 3 => ("WingDoor$Moment", "sortOf", "[I", true)
  | 4 => ("WingDoor$Moment", "sideOf", "[I", true)
  | 5 => ("WingDoor$Moment", "whereOf", "[I", true)
  | 6 => ("WingDoor$Moment", "placeOf", "[I", true)
  | _ => ("WingDoor$Moment", "turnOf", "[I", true)
def tyX5 : Nat → FieldType := fun k => match k with
  | 0 => .object "WingDoor$Plan"
  | 1 => .int
  | 2 => .int
  | 3 => .array .int
  | 4 => .array .int
  | 5 => .array .int
  | 6 => .array .int
  | _ => .array .int
abbrev wsX50 : List Cond := u_ws RX5 TX5 8
theorem nmX5 : ∀ a, a < 8 → ∀ b, b < 8 → a ≠ b → (TX5 a).2.1 ≠ (TX5 b).2.1 := by decide +kernel
theorem tyX5_ok : ∀ k, k < 8 → parseFieldDescriptor (TX5 k).2.2.1 = some (tyX5 k) := by decide +kernel
abbrev cX5_init : ByteArray := prog_7_method_1_code
def yX5_init : MethodName := ⟨RX5, "<init>", "(LWingDoor$Plan;)V"⟩
abbrev cX5_empty : ByteArray := prog_7_method_2_code
def yX5_empty : MethodName := ⟨RX5, "empty", "()V"⟩
abbrev cX5_copy : ByteArray := prog_7_method_3_code
def yX5_copy : MethodName := ⟨RX5, "copy", "(LWingDoor$Moment;)V"⟩
abbrev cX5_hasGoer : ByteArray := prog_7_method_4_code
def yX5_hasGoer : MethodName := ⟨RX5, "hasGoer", "(I)Z"⟩
abbrev cX5_bulkOf : ByteArray := prog_7_method_5_code
def yX5_bulkOf : MethodName := ⟨RX5, "bulkOf", "(I)I"⟩
abbrev cX5_pushOf : ByteArray := prog_7_method_6_code
def yX5_pushOf : MethodName := ⟨RX5, "pushOf", "(I)I"⟩
abbrev cX5_howManyOfSort : ByteArray := prog_7_method_7_code
def yX5_howManyOfSort : MethodName := ⟨RX5, "howManyOfSort", "(I)I"⟩
abbrev cX5_whoIs : ByteArray := prog_7_method_8_code
def yX5_whoIs : MethodName := ⟨RX5, "whoIs", "(I)I"⟩
abbrev cX5_howManyAre : ByteArray := prog_7_method_9_code
def yX5_howManyAre : MethodName := ⟨RX5, "howManyAre", "(I)I"⟩
abbrev cX5_whoIsInRoomAt : ByteArray := prog_7_method_10_code
def yX5_whoIsInRoomAt : MethodName := ⟨RX5, "whoIsInRoomAt", "(I)I"⟩
abbrev cX5_bulkInRoomAt : ByteArray := prog_7_method_11_code
def yX5_bulkInRoomAt : MethodName := ⟨RX5, "bulkInRoomAt", "(I)I"⟩
abbrev cX5_load : ByteArray := prog_7_method_12_code
def yX5_load : MethodName := ⟨RX5, "load", "()I"⟩
abbrev cX5_drag : ByteArray := prog_7_method_13_code
def yX5_drag : MethodName := ⟨RX5, "drag", "()I"⟩
abbrev cX5_sticks : ByteArray := prog_7_method_14_code
def yX5_sticks : MethodName := ⟨RX5, "sticks", "()Z"⟩
abbrev cX5_firstOn : ByteArray := prog_7_method_15_code
def yX5_firstOn : MethodName := ⟨RX5, "firstOn", "(I)I"⟩
abbrev cX5_howManyAheadOf : ByteArray := prog_7_method_16_code
def yX5_howManyAheadOf : MethodName := ⟨RX5, "howManyAheadOf", "(I)I"⟩
abbrev cX5_letCome : ByteArray := prog_7_method_17_code
def yX5_letCome : MethodName := ⟨RX5, "letCome", "(II)I"⟩
abbrev cX5_giveUp : ByteArray := prog_7_method_18_code
def yX5_giveUp : MethodName := ⟨RX5, "giveUp", "(I)V"⟩
abbrev cX5_letAhead : ByteArray := prog_7_method_19_code
def yX5_letAhead : MethodName := ⟨RX5, "letAhead", "(I)V"⟩
abbrev cX5_turn : ByteArray := prog_7_method_20_code
def yX5_turn : MethodName := ⟨RX5, "turn", "()I"⟩
abbrev cX5_carry : ByteArray := prog_7_method_21_code
def yX5_carry : MethodName := ⟨RX5, "carry", "(I)Z"⟩
abbrev cX5_fill : ByteArray := prog_7_method_22_code
def yX5_fill : MethodName := ⟨RX5, "fill", "()V"⟩
abbrev cX5_runUntilThrough : ByteArray := prog_7_method_23_code
def yX5_runUntilThrough : MethodName := ⟨RX5, "runUntilThrough", "(I)I"⟩
abbrev cX5_runUntilItSticks : ByteArray := prog_7_method_24_code
def yX5_runUntilItSticks : MethodName := ⟨RX5, "runUntilItSticks", "()I"⟩
abbrev cX5_runUntilEmpty : ByteArray := prog_7_method_25_code
def yX5_runUntilEmpty : MethodName := ⟨RX5, "runUntilEmpty", "()I"⟩
def RX6 : String := "WingDoor$Past"
def TX6 : u_T := fun k => match k with
  | 0 => ("WingDoor$Past", "moments", "[LWingDoor$Moment;", true)
  | 1 => ("WingDoor$Past", "oldest", "I", false)
  | _ => ("WingDoor$Past", "size", "I", false)
def tyX6 : Nat → FieldType := fun k => match k with
  | 0 => .array (.object "WingDoor$Moment")
  | 1 => .int
  | _ => .int
abbrev wsX60 : List Cond := u_ws RX6 TX6 3
theorem nmX6 : ∀ a, a < 3 → ∀ b, b < 3 → a ≠ b → (TX6 a).2.1 ≠ (TX6 b).2.1 := by decide +kernel
theorem tyX6_ok : ∀ k, k < 3 → parseFieldDescriptor (TX6 k).2.2.1 = some (tyX6 k) := by decide +kernel
abbrev cX6_init : ByteArray := prog_8_method_1_code
def yX6_init : MethodName := ⟨RX6, "<init>", "(LWingDoor$Plan;)V"⟩
abbrev cX6_remember : ByteArray := prog_8_method_2_code
def yX6_remember : MethodName := ⟨RX6, "remember", "(LWingDoor$Moment;)V"⟩
abbrev cX6_recall : ByteArray := prog_8_method_3_code
def yX6_recall : MethodName := ⟨RX6, "recall", "(LWingDoor$Moment;)V"⟩
def RX7 : String := "WingDoor$Plan"
def TX7 : u_T := fun k => match k with
  | 0 => ("WingDoor$Plan", "rooms", "I", false)
  | 1 => ("WingDoor$Plan", "wide", "I", false)
  | 2 => ("WingDoor$Plan", "hard", "I", false)
  | 3 => ("WingDoor$Plan", "sorts", "I", false)
  | 4 => ("WingDoor$Plan", "bulk", "[I", true)
  | _ => ("WingDoor$Plan", "push", "[I", true)
def tyX7 : Nat → FieldType := fun k => match k with
  | 0 => .int
  | 1 => .int
  | 2 => .int
  | 3 => .int
  | 4 => .array .int
  | _ => .array .int
abbrev wsX70 : List Cond := u_ws RX7 TX7 6
theorem nmX7 : ∀ a, a < 6 → ∀ b, b < 6 → a ≠ b → (TX7 a).2.1 ≠ (TX7 b).2.1 := by decide +kernel
theorem tyX7_ok : ∀ k, k < 6 → parseFieldDescriptor (TX7 k).2.2.1 = some (tyX7 k) := by decide +kernel
abbrev cX7_init : ByteArray := prog_9_method_1_code
def yX7_init : MethodName := ⟨RX7, "<init>", "()V"⟩
abbrev cX7_setFirst : ByteArray := prog_9_method_2_code
def yX7_setFirst : MethodName := ⟨RX7, "setFirst", "()V"⟩
abbrev cX7_copy : ByteArray := prog_9_method_3_code
def yX7_copy : MethodName := ⟨RX7, "copy", "(LWingDoor$Plan;)V"⟩
abbrev cX7_addSort : ByteArray := prog_9_method_4_code
def yX7_addSort : MethodName := ⟨RX7, "addSort", "(II)V"⟩
abbrev cX7_hasSort : ByteArray := prog_9_method_5_code
def yX7_hasSort : MethodName := ⟨RX7, "hasSort", "(I)Z"⟩
abbrev cX7_bulkOf : ByteArray := prog_9_method_6_code
def yX7_bulkOf : MethodName := ⟨RX7, "bulkOf", "(I)I"⟩
abbrev cX7_pushOf : ByteArray := prog_9_method_7_code
def yX7_pushOf : MethodName := ⟨RX7, "pushOf", "(I)I"⟩
abbrev cX7_isAtMost : ByteArray := prog_9_method_8_code
def yX7_isAtMost : MethodName := ⟨RX7, "isAtMost", "(III)Z"⟩
abbrev cX7_howManyAtMost : ByteArray := prog_9_method_9_code
def yX7_howManyAtMost : MethodName := ⟨RX7, "howManyAtMost", "(III)I"⟩
abbrev cX7_placeOfSide : ByteArray := prog_9_method_10_code
def yX7_placeOfSide : MethodName := ⟨RX7, "placeOfSide", "(I)I"⟩
abbrev cX7_placeBehind : ByteArray := prog_9_method_11_code
def yX7_placeBehind : MethodName := ⟨RX7, "placeBehind", "(I)I"⟩
def RX8 : String := "WingDoor$Sightings"
def TX8 : u_T := fun k => match k with
  | 0 => ("WingDoor$Sightings", "plan", "LWingDoor$Plan;", true)
  | 1 => ("WingDoor$Sightings", "what", "[I", true)
  | 2 => ("WingDoor$Sightings", "bound", "[I", true)
  | 3 => ("WingDoor$Sightings", "most", "[I", true)
  | _ => ("WingDoor$Sightings", "size", "I", false)
def tyX8 : Nat → FieldType := fun k => match k with
  | 0 => .object "WingDoor$Plan"
  | 1 => .array .int
  | 2 => .array .int
  | 3 => .array .int
  | _ => .int
abbrev wsX80 : List Cond := u_ws RX8 TX8 5
theorem nmX8 : ∀ a, a < 5 → ∀ b, b < 5 → a ≠ b → (TX8 a).2.1 ≠ (TX8 b).2.1 := by decide +kernel
theorem tyX8_ok : ∀ k, k < 5 → parseFieldDescriptor (TX8 k).2.2.1 = some (tyX8 k) := by decide +kernel
abbrev cX8_init : ByteArray := prog_10_method_1_code
def yX8_init : MethodName := ⟨RX8, "<init>", "(LWingDoor$Plan;)V"⟩
abbrev cX8_add : ByteArray := prog_10_method_2_code
def yX8_add : MethodName := ⟨RX8, "add", "(III)Z"⟩
abbrev cX8_possibleSorts : ByteArray := prog_10_method_3_code
def yX8_possibleSorts : MethodName := ⟨RX8, "possibleSorts", "()I"⟩
abbrev cX8_allIsSoOf : ByteArray := prog_10_method_4_code
def yX8_allIsSoOf : MethodName := ⟨RX8, "allIsSoOf", "(I)Z"⟩
def RX9 : String := "WingDoor$StoreKind"
def TX9 : u_T := fun k => match k with
  | _ => ("WingDoor$DoorKind", "noted", "J", false)
def tyX9 : Nat → FieldType := fun k => match k with
  | _ => .long
abbrev wsX90 : List Cond := u_ws RX9 TX9 1
theorem nmX9 : ∀ a, a < 1 → ∀ b, b < 1 → a ≠ b → (TX9 a).2.1 ≠ (TX9 b).2.1 := by decide +kernel
theorem tyX9_ok : ∀ k, k < 1 → parseFieldDescriptor (TX9 k).2.2.1 = some (tyX9 k) := by decide +kernel
abbrev cX9_init : ByteArray := prog_11_method_1_code
def yX9_init : MethodName := ⟨RX9, "<init>", "()V"⟩
abbrev cX9_worth : ByteArray := prog_11_method_2_code
def yX9_worth : MethodName := ⟨RX9, "worth", "(LWingDoor$Moment;I)I"⟩
def RX10 : String := "WingDoor$Text"
def TX10 : u_T := fun k => match k with
  | 0 => ("WingDoor$Text", "letters", "[I", true)
  | 1 => ("WingDoor$Text", "length", "I", false)
  | 2 => ("WingDoor$Text", "at", "I", false)
  | 3 => ("WingDoor$Text", "token", "I", false)
  | 4 => ("WingDoor$Text", "tokenAt", "I", false)
  | 5 => ("WingDoor$Text", "number", "I", false)
  | _ => ("WingDoor$Text", "hardIsTold", "Z", false)
def tyX10 : Nat → FieldType := fun k => match k with
  | 0 => .array .int
  | 1 => .int
  | 2 => .int
  | 3 => .int
  | 4 => .int
  | 5 => .int
  | _ => .boolean
abbrev wsX100 : List Cond := u_ws RX10 TX10 7
theorem nmX10 : ∀ a, a < 7 → ∀ b, b < 7 → a ≠ b → (TX10 a).2.1 ≠ (TX10 b).2.1 := by decide +kernel
theorem tyX10_ok : ∀ k, k < 7 → parseFieldDescriptor (TX10 k).2.2.1 = some (tyX10 k) := by decide +kernel
abbrev cX10_init : ByteArray := prog_12_method_1_code
def yX10_init : MethodName := ⟨RX10, "<init>", "()V"⟩
abbrev cX10_add : ByteArray := prog_12_method_2_code
def yX10_add : MethodName := ⟨RX10, "add", "(I)Z"⟩
abbrev cX10_tellTo : ByteArray := prog_12_method_3_code
def yX10_tellTo : MethodName := ⟨RX10, "tellTo", "(LWingDoor$Plan;)I"⟩
abbrev cX10_readItem : ByteArray := prog_12_method_4_code
def yX10_readItem : MethodName := ⟨RX10, "readItem", "(LWingDoor$Plan;I)Z"⟩
abbrev cX10_readRooms : ByteArray := prog_12_method_5_code
def yX10_readRooms : MethodName := ⟨RX10, "readRooms", "(LWingDoor$Plan;)Z"⟩
abbrev cX10_readHard : ByteArray := prog_12_method_6_code
def yX10_readHard : MethodName := ⟨RX10, "readHard", "(LWingDoor$Plan;)Z"⟩
abbrev cX10_readSort : ByteArray := prog_12_method_7_code
def yX10_readSort : MethodName := ⟨RX10, "readSort", "(LWingDoor$Plan;)Z"⟩
abbrev cX10_readNumber : ByteArray := prog_12_method_8_code
def yX10_readNumber : MethodName := ⟨RX10, "readNumber", "(II)Z"⟩
abbrev cX10_readSemicolon : ByteArray := prog_12_method_9_code
def yX10_readSemicolon : MethodName := ⟨RX10, "readSemicolon", "()Z"⟩
abbrev cX10_readToken : ByteArray := prog_12_method_10_code
def yX10_readToken : MethodName := ⟨RX10, "readToken", "()V"⟩
abbrev cX10_readDigits : ByteArray := prog_12_method_11_code
def yX10_readDigits : MethodName := ⟨RX10, "readDigits", "()V"⟩
def RX11 : String := "WingDoor"
def TX11 : u_T := fun k => match k with
  | 0 => ("WingDoor", "text", "LWingDoor$Text;", true)
  | 1 => ("WingDoor", "plan", "LWingDoor$Plan;", true)
  | 2 => ("WingDoor", "draft", "LWingDoor$Plan;", true)
  | 3 => ("WingDoor", "state", "LWingDoor$Moment;", true)
  | 4 => ("WingDoor", "trial", "LWingDoor$Moment;", true)
  | 5 => ("WingDoor", "past", "LWingDoor$Past;", true)
  | 6 => ("WingDoor", "images", "[LWingDoor$Moment;", true)
  | 7 => ("WingDoor", "imageKept", "[Z", true)
  | 8 => ("WingDoor", "sightings", "LWingDoor$Sightings;", true)
  | 9 => ("WingDoor", "ways", "[J", true)
  | _ => ("WingDoor", "kinds", "[LWingDoor$DoorKind;", true)
def tyX11 : Nat → FieldType := fun k => match k with
  | 0 => .object "WingDoor$Text"
  | 1 => .object "WingDoor$Plan"
  | 2 => .object "WingDoor$Plan"
  | 3 => .object "WingDoor$Moment"
  | 4 => .object "WingDoor$Moment"
  | 5 => .object "WingDoor$Past"
  | 6 => .array (.object "WingDoor$Moment")
  | 7 => .array .boolean
  | 8 => .object "WingDoor$Sightings"
  | 9 => .array .long
  | _ => .array (.object "WingDoor$DoorKind")
abbrev wsX110 : List Cond := u_ws RX11 TX11 11
theorem nmX11 : ∀ a, a < 11 → ∀ b, b < 11 → a ≠ b → (TX11 a).2.1 ≠ (TX11 b).2.1 := by decide +kernel
theorem tyX11_ok : ∀ k, k < 11 → parseFieldDescriptor (TX11 k).2.2.1 = some (tyX11 k) := by decide +kernel
abbrev cX11_init : ByteArray := prog_1_method_1_code
def yX11_init : MethodName := ⟨RX11, "<init>", "()V"⟩
abbrev cX11_type : ByteArray := prog_1_method_2_code
def yX11_type : MethodName := ⟨RX11, "type", "(I)I"⟩
abbrev cX11_clear : ByteArray := prog_1_method_3_code
def yX11_clear : MethodName := ⟨RX11, "clear", "()I"⟩
abbrev cX11_door : ByteArray := prog_1_method_4_code
def yX11_door : MethodName := ⟨RX11, "door", "()I"⟩
abbrev cX11_sort : ByteArray := prog_1_method_5_code
def yX11_sort : MethodName := ⟨RX11, "sort", "(II)I"⟩
abbrev cX11_goer : ByteArray := prog_1_method_6_code
def yX11_goer : MethodName := ⟨RX11, "goer", "(II)I"⟩
abbrev cX11_room : ByteArray := prog_1_method_7_code
def yX11_room : MethodName := ⟨RX11, "room", "(II)I"⟩
abbrev cX11_now : ByteArray := prog_1_method_8_code
def yX11_now : MethodName := ⟨RX11, "now", "(I)I"⟩
abbrev cX11_comes : ByteArray := prog_1_method_9_code
def yX11_comes : MethodName := ⟨RX11, "comes", "(II)I"⟩
abbrev cX11_steps : ByteArray := prog_1_method_10_code
def yX11_steps : MethodName := ⟨RX11, "steps", "()I"⟩
abbrev cX11_leaves : ByteArray := prog_1_method_11_code
def yX11_leaves : MethodName := ⟨RX11, "leaves", "(I)I"⟩
abbrev cX11_lets : ByteArray := prog_1_method_12_code
def yX11_lets : MethodName := ⟨RX11, "lets", "(I)I"⟩
abbrev cX11_undo : ByteArray := prog_1_method_13_code
def yX11_undo : MethodName := ⟨RX11, "undo", "()I"⟩
abbrev cX11_spare : ByteArray := prog_1_method_14_code
def yX11_spare : MethodName := ⟨RX11, "spare", "(I)I"⟩
abbrev cX11_ahead : ByteArray := prog_1_method_15_code
def yX11_ahead : MethodName := ⟨RX11, "ahead", "(I)I"⟩
abbrev cX11_odds : ByteArray := prog_1_method_16_code
def yX11_odds : MethodName := ⟨RX11, "odds", "(II)I"⟩
abbrev cX11_sees : ByteArray := prog_1_method_17_code
def yX11_sees : MethodName := ⟨RX11, "sees", "(III)I"⟩
abbrev cX11_forget : ByteArray := prog_1_method_18_code
def yX11_forget : MethodName := ⟨RX11, "forget", "()I"⟩
abbrev cX11_which : ByteArray := prog_1_method_19_code
def yX11_which : MethodName := ⟨RX11, "which", "()I"⟩
abbrev cX11_look : ByteArray := prog_1_method_20_code
def yX11_look : MethodName := ⟨RX11, "look", "(I)I"⟩
abbrev cX11_rate : ByteArray := prog_1_method_21_code
def yX11_rate : MethodName := ⟨RX11, "rate", "(II)I"⟩
abbrev cX11_keep : ByteArray := prog_1_method_22_code
def yX11_keep : MethodName := ⟨RX11, "keep", "(I)I"⟩
abbrev cX11_back : ByteArray := prog_1_method_23_code
def yX11_back : MethodName := ⟨RX11, "back", "(I)I"⟩
abbrev cX11_count : ByteArray := prog_1_method_24_code
def yX11_count : MethodName := ⟨RX11, "count", "(I)I"⟩
abbrev cX11_trace : ByteArray := prog_1_method_25_code
def yX11_trace : MethodName := ⟨RX11, "trace", "()J"⟩
abbrev cX11_orNone : ByteArray := prog_1_method_26_code
def yX11_orNone : MethodName := ⟨RX11, "orNone", "(I)I"⟩
abbrev cX11_whenNow : ByteArray := prog_1_method_27_code
def yX11_whenNow : MethodName := ⟨RX11, "whenNow", "(I)I"⟩
abbrev cX11_sticksNow : ByteArray := prog_1_method_28_code
def yX11_sticksNow : MethodName := ⟨RX11, "sticksNow", "()I"⟩
abbrev cX11_allNow : ByteArray := prog_1_method_29_code
def yX11_allNow : MethodName := ⟨RX11, "allNow", "()I"⟩
abbrev cX11_bestHelper : ByteArray := prog_1_method_30_code
def yX11_bestHelper : MethodName := ⟨RX11, "bestHelper", "(IZ)I"⟩
abbrev cX11_waysToGo : ByteArray := prog_1_method_31_code
def yX11_waysToGo : MethodName := ⟨RX11, "waysToGo", "(I)J"⟩
abbrev cX11_addPusher : ByteArray := prog_1_method_32_code
def yX11_addPusher : MethodName := ⟨RX11, "addPusher", "(III)I"⟩
abbrev cX11_greatestDivisor : ByteArray := prog_1_method_33_code
def yX11_greatestDivisor : MethodName := ⟨RX11, "greatestDivisor", "(JJ)J"⟩
abbrev cX11_leastOf : ByteArray := prog_1_method_34_code
def yX11_leastOf : MethodName := ⟨RX11, "leastOf", "(I)I"⟩
abbrev cX11_mostOf : ByteArray := prog_1_method_35_code
def yX11_mostOf : MethodName := ⟨RX11, "mostOf", "(I)I"⟩
def RX12 : String := "WingDoorModel"
def TX12 : u_T := fun k => match k with
  | 0 => ("WingDoorModel", "rooms", "I", false)
  | 1 => ("WingDoorModel", "wide", "I", false)
  | 2 => ("WingDoorModel", "hard", "I", false)
  | 3 => ("WingDoorModel", "sorts", "I", false)
  | 4 => ("WingDoorModel", "bulk", "[I", true)
  | 5 => ("WingDoorModel", "push", "[I", true)
  | 6 => ("WingDoorModel", "now", "[I", true)
  | 7 => ("WingDoorModel", "aside", "[I", true)
  | 8 => ("WingDoorModel", "past", "[I", true)
  | 9 => ("WingDoorModel", "undos", "I", false)
  | 10 => ("WingDoorModel", "images", "[I", true)
  | 11 => ("WingDoorModel", "isKept", "[Z", true)
  | 12 => ("WingDoorModel", "seen", "[I", true)
  | 13 => ("WingDoorModel", "seenMany", "I", false)
  | 14 => ("WingDoorModel", "trace", "J", false)
  | 15 => ("WingDoorModel", "text", "[I", true)
  | 16 => ("WingDoorModel", "typed", "I", false)
  | 17 => ("WingDoorModel", "at", "I", false)
  | 18 => ("WingDoorModel", "begin", "I", false)
  | 19 => ("WingDoorModel", "token", "I", false)
  | 20 => ("WingDoorModel", "value", "I", false)
  | 21 => ("WingDoorModel", "readRooms", "I", false)
  | 22 => ("WingDoorModel", "readWide", "I", false)
  | 23 => ("WingDoorModel", "readHard", "I", false)
  | 24 => ("WingDoorModel", "readSorts", "I", false)
  | 25 => ("WingDoorModel", "readBulk", "[I", true)
  | _ => ("WingDoorModel", "readPush", "[I", true)
def tyX12 : Nat → FieldType := fun k => match k with
  | 0 => .int
  | 1 => .int
  | 2 => .int
  | 3 => .int
  | 4 => .array .int
  | 5 => .array .int
  | 6 => .array .int
  | 7 => .array .int
  | 8 => .array .int
  | 9 => .int
  | 10 => .array .int
  | 11 => .array .boolean
  | 12 => .array .int
  | 13 => .int
  | 14 => .long
  | 15 => .array .int
  | 16 => .int
  | 17 => .int
  | 18 => .int
  | 19 => .int
  | 20 => .int
  | 21 => .int
  | 22 => .int
  | 23 => .int
  | 24 => .int
  | 25 => .array .int
  | _ => .array .int
abbrev wsX120 : List Cond := u_ws RX12 TX12 27
theorem nmX12 : ∀ a, a < 27 → ∀ b, b < 27 → a ≠ b → (TX12 a).2.1 ≠ (TX12 b).2.1 := by decide +kernel
theorem tyX12_ok : ∀ k, k < 27 → parseFieldDescriptor (TX12 k).2.2.1 = some (tyX12 k) := by decide +kernel
abbrev cX12_init : ByteArray := prog_14_method_1_code
def yX12_init : MethodName := ⟨RX12, "<init>", "()V"⟩
abbrev cX12_in : ByteArray := prog_14_method_3_code
def yX12_in : MethodName := ⟨RX12, "in", "(JJJ)Z"⟩
abbrev cX12_has : ByteArray := prog_14_method_4_code
def yX12_has : MethodName := ⟨RX12, "has", "(II)Z"⟩
abbrev cX12_bits : ByteArray := prog_14_method_5_code
def yX12_bits : MethodName := ⟨RX12, "bits", "(I)I"⟩
abbrev cX12_copies : ByteArray := prog_14_method_6_code
def yX12_copies : MethodName := ⟨RX12, "copies", "([II[III)V"⟩
abbrev cX12_type : ByteArray := prog_14_method_7_code
def yX12_type : MethodName := ⟨RX12, "type", "(I)I"⟩
abbrev cX12_clear : ByteArray := prog_14_method_8_code
def yX12_clear : MethodName := ⟨RX12, "clear", "()I"⟩
abbrev cX12_here : ByteArray := prog_14_method_9_code
def yX12_here : MethodName := ⟨RX12, "here", "()I"⟩
abbrev cX12_isFigure : ByteArray := prog_14_method_10_code
def yX12_isFigure : MethodName := ⟨RX12, "isFigure", "()Z"⟩
abbrev cX12_nextToken : ByteArray := prog_14_method_11_code
def yX12_nextToken : MethodName := ⟨RX12, "nextToken", "()V"⟩
abbrev cX12_readsFigures : ByteArray := prog_14_method_12_code
def yX12_readsFigures : MethodName := ⟨RX12, "readsFigures", "()V"⟩
abbrev cX12_number : ByteArray := prog_14_method_13_code
def yX12_number : MethodName := ⟨RX12, "number", "(II)Z"⟩
abbrev cX12_isRooms : ByteArray := prog_14_method_14_code
def yX12_isRooms : MethodName := ⟨RX12, "isRooms", "()Z"⟩
abbrev cX12_isHard : ByteArray := prog_14_method_15_code
def yX12_isHard : MethodName := ⟨RX12, "isHard", "()Z"⟩
abbrev cX12_isSort : ByteArray := prog_14_method_16_code
def yX12_isSort : MethodName := ⟨RX12, "isSort", "()Z"⟩
abbrev cX12_isItem : ByteArray := prog_14_method_17_code
def yX12_isItem : MethodName := ⟨RX12, "isItem", "(I)Z"⟩
abbrev cX12_reads : ByteArray := prog_14_method_18_code
def yX12_reads : MethodName := ⟨RX12, "reads", "()I"⟩
abbrev cX12_door : ByteArray := prog_14_method_19_code
def yX12_door : MethodName := ⟨RX12, "door", "()I"⟩
abbrev cX12_isBit : ByteArray := prog_14_method_20_code
def yX12_isBit : MethodName := ⟨RX12, "isBit", "(I)Z"⟩
abbrev cX12_isGoer : ByteArray := prog_14_method_21_code
def yX12_isGoer : MethodName := ⟨RX12, "isGoer", "(I)Z"⟩
abbrev cX12_bulkOf : ByteArray := prog_14_method_22_code
def yX12_bulkOf : MethodName := ⟨RX12, "bulkOf", "([II)I"⟩
abbrev cX12_those : ByteArray := prog_14_method_23_code
def yX12_those : MethodName := ⟨RX12, "those", "([II)I"⟩
abbrev cX12_inRoom : ByteArray := prog_14_method_24_code
def yX12_inRoom : MethodName := ⟨RX12, "inRoom", "([II)I"⟩
abbrev cX12_bulkIn : ByteArray := prog_14_method_25_code
def yX12_bulkIn : MethodName := ⟨RX12, "bulkIn", "([II)I"⟩
abbrev cX12_firstOn : ByteArray := prog_14_method_26_code
def yX12_firstOn : MethodName := ⟨RX12, "firstOn", "([II)I"⟩
abbrev cX12_placeOf : ByteArray := prog_14_method_27_code
def yX12_placeOf : MethodName := ⟨RX12, "placeOf", "(I)I"⟩
abbrev cX12_fills : ByteArray := prog_14_method_28_code
def yX12_fills : MethodName := ⟨RX12, "fills", "([I)V"⟩
abbrev cX12_loadOn : ByteArray := prog_14_method_29_code
def yX12_loadOn : MethodName := ⟨RX12, "loadOn", "([I)I"⟩
abbrev cX12_dragOn : ByteArray := prog_14_method_30_code
def yX12_dragOn : MethodName := ⟨RX12, "dragOn", "([I)I"⟩
abbrev cX12_sticksOn : ByteArray := prog_14_method_31_code
def yX12_sticksOn : MethodName := ⟨RX12, "sticksOn", "([I)Z"⟩
abbrev cX12_goes : ByteArray := prog_14_method_32_code
def yX12_goes : MethodName := ⟨RX12, "goes", "([I)I"⟩
abbrev cX12_aheadOf : ByteArray := prog_14_method_33_code
def yX12_aheadOf : MethodName := ⟨RX12, "aheadOf", "([II)I"⟩
abbrev cX12_layAside : ByteArray := prog_14_method_34_code
def yX12_layAside : MethodName := ⟨RX12, "layAside", "()V"⟩
abbrev cX12_whenAside : ByteArray := prog_14_method_35_code
def yX12_whenAside : MethodName := ⟨RX12, "whenAside", "(I)I"⟩
abbrev cX12_when : ByteArray := prog_14_method_36_code
def yX12_when : MethodName := ⟨RX12, "when", "(I)I"⟩
abbrev cX12_sticksFirst : ByteArray := prog_14_method_37_code
def yX12_sticksFirst : MethodName := ⟨RX12, "sticksFirst", "()I"⟩
abbrev cX12_allOut : ByteArray := prog_14_method_38_code
def yX12_allOut : MethodName := ⟨RX12, "allOut", "()I"⟩
abbrev cX12_sort : ByteArray := prog_14_method_39_code
def yX12_sort : MethodName := ⟨RX12, "sort", "(II)I"⟩
abbrev cX12_goer : ByteArray := prog_14_method_40_code
def yX12_goer : MethodName := ⟨RX12, "goer", "(II)I"⟩
abbrev cX12_room : ByteArray := prog_14_method_41_code
def yX12_room : MethodName := ⟨RX12, "room", "(II)I"⟩
abbrev cX12_now : ByteArray := prog_14_method_42_code
def yX12_now : MethodName := ⟨RX12, "now", "(I)I"⟩
abbrev cX12_notes : ByteArray := prog_14_method_43_code
def yX12_notes : MethodName := ⟨RX12, "notes", "()V"⟩
abbrev cX12_comes : ByteArray := prog_14_method_44_code
def yX12_comes : MethodName := ⟨RX12, "comes", "(II)I"⟩
abbrev cX12_steps : ByteArray := prog_14_method_45_code
def yX12_steps : MethodName := ⟨RX12, "steps", "()I"⟩
abbrev cX12_leavesOn : ByteArray := prog_14_method_46_code
def yX12_leavesOn : MethodName := ⟨RX12, "leavesOn", "([II)V"⟩
abbrev cX12_leaves : ByteArray := prog_14_method_47_code
def yX12_leaves : MethodName := ⟨RX12, "leaves", "(I)I"⟩
abbrev cX12_letsOn : ByteArray := prog_14_method_48_code
def yX12_letsOn : MethodName := ⟨RX12, "letsOn", "([II)V"⟩
abbrev cX12_lets : ByteArray := prog_14_method_49_code
def yX12_lets : MethodName := ⟨RX12, "lets", "(I)I"⟩
abbrev cX12_undo : ByteArray := prog_14_method_50_code
def yX12_undo : MethodName := ⟨RX12, "undo", "()I"⟩
abbrev cX12_best : ByteArray := prog_14_method_51_code
def yX12_best : MethodName := ⟨RX12, "best", "(IZ)I"⟩
abbrev cX12_spare : ByteArray := prog_14_method_52_code
def yX12_spare : MethodName := ⟨RX12, "spare", "(I)I"⟩
abbrev cX12_ahead : ByteArray := prog_14_method_53_code
def yX12_ahead : MethodName := ⟨RX12, "ahead", "(I)I"⟩
abbrev cX12_power : ByteArray := prog_14_method_54_code
def yX12_power : MethodName := ⟨RX12, "power", "(JI)J"⟩
abbrev cX12_odds : ByteArray := prog_14_method_55_code
def yX12_odds : MethodName := ⟨RX12, "odds", "(II)I"⟩
abbrev cX12_sees : ByteArray := prog_14_method_56_code
def yX12_sees : MethodName := ⟨RX12, "sees", "(III)I"⟩
abbrev cX12_forget : ByteArray := prog_14_method_57_code
def yX12_forget : MethodName := ⟨RX12, "forget", "()I"⟩
abbrev cX12_of : ByteArray := prog_14_method_58_code
def yX12_of : MethodName := ⟨RX12, "of", "(II)I"⟩
abbrev cX12_which : ByteArray := prog_14_method_59_code
def yX12_which : MethodName := ⟨RX12, "which", "()I"⟩
abbrev cX12_look : ByteArray := prog_14_method_60_code
def yX12_look : MethodName := ⟨RX12, "look", "(I)I"⟩
abbrev cX12_asDoor : ByteArray := prog_14_method_61_code
def yX12_asDoor : MethodName := ⟨RX12, "asDoor", "(I)I"⟩
abbrev cX12_asBank : ByteArray := prog_14_method_62_code
def yX12_asBank : MethodName := ⟨RX12, "asBank", "(I)I"⟩
abbrev cX12_asHotel : ByteArray := prog_14_method_63_code
def yX12_asHotel : MethodName := ⟨RX12, "asHotel", "(I)I"⟩
abbrev cX12_rate : ByteArray := prog_14_method_64_code
def yX12_rate : MethodName := ⟨RX12, "rate", "(II)I"⟩
abbrev cX12_keep : ByteArray := prog_14_method_65_code
def yX12_keep : MethodName := ⟨RX12, "keep", "(I)I"⟩
abbrev cX12_back : ByteArray := prog_14_method_66_code
def yX12_back : MethodName := ⟨RX12, "back", "(I)I"⟩
abbrev cX12_count : ByteArray := prog_14_method_67_code
def yX12_count : MethodName := ⟨RX12, "count", "(I)I"⟩
abbrev cX12_trace : ByteArray := prog_14_method_68_code
def yX12_trace : MethodName := ⟨RX12, "trace", "()J"⟩
def RJ6 : String := "java/lang/Integer"
def TJ6 : u_T := fun k => match k with
  | _ => ("", "", "", false)
def tyJ6 : Nat → FieldType := fun k => match k with
  | _ => .int
abbrev wsJ60 : List Cond := u_ws RJ6 TJ6 0
theorem nmJ6 : ∀ a, a < 0 → ∀ b, b < 0 → a ≠ b → (TJ6 a).2.1 ≠ (TJ6 b).2.1 := by decide +kernel
theorem tyJ6_ok : ∀ k, k < 0 → parseFieldDescriptor (TJ6 k).2.2.1 = some (tyJ6 k) := by decide +kernel
abbrev cJ6_bitCount_0f7a4 : ByteArray := prog_15_method_49_code
def yJ6_bitCount_0f7a4 : MethodName := ⟨RJ6, "bitCount", "(I)I"⟩
def RJ9 : String := "java/lang/Math"
def TJ9 : u_T := fun k => match k with
  | _ => ("", "", "", false)
def tyJ9 : Nat → FieldType := fun k => match k with
  | _ => .int
abbrev wsJ90 : List Cond := u_ws RJ9 TJ9 0
theorem nmJ9 : ∀ a, a < 0 → ∀ b, b < 0 → a ≠ b → (TJ9 a).2.1 ≠ (TJ9 b).2.1 := by decide +kernel
theorem tyJ9_ok : ∀ k, k < 0 → parseFieldDescriptor (TJ9 k).2.2.1 = some (tyJ9 k) := by decide +kernel
abbrev cJ9_max_7cf53 : ByteArray := prog_16_method_65_code
def yJ9_max_7cf53 : MethodName := ⟨RJ9, "max", "(II)I"⟩
abbrev cJ9_max_f86c9 : ByteArray := prog_16_method_66_code
def yJ9_max_f86c9 : MethodName := ⟨RJ9, "max", "(JJ)J"⟩
abbrev cJ9_min_7cf53 : ByteArray := prog_16_method_69_code
def yJ9_min_7cf53 : MethodName := ⟨RJ9, "min", "(II)I"⟩
def RJ10 : String := "java/lang/System"
def TJ10 : u_T := fun k => match k with
  | _ => ("", "", "", false)
def tyJ10 : Nat → FieldType := fun k => match k with
  | _ => .int
abbrev wsJ100 : List Cond := u_ws RJ10 TJ10 0
theorem nmJ10 : ∀ a, a < 0 → ∀ b, b < 0 → a ≠ b → (TJ10 a).2.1 ≠ (TJ10 b).2.1 := by decide +kernel
theorem tyJ10_ok : ∀ k, k < 0 → parseFieldDescriptor (TJ10 k).2.2.1 = some (tyJ10 k) := by decide +kernel
def RJ7 : String := "java/util/Arrays"
def TJ7 : u_T := fun k => match k with
  | _ => ("", "", "", false)
def tyJ7 : Nat → FieldType := fun k => match k with
  | _ => .int
abbrev wsJ70 : List Cond := u_ws RJ7 TJ7 0
theorem nmJ7 : ∀ a, a < 0 → ∀ b, b < 0 → a ≠ b → (TJ7 a).2.1 ≠ (TJ7 b).2.1 := by decide +kernel
theorem tyJ7_ok : ∀ k, k < 0 → parseFieldDescriptor (TJ7 k).2.2.1 = some (tyJ7 k) := by decide +kernel
abbrev cJ7_fill_d0a16 : ByteArray := prog_18_method_101_code
def yJ7_fill_d0a16 : MethodName := ⟨RJ7, "fill", "([JJ)V"⟩
def RL : String := "WingDoorLaw"
abbrev cL_law : ByteArray := code
def yL_law : MethodName := ⟨RL, "law", "([I)Z"⟩
abbrev vwCl : List vw_C := [(RX0, TX0, 1), (RX1, TX1, 1), (RX2, TX2, 1), (RX3, TX3, 1), (RX4, TX4, 1), (RX5, TX5, 8), (RX6, TX6, 3), (RX7, TX7, 6), (RX8, TX8, 5), (RX9, TX9, 1), (RX10, TX10, 7), (RX11, TX11, 11), (RX12, TX12, 27)]
end
section
/-- the words that a callee may take along: all of the tables that are good -/
def zG : List Cond := lw_tbl.filter goodWord
theorem zG_in {w : Cond} (h : w ∈ zG) : w ∈ lw_tbl := (List.mem_filter.mp h).1
theorem zG_good {w : Cond} (h : w ∈ zG) : (w.onTables && w.keeps) = true ∨ ∃ ty, w = .arrayClass ty := good_of_word (List.mem_filter.mp h).2
theorem zG_mk {w : Cond} (h : w ∈ lw_tbl) (hg : goodWord w = true) : w ∈ zG := List.mem_filter.mpr ⟨h, hg⟩
theorem zG_t1 {w : Cond} (h : w ∈ tables_1_1) : w ∈ lw_tbl := List.mem_append_right _ (show w ∈ tables_1 from List.mem_append_left _ h)
theorem zG_t2 {w : Cond} (h : w ∈ tables_1_2) : w ∈ lw_tbl := List.mem_append_right _ (show w ∈ tables_1 from List.mem_append_right _ (List.mem_append_left _ h))
theorem zG_t3 {w : Cond} (h : w ∈ tables_1_3) : w ∈ lw_tbl := List.mem_append_right _ (show w ∈ tables_1 from List.mem_append_right _ (List.mem_append_right _ (List.mem_append_left _ h)))
theorem zG_t4 {w : Cond} (h : w ∈ tables_1_4) : w ∈ lw_tbl := List.mem_append_right _ (show w ∈ tables_1 from List.mem_append_right _ (List.mem_append_right _ (List.mem_append_right _ (List.mem_append_left _ h))))
theorem zG_t5 {w : Cond} (h : w ∈ tables_1_5) : w ∈ lw_tbl := List.mem_append_right _ (show w ∈ tables_1 from List.mem_append_right _ (List.mem_append_right _ (List.mem_append_right _ (List.mem_append_right _ (h)))))
theorem gw_1_0 : (Cond.initialized "WingDoorLaw") ∈ zG := zG_mk (zG_t1 (List.mem_of_getElem? (i := 0) rfl)) rfl
theorem gw_1_1 : (Cond.initialized "WingDoor") ∈ zG := zG_mk (zG_t1 (List.mem_of_getElem? (i := 1) rfl)) rfl
theorem gw_1_2 : (Cond.initialized "WingDoor$Text") ∈ zG := zG_mk (zG_t1 (List.mem_of_getElem? (i := 2) rfl)) rfl
theorem gw_1_3 : (Cond.initialized "WingDoor$Plan") ∈ zG := zG_mk (zG_t1 (List.mem_of_getElem? (i := 3) rfl)) rfl
theorem gw_1_4 : (Cond.initialized "WingDoor$Moment") ∈ zG := zG_mk (zG_t1 (List.mem_of_getElem? (i := 4) rfl)) rfl
theorem gw_1_5 : (Cond.initialized "WingDoor$Past") ∈ zG := zG_mk (zG_t1 (List.mem_of_getElem? (i := 5) rfl)) rfl
theorem gw_1_6 : (Cond.initialized "WingDoor$Sightings") ∈ zG := zG_mk (zG_t1 (List.mem_of_getElem? (i := 6) rfl)) rfl
theorem gw_1_7 : (Cond.initialized "WingDoor$DoorKind") ∈ zG := zG_mk (zG_t1 (List.mem_of_getElem? (i := 7) rfl)) rfl
theorem gw_1_8 : (Cond.initialized "WingDoor$BankKind") ∈ zG := zG_mk (zG_t1 (List.mem_of_getElem? (i := 8) rfl)) rfl
theorem gw_1_9 : (Cond.initialized "WingDoor$HotelKind") ∈ zG := zG_mk (zG_t1 (List.mem_of_getElem? (i := 9) rfl)) rfl
theorem gw_1_10 : (Cond.initialized "WingDoor$CourtKind") ∈ zG := zG_mk (zG_t1 (List.mem_of_getElem? (i := 10) rfl)) rfl
theorem gw_1_11 : (Cond.initialized "WingDoor$GrandKind") ∈ zG := zG_mk (zG_t1 (List.mem_of_getElem? (i := 11) rfl)) rfl
theorem gw_1_12 : (Cond.initialized "WingDoor$StoreKind") ∈ zG := zG_mk (zG_t1 (List.mem_of_getElem? (i := 12) rfl)) rfl
theorem gw_1_13 : (Cond.initialized "WingDoorModel") ∈ zG := zG_mk (zG_t1 (List.mem_of_getElem? (i := 13) rfl)) rfl
theorem gw_1_14 : (Cond.initialized "java/lang/System") ∈ zG := zG_mk (zG_t1 (List.mem_of_getElem? (i := 14) rfl)) rfl
theorem gw_1_15 : (Cond.initialized "java/lang/Integer") ∈ zG := zG_mk (zG_t1 (List.mem_of_getElem? (i := 15) rfl)) rfl
theorem gw_1_16 : (Cond.initialized "java/util/Arrays") ∈ zG := zG_mk (zG_t1 (List.mem_of_getElem? (i := 16) rfl)) rfl
theorem gw_1_17 : (Cond.initialized "java/lang/Math") ∈ zG := zG_mk (zG_t1 (List.mem_of_getElem? (i := 17) rfl)) rfl
theorem gw_1_18 : (Cond.classLink "WingDoorLaw" 7 "WingDoor") ∈ zG := zG_mk (zG_t1 (List.mem_of_getElem? (i := 18) rfl)) rfl
theorem gw_1_19 : (Cond.instantiable "WingDoor" 11) ∈ zG := zG_mk (zG_t1 (List.mem_of_getElem? (i := 19) rfl)) rfl
theorem gw_1_20 : (Cond.methodLink "WingDoorLaw" 9 ⟨"WingDoor", "<init>", "()V"⟩) ∈ zG := zG_mk (zG_t1 (List.mem_of_getElem? (i := 20) rfl)) rfl
theorem gw_1_21 : (Cond.instanceMethod ⟨"WingDoor", "<init>", "()V"⟩) ∈ zG := zG_mk (zG_t1 (List.mem_of_getElem? (i := 21) rfl)) rfl
theorem gw_1_22 : (Cond.code ⟨"WingDoor", "<init>", "()V"⟩ prog_1_method_1_code 1 none) ∈ zG := zG_mk (zG_t1 (List.mem_of_getElem? (i := 22) rfl)) rfl
theorem gw_1_23 : (Cond.methodLink "WingDoor" 1 ⟨"java/lang/Object", "<init>", "()V"⟩) ∈ zG := zG_mk (zG_t1 (List.mem_of_getElem? (i := 23) rfl)) rfl
theorem gw_1_24 : (Cond.instanceMethod ⟨"java/lang/Object", "<init>", "()V"⟩) ∈ zG := zG_mk (zG_t1 (List.mem_of_getElem? (i := 24) rfl)) rfl
theorem gw_1_25 : (Cond.code ⟨"java/lang/Object", "<init>", "()V"⟩ object_method_1_code 1 none) ∈ zG := zG_mk (zG_t1 (List.mem_of_getElem? (i := 25) rfl)) rfl
theorem gw_1_26 : (Cond.classLink "WingDoor" 7 "WingDoor$Text") ∈ zG := zG_mk (zG_t1 (List.mem_of_getElem? (i := 26) rfl)) rfl
theorem gw_1_27 : (Cond.instantiable "WingDoor$Text" 7) ∈ zG := zG_mk (zG_t1 (List.mem_of_getElem? (i := 27) rfl)) rfl
theorem gw_1_29 : (Cond.instanceMethod ⟨"WingDoor$Text", "<init>", "()V"⟩) ∈ zG := zG_mk (zG_t1 (List.mem_of_getElem? (i := 29) rfl)) rfl
theorem gw_1_30 : (Cond.code ⟨"WingDoor$Text", "<init>", "()V"⟩ prog_12_method_1_code 1 none) ∈ zG := zG_mk (zG_t1 (List.mem_of_getElem? (i := 30) rfl)) rfl
theorem gw_1_31 : (Cond.methodLink "WingDoor$Text" 3 ⟨"java/lang/Object", "<init>", "()V"⟩) ∈ zG := zG_mk (zG_t1 (List.mem_of_getElem? (i := 31) rfl)) rfl
theorem gw_1_32 : (Cond.fieldLink "WingDoor$Text" 9 "WingDoor$Text" "letters" "[I") ∈ zG := zG_mk (zG_t1 (List.mem_of_getElem? (i := 32) rfl)) rfl
theorem gw_1_33 : (Cond.fieldLink "WingDoor$Text" 15 "WingDoor$Text" "length" "I") ∈ zG := zG_mk (zG_t1 (List.mem_of_getElem? (i := 33) rfl)) rfl
theorem gw_1_35 : (Cond.fieldLink "WingDoor$Text" 28 "WingDoor$Text" "at" "I") ∈ zG := zG_mk (zG_t1 (List.mem_of_getElem? (i := 35) rfl)) rfl
theorem gw_1_36 : (Cond.fieldLink "WingDoor$Text" 34 "WingDoor$Text" "token" "I") ∈ zG := zG_mk (zG_t1 (List.mem_of_getElem? (i := 36) rfl)) rfl
theorem gw_1_37 : (Cond.fieldLink "WingDoor$Text" 41 "WingDoor$Text" "tokenAt" "I") ∈ zG := zG_mk (zG_t1 (List.mem_of_getElem? (i := 37) rfl)) rfl
theorem gw_1_38 : (Cond.fieldLink "WingDoor$Text" 61 "WingDoor$Text" "number" "I") ∈ zG := zG_mk (zG_t1 (List.mem_of_getElem? (i := 38) rfl)) rfl
theorem gw_1_39 : (Cond.fieldLink "WingDoor$Text" 24 "WingDoor$Text" "hardIsTold" "Z") ∈ zG := zG_mk (zG_t1 (List.mem_of_getElem? (i := 39) rfl)) rfl
theorem gw_1_40 : (Cond.laysFinal "WingDoor$Text" "WingDoor$Text" "letters" "[I") ∈ zG := zG_mk (zG_t1 (List.mem_of_getElem? (i := 40) rfl)) rfl
theorem gw_1_42 : (Cond.lays "WingDoor$Text" "WingDoor$Text" "length" "I") ∈ zG := zG_mk (zG_t1 (List.mem_of_getElem? (i := 42) rfl)) rfl
theorem gw_1_44 : (Cond.lays "WingDoor$Text" "WingDoor$Text" "at" "I") ∈ zG := zG_mk (zG_t1 (List.mem_of_getElem? (i := 44) rfl)) rfl
theorem gw_1_46 : (Cond.lays "WingDoor$Text" "WingDoor$Text" "token" "I") ∈ zG := zG_mk (zG_t1 (List.mem_of_getElem? (i := 46) rfl)) rfl
theorem gw_1_48 : (Cond.lays "WingDoor$Text" "WingDoor$Text" "tokenAt" "I") ∈ zG := zG_mk (zG_t1 (List.mem_of_getElem? (i := 48) rfl)) rfl
theorem gw_1_50 : (Cond.lays "WingDoor$Text" "WingDoor$Text" "number" "I") ∈ zG := zG_mk (zG_t1 (List.mem_of_getElem? (i := 50) rfl)) rfl
theorem gw_1_52 : (Cond.lays "WingDoor$Text" "WingDoor$Text" "hardIsTold" "Z") ∈ zG := zG_mk (zG_t1 (List.mem_of_getElem? (i := 52) rfl)) rfl
theorem gw_1_54 : (Cond.superclass "WingDoor$Text" "java/lang/Object") ∈ zG := zG_mk (zG_t1 (List.mem_of_getElem? (i := 54) rfl)) rfl
theorem gw_1_55 : (Cond.arrayClass .int) ∈ zG := zG_mk (zG_t1 (List.mem_of_getElem? (i := 55) rfl)) rfl
theorem gw_1_56 : (Cond.classLink "WingDoor" 16 "WingDoor$Plan") ∈ zG := zG_mk (zG_t1 (List.mem_of_getElem? (i := 56) rfl)) rfl
theorem gw_1_57 : (Cond.instantiable "WingDoor$Plan" 6) ∈ zG := zG_mk (zG_t1 (List.mem_of_getElem? (i := 57) rfl)) rfl
theorem gw_1_58 : (Cond.methodLink "WingDoor" 18 ⟨"WingDoor$Plan", "<init>", "()V"⟩) ∈ zG := zG_mk (zG_t1 (List.mem_of_getElem? (i := 58) rfl)) rfl
theorem gw_1_59 : (Cond.instanceMethod ⟨"WingDoor$Plan", "<init>", "()V"⟩) ∈ zG := zG_mk (zG_t1 (List.mem_of_getElem? (i := 59) rfl)) rfl
theorem gw_1_60 : (Cond.code ⟨"WingDoor$Plan", "<init>", "()V"⟩ prog_9_method_1_code 1 none) ∈ zG := zG_mk (zG_t1 (List.mem_of_getElem? (i := 60) rfl)) rfl
theorem gw_1_61 : (Cond.methodLink "WingDoor$Plan" 3 ⟨"java/lang/Object", "<init>", "()V"⟩) ∈ zG := zG_mk (zG_t1 (List.mem_of_getElem? (i := 61) rfl)) rfl
theorem gw_1_62 : (Cond.methodLink "WingDoor$Plan" 18 ⟨"WingDoor$Plan", "setFirst", "()V"⟩) ∈ zG := zG_mk (zG_t1 (List.mem_of_getElem? (i := 62) rfl)) rfl
theorem gw_1_63 : (Cond.instanceMethod ⟨"WingDoor$Plan", "setFirst", "()V"⟩) ∈ zG := zG_mk (zG_t1 (List.mem_of_getElem? (i := 63) rfl)) rfl
theorem gw_1_64 : (Cond.selects "WingDoor$Plan" ⟨"WingDoor$Plan", "setFirst", "()V"⟩ ⟨"WingDoor$Plan", "setFirst", "()V"⟩) ∈ zG := zG_mk (zG_t1 (List.mem_of_getElem? (i := 64) rfl)) rfl
theorem gw_1_65 : (Cond.code ⟨"WingDoor$Plan", "setFirst", "()V"⟩ prog_9_method_2_code 1 none) ∈ zG := zG_mk (zG_t1 (List.mem_of_getElem? (i := 65) rfl)) rfl
theorem gw_1_66 : (Cond.fieldLink "WingDoor$Plan" 21 "WingDoor$Plan" "rooms" "I") ∈ zG := zG_mk (zG_t1 (List.mem_of_getElem? (i := 66) rfl)) rfl
theorem gw_1_69 : (Cond.fieldLink "WingDoor$Plan" 25 "WingDoor$Plan" "wide" "I") ∈ zG := zG_mk (zG_t1 (List.mem_of_getElem? (i := 69) rfl)) rfl
theorem gw_1_73 : (Cond.fieldLink "WingDoor$Plan" 28 "WingDoor$Plan" "hard" "I") ∈ zG := zG_mk (zG_t1 (List.mem_of_getElem? (i := 73) rfl)) rfl
theorem gw_1_77 : (Cond.fieldLink "WingDoor$Plan" 31 "WingDoor$Plan" "sorts" "I") ∈ zG := zG_mk (zG_t1 (List.mem_of_getElem? (i := 77) rfl)) rfl
theorem gw_1_81 : (Cond.fieldLink "WingDoor$Plan" 9 "WingDoor$Plan" "bulk" "[I") ∈ zG := zG_mk (zG_t1 (List.mem_of_getElem? (i := 81) rfl)) rfl
theorem gw_1_82 : (Cond.fieldLink "WingDoor$Plan" 15 "WingDoor$Plan" "push" "[I") ∈ zG := zG_mk (zG_t1 (List.mem_of_getElem? (i := 82) rfl)) rfl
theorem gw_1_83 : (Cond.lays "WingDoor$Plan" "WingDoor$Plan" "rooms" "I") ∈ zG := zG_mk (zG_t1 (List.mem_of_getElem? (i := 83) rfl)) rfl
theorem gw_1_85 : (Cond.lays "WingDoor$Plan" "WingDoor$Plan" "wide" "I") ∈ zG := zG_mk (zG_t1 (List.mem_of_getElem? (i := 85) rfl)) rfl
theorem gw_1_87 : (Cond.lays "WingDoor$Plan" "WingDoor$Plan" "hard" "I") ∈ zG := zG_mk (zG_t1 (List.mem_of_getElem? (i := 87) rfl)) rfl
theorem gw_1_89 : (Cond.lays "WingDoor$Plan" "WingDoor$Plan" "sorts" "I") ∈ zG := zG_mk (zG_t1 (List.mem_of_getElem? (i := 89) rfl)) rfl
theorem gw_1_91 : (Cond.laysFinal "WingDoor$Plan" "WingDoor$Plan" "bulk" "[I") ∈ zG := zG_mk (zG_t1 (List.mem_of_getElem? (i := 91) rfl)) rfl
theorem gw_1_93 : (Cond.laysFinal "WingDoor$Plan" "WingDoor$Plan" "push" "[I") ∈ zG := zG_mk (zG_t1 (List.mem_of_getElem? (i := 93) rfl)) rfl
theorem gw_1_95 : (Cond.superclass "WingDoor$Plan" "java/lang/Object") ∈ zG := zG_mk (zG_t1 (List.mem_of_getElem? (i := 95) rfl)) rfl
theorem gw_1_96 : (Cond.classLink "WingDoor" 26 "WingDoor$Moment") ∈ zG := zG_mk (zG_t1 (List.mem_of_getElem? (i := 96) rfl)) rfl
theorem gw_1_97 : (Cond.instantiable "WingDoor$Moment" 8) ∈ zG := zG_mk (zG_t1 (List.mem_of_getElem? (i := 97) rfl)) rfl
theorem gw_1_98 : (Cond.methodLink "WingDoor" 28 ⟨"WingDoor$Moment", "<init>", "(LWingDoor$Plan;)V"⟩) ∈ zG := zG_mk (zG_t1 (List.mem_of_getElem? (i := 98) rfl)) rfl
theorem gw_1_99 : (Cond.instanceMethod ⟨"WingDoor$Moment", "<init>", "(LWingDoor$Plan;)V"⟩) ∈ zG := zG_mk (zG_t1 (List.mem_of_getElem? (i := 99) rfl)) rfl
theorem gw_1_100 : (Cond.code ⟨"WingDoor$Moment", "<init>", "(LWingDoor$Plan;)V"⟩ prog_7_method_1_code 2 none) ∈ zG := zG_mk (zG_t1 (List.mem_of_getElem? (i := 100) rfl)) rfl
theorem gw_1_101 : (Cond.methodLink "WingDoor$Moment" 3 ⟨"java/lang/Object", "<init>", "()V"⟩) ∈ zG := zG_mk (zG_t1 (List.mem_of_getElem? (i := 101) rfl)) rfl
theorem gw_1_102 : (Cond.fieldLink "WingDoor$Moment" 27 "WingDoor$Moment" "plan" "LWingDoor$Plan;") ∈ zG := zG_mk (zG_t1 (List.mem_of_getElem? (i := 102) rfl)) rfl
theorem gw_1_103 : (Cond.fieldLink "WingDoor$Moment" 31 "WingDoor$Moment" "step" "I") ∈ zG := zG_mk (zG_t1 (List.mem_of_getElem? (i := 103) rfl)) rfl
theorem gw_1_106 : (Cond.fieldLink "WingDoor$Moment" 35 "WingDoor$Moment" "goers" "I") ∈ zG := zG_mk (zG_t1 (List.mem_of_getElem? (i := 106) rfl)) rfl
theorem gw_1_108 : (Cond.fieldLink "WingDoor$Moment" 9 "WingDoor$Moment" "sortOf" "[I") ∈ zG := zG_mk (zG_t1 (List.mem_of_getElem? (i := 108) rfl)) rfl
theorem gw_1_110 : (Cond.fieldLink "WingDoor$Moment" 15 "WingDoor$Moment" "sideOf" "[I") ∈ zG := zG_mk (zG_t1 (List.mem_of_getElem? (i := 110) rfl)) rfl
theorem gw_1_112 : (Cond.fieldLink "WingDoor$Moment" 18 "WingDoor$Moment" "whereOf" "[I") ∈ zG := zG_mk (zG_t1 (List.mem_of_getElem? (i := 112) rfl)) rfl
theorem gw_1_114 : (Cond.fieldLink "WingDoor$Moment" 21 "WingDoor$Moment" "placeOf" "[I") ∈ zG := zG_mk (zG_t1 (List.mem_of_getElem? (i := 114) rfl)) rfl
theorem gw_1_116 : (Cond.fieldLink "WingDoor$Moment" 24 "WingDoor$Moment" "turnOf" "[I") ∈ zG := zG_mk (zG_t1 (List.mem_of_getElem? (i := 116) rfl)) rfl
theorem gw_1_117 : (Cond.laysFinal "WingDoor$Moment" "WingDoor$Moment" "plan" "LWingDoor$Plan;") ∈ zG := zG_mk (zG_t1 (List.mem_of_getElem? (i := 117) rfl)) rfl
theorem gw_1_119 : (Cond.lays "WingDoor$Moment" "WingDoor$Moment" "step" "I") ∈ zG := zG_mk (zG_t1 (List.mem_of_getElem? (i := 119) rfl)) rfl
theorem gw_1_121 : (Cond.lays "WingDoor$Moment" "WingDoor$Moment" "goers" "I") ∈ zG := zG_mk (zG_t1 (List.mem_of_getElem? (i := 121) rfl)) rfl
theorem gw_1_123 : (Cond.laysFinal "WingDoor$Moment" "WingDoor$Moment" "sortOf" "[I") ∈ zG := zG_mk (zG_t1 (List.mem_of_getElem? (i := 123) rfl)) rfl
theorem gw_1_125 : (Cond.laysFinal "WingDoor$Moment" "WingDoor$Moment" "sideOf" "[I") ∈ zG := zG_mk (zG_t1 (List.mem_of_getElem? (i := 125) rfl)) rfl
theorem gw_1_127 : (Cond.laysFinal "WingDoor$Moment" "WingDoor$Moment" "whereOf" "[I") ∈ zG := zG_mk (zG_t1 (List.mem_of_getElem? (i := 127) rfl)) rfl
theorem gw_1_129 : (Cond.laysFinal "WingDoor$Moment" "WingDoor$Moment" "placeOf" "[I") ∈ zG := zG_mk (zG_t1 (List.mem_of_getElem? (i := 129) rfl)) rfl
theorem gw_1_131 : (Cond.laysFinal "WingDoor$Moment" "WingDoor$Moment" "turnOf" "[I") ∈ zG := zG_mk (zG_t1 (List.mem_of_getElem? (i := 131) rfl)) rfl
theorem gw_1_133 : (Cond.superclass "WingDoor$Moment" "java/lang/Object") ∈ zG := zG_mk (zG_t1 (List.mem_of_getElem? (i := 133) rfl)) rfl
theorem gw_1_134 : (Cond.classLink "WingDoor" 38 "WingDoor$Past") ∈ zG := zG_mk (zG_t1 (List.mem_of_getElem? (i := 134) rfl)) rfl
theorem gw_1_135 : (Cond.instantiable "WingDoor$Past" 3) ∈ zG := zG_mk (zG_t1 (List.mem_of_getElem? (i := 135) rfl)) rfl
theorem gw_1_136 : (Cond.methodLink "WingDoor" 40 ⟨"WingDoor$Past", "<init>", "(LWingDoor$Plan;)V"⟩) ∈ zG := zG_mk (zG_t1 (List.mem_of_getElem? (i := 136) rfl)) rfl
theorem gw_1_137 : (Cond.instanceMethod ⟨"WingDoor$Past", "<init>", "(LWingDoor$Plan;)V"⟩) ∈ zG := zG_mk (zG_t1 (List.mem_of_getElem? (i := 137) rfl)) rfl
theorem gw_1_138 : (Cond.code ⟨"WingDoor$Past", "<init>", "(LWingDoor$Plan;)V"⟩ prog_8_method_1_code 3 none) ∈ zG := zG_mk (zG_t1 (List.mem_of_getElem? (i := 138) rfl)) rfl
theorem gw_1_139 : (Cond.methodLink "WingDoor$Past" 3 ⟨"java/lang/Object", "<init>", "()V"⟩) ∈ zG := zG_mk (zG_t1 (List.mem_of_getElem? (i := 139) rfl)) rfl
theorem gw_1_140 : (Cond.classLink "WingDoor$Past" 9 "WingDoor$Moment") ∈ zG := zG_mk (zG_t1 (List.mem_of_getElem? (i := 140) rfl)) rfl
theorem gw_1_142 : (Cond.methodLink "WingDoor$Past" 17 ⟨"WingDoor$Moment", "<init>", "(LWingDoor$Plan;)V"⟩) ∈ zG := zG_mk (zG_t1 (List.mem_of_getElem? (i := 142) rfl)) rfl
theorem gw_1_143 : (Cond.fieldLink "WingDoor$Past" 11 "WingDoor$Past" "moments" "[LWingDoor$Moment;") ∈ zG := zG_mk (zG_t1 (List.mem_of_getElem? (i := 143) rfl)) rfl
theorem gw_1_144 : (Cond.fieldLink "WingDoor$Past" 20 "WingDoor$Past" "oldest" "I") ∈ zG := zG_mk (zG_t1 (List.mem_of_getElem? (i := 144) rfl)) rfl
theorem gw_1_145 : (Cond.fieldLink "WingDoor$Past" 24 "WingDoor$Past" "size" "I") ∈ zG := zG_mk (zG_t1 (List.mem_of_getElem? (i := 145) rfl)) rfl
theorem gw_1_147 : (Cond.laysFinal "WingDoor$Past" "WingDoor$Past" "moments" "[LWingDoor$Moment;") ∈ zG := zG_mk (zG_t1 (List.mem_of_getElem? (i := 147) rfl)) rfl
theorem gw_1_149 : (Cond.lays "WingDoor$Past" "WingDoor$Past" "oldest" "I") ∈ zG := zG_mk (zG_t1 (List.mem_of_getElem? (i := 149) rfl)) rfl
theorem gw_1_151 : (Cond.lays "WingDoor$Past" "WingDoor$Past" "size" "I") ∈ zG := zG_mk (zG_t1 (List.mem_of_getElem? (i := 151) rfl)) rfl
theorem gw_1_153 : (Cond.superclass "WingDoor$Past" "java/lang/Object") ∈ zG := zG_mk (zG_t1 (List.mem_of_getElem? (i := 153) rfl)) rfl
theorem gw_1_154 : (Cond.classLink "WingDoor" 53 "WingDoor$Sightings") ∈ zG := zG_mk (zG_t1 (List.mem_of_getElem? (i := 154) rfl)) rfl
theorem gw_1_155 : (Cond.instantiable "WingDoor$Sightings" 5) ∈ zG := zG_mk (zG_t1 (List.mem_of_getElem? (i := 155) rfl)) rfl
theorem gw_1_156 : (Cond.methodLink "WingDoor" 55 ⟨"WingDoor$Sightings", "<init>", "(LWingDoor$Plan;)V"⟩) ∈ zG := zG_mk (zG_t1 (List.mem_of_getElem? (i := 156) rfl)) rfl
theorem gw_1_157 : (Cond.instanceMethod ⟨"WingDoor$Sightings", "<init>", "(LWingDoor$Plan;)V"⟩) ∈ zG := zG_mk (zG_t1 (List.mem_of_getElem? (i := 157) rfl)) rfl
theorem gw_1_158 : (Cond.code ⟨"WingDoor$Sightings", "<init>", "(LWingDoor$Plan;)V"⟩ prog_10_method_1_code 2 none) ∈ zG := zG_mk (zG_t1 (List.mem_of_getElem? (i := 158) rfl)) rfl
theorem gw_1_159 : (Cond.methodLink "WingDoor$Sightings" 3 ⟨"java/lang/Object", "<init>", "()V"⟩) ∈ zG := zG_mk (zG_t1 (List.mem_of_getElem? (i := 159) rfl)) rfl
theorem gw_1_160 : (Cond.fieldLink "WingDoor$Sightings" 21 "WingDoor$Sightings" "plan" "LWingDoor$Plan;") ∈ zG := zG_mk (zG_t1 (List.mem_of_getElem? (i := 160) rfl)) rfl
theorem gw_1_161 : (Cond.fieldLink "WingDoor$Sightings" 9 "WingDoor$Sightings" "what" "[I") ∈ zG := zG_mk (zG_t1 (List.mem_of_getElem? (i := 161) rfl)) rfl
theorem gw_1_162 : (Cond.fieldLink "WingDoor$Sightings" 15 "WingDoor$Sightings" "bound" "[I") ∈ zG := zG_mk (zG_t1 (List.mem_of_getElem? (i := 162) rfl)) rfl
theorem gw_1_163 : (Cond.fieldLink "WingDoor$Sightings" 18 "WingDoor$Sightings" "most" "[I") ∈ zG := zG_mk (zG_t1 (List.mem_of_getElem? (i := 163) rfl)) rfl
theorem gw_1_164 : (Cond.fieldLink "WingDoor$Sightings" 25 "WingDoor$Sightings" "size" "I") ∈ zG := zG_mk (zG_t1 (List.mem_of_getElem? (i := 164) rfl)) rfl
theorem gw_1_166 : (Cond.laysFinal "WingDoor$Sightings" "WingDoor$Sightings" "plan" "LWingDoor$Plan;") ∈ zG := zG_mk (zG_t1 (List.mem_of_getElem? (i := 166) rfl)) rfl
theorem gw_1_168 : (Cond.laysFinal "WingDoor$Sightings" "WingDoor$Sightings" "what" "[I") ∈ zG := zG_mk (zG_t1 (List.mem_of_getElem? (i := 168) rfl)) rfl
theorem gw_1_170 : (Cond.laysFinal "WingDoor$Sightings" "WingDoor$Sightings" "bound" "[I") ∈ zG := zG_mk (zG_t1 (List.mem_of_getElem? (i := 170) rfl)) rfl
theorem gw_1_172 : (Cond.laysFinal "WingDoor$Sightings" "WingDoor$Sightings" "most" "[I") ∈ zG := zG_mk (zG_t1 (List.mem_of_getElem? (i := 172) rfl)) rfl
theorem gw_1_174 : (Cond.lays "WingDoor$Sightings" "WingDoor$Sightings" "size" "I") ∈ zG := zG_mk (zG_t1 (List.mem_of_getElem? (i := 174) rfl)) rfl
theorem gw_1_176 : (Cond.superclass "WingDoor$Sightings" "java/lang/Object") ∈ zG := zG_mk (zG_t1 (List.mem_of_getElem? (i := 176) rfl)) rfl
theorem gw_1_177 : (Cond.arrayClass .boolean) ∈ zG := zG_mk (zG_t1 (List.mem_of_getElem? (i := 177) rfl)) rfl
theorem gw_1_178 : (Cond.classLink "WingDoor" 64 "WingDoor$DoorKind") ∈ zG := zG_mk (zG_t1 (List.mem_of_getElem? (i := 178) rfl)) rfl
theorem gw_1_180 : (Cond.instantiable "WingDoor$DoorKind" 1) ∈ zG := zG_mk (zG_t1 (List.mem_of_getElem? (i := 180) rfl)) rfl
theorem gw_1_182 : (Cond.instanceMethod ⟨"WingDoor$DoorKind", "<init>", "()V"⟩) ∈ zG := zG_mk (zG_t1 (List.mem_of_getElem? (i := 182) rfl)) rfl
theorem gw_1_183 : (Cond.code ⟨"WingDoor$DoorKind", "<init>", "()V"⟩ prog_4_method_1_code 1 none) ∈ zG := zG_mk (zG_t1 (List.mem_of_getElem? (i := 183) rfl)) rfl
theorem gw_1_184 : (Cond.methodLink "WingDoor$DoorKind" 1 ⟨"java/lang/Object", "<init>", "()V"⟩) ∈ zG := zG_mk (zG_t1 (List.mem_of_getElem? (i := 184) rfl)) rfl
theorem gw_1_185 : (Cond.fieldLink "WingDoor$DoorKind" 7 "WingDoor$DoorKind" "noted" "J") ∈ zG := zG_mk (zG_t1 (List.mem_of_getElem? (i := 185) rfl)) rfl
theorem gw_1_186 : (Cond.fieldLink "WingDoor$BankKind" 7 "WingDoor$BankKind" "noted" "J") ∈ zG := zG_mk (zG_t1 (List.mem_of_getElem? (i := 186) rfl)) rfl
theorem gw_1_187 : (Cond.sameField "WingDoor$BankKind" "WingDoor$DoorKind" "noted" "J") ∈ zG := zG_mk (zG_t1 (List.mem_of_getElem? (i := 187) rfl)) rfl
theorem gw_1_188 : (Cond.fieldLink "WingDoor$CourtKind" 7 "WingDoor$CourtKind" "noted" "J") ∈ zG := zG_mk (zG_t1 (List.mem_of_getElem? (i := 188) rfl)) rfl
theorem gw_1_189 : (Cond.sameField "WingDoor$CourtKind" "WingDoor$DoorKind" "noted" "J") ∈ zG := zG_mk (zG_t1 (List.mem_of_getElem? (i := 189) rfl)) rfl
theorem gw_1_190 : (Cond.fieldLink "WingDoor$GrandKind" 7 "WingDoor$GrandKind" "noted" "J") ∈ zG := zG_mk (zG_t1 (List.mem_of_getElem? (i := 190) rfl)) rfl
theorem gw_1_191 : (Cond.sameField "WingDoor$GrandKind" "WingDoor$DoorKind" "noted" "J") ∈ zG := zG_mk (zG_t1 (List.mem_of_getElem? (i := 191) rfl)) rfl
theorem gw_1_192 : (Cond.fieldLink "WingDoor$HotelKind" 9 "WingDoor$HotelKind" "noted" "J") ∈ zG := zG_mk (zG_t1 (List.mem_of_getElem? (i := 192) rfl)) rfl
theorem gw_1_193 : (Cond.sameField "WingDoor$HotelKind" "WingDoor$DoorKind" "noted" "J") ∈ zG := zG_mk (zG_t1 (List.mem_of_getElem? (i := 193) rfl)) rfl
theorem gw_1_194 : (Cond.fieldLink "WingDoor$StoreKind" 7 "WingDoor$StoreKind" "noted" "J") ∈ zG := zG_mk (zG_t1 (List.mem_of_getElem? (i := 194) rfl)) rfl
theorem gw_1_195 : (Cond.sameField "WingDoor$StoreKind" "WingDoor$DoorKind" "noted" "J") ∈ zG := zG_mk (zG_t1 (List.mem_of_getElem? (i := 195) rfl)) rfl
theorem gw_1_196 : (Cond.fieldLink "WingDoor" 259 "WingDoor$DoorKind" "noted" "J") ∈ zG := zG_mk (zG_t1 (List.mem_of_getElem? (i := 196) rfl)) rfl
theorem gw_1_197 : (Cond.lays "WingDoor$DoorKind" "WingDoor$DoorKind" "noted" "J") ∈ zG := zG_mk (zG_t1 (List.mem_of_getElem? (i := 197) rfl)) rfl
theorem gw_1_199 : (Cond.superclass "WingDoor$DoorKind" "java/lang/Object") ∈ zG := zG_mk (zG_t1 (List.mem_of_getElem? (i := 199) rfl)) rfl
theorem gw_1_200 : (Cond.arrayClass .long) ∈ zG := zG_mk (zG_t1 (List.mem_of_getElem? (i := 200) rfl)) rfl
theorem gw_1_201 : (Cond.classLink "WingDoor" 67 "WingDoor$BankKind") ∈ zG := zG_mk (zG_t1 (List.mem_of_getElem? (i := 201) rfl)) rfl
theorem gw_1_202 : (Cond.instantiable "WingDoor$BankKind" 1) ∈ zG := zG_mk (zG_t1 (List.mem_of_getElem? (i := 202) rfl)) rfl
theorem gw_1_204 : (Cond.instanceMethod ⟨"WingDoor$BankKind", "<init>", "()V"⟩) ∈ zG := zG_mk (zG_t1 (List.mem_of_getElem? (i := 204) rfl)) rfl
theorem gw_1_205 : (Cond.code ⟨"WingDoor$BankKind", "<init>", "()V"⟩ prog_2_method_1_code 1 none) ∈ zG := zG_mk (zG_t1 (List.mem_of_getElem? (i := 205) rfl)) rfl
theorem gw_1_207 : (Cond.lays "WingDoor$BankKind" "WingDoor$DoorKind" "noted" "J") ∈ zG := zG_mk (zG_t1 (List.mem_of_getElem? (i := 207) rfl)) rfl
theorem gw_1_208 : (Cond.superclass "WingDoor$BankKind" "WingDoor$DoorKind") ∈ zG := zG_mk (zG_t1 (List.mem_of_getElem? (i := 208) rfl)) rfl
theorem gw_1_209 : (Cond.classLink "WingDoor" 70 "WingDoor$HotelKind") ∈ zG := zG_mk (zG_t1 (List.mem_of_getElem? (i := 209) rfl)) rfl
theorem gw_1_210 : (Cond.instantiable "WingDoor$HotelKind" 1) ∈ zG := zG_mk (zG_t1 (List.mem_of_getElem? (i := 210) rfl)) rfl
theorem gw_1_212 : (Cond.instanceMethod ⟨"WingDoor$HotelKind", "<init>", "()V"⟩) ∈ zG := zG_mk (zG_t1 (List.mem_of_getElem? (i := 212) rfl)) rfl
theorem gw_1_213 : (Cond.code ⟨"WingDoor$HotelKind", "<init>", "()V"⟩ prog_6_method_1_code 1 none) ∈ zG := zG_mk (zG_t1 (List.mem_of_getElem? (i := 213) rfl)) rfl
theorem gw_1_215 : (Cond.lays "WingDoor$HotelKind" "WingDoor$DoorKind" "noted" "J") ∈ zG := zG_mk (zG_t1 (List.mem_of_getElem? (i := 215) rfl)) rfl
theorem gw_1_216 : (Cond.superclass "WingDoor$HotelKind" "WingDoor$DoorKind") ∈ zG := zG_mk (zG_t1 (List.mem_of_getElem? (i := 216) rfl)) rfl
theorem gw_1_217 : (Cond.classLink "WingDoor" 73 "WingDoor$CourtKind") ∈ zG := zG_mk (zG_t1 (List.mem_of_getElem? (i := 217) rfl)) rfl
theorem gw_1_218 : (Cond.instantiable "WingDoor$CourtKind" 1) ∈ zG := zG_mk (zG_t1 (List.mem_of_getElem? (i := 218) rfl)) rfl
theorem gw_1_220 : (Cond.instanceMethod ⟨"WingDoor$CourtKind", "<init>", "()V"⟩) ∈ zG := zG_mk (zG_t1 (List.mem_of_getElem? (i := 220) rfl)) rfl
theorem gw_1_221 : (Cond.code ⟨"WingDoor$CourtKind", "<init>", "()V"⟩ prog_3_method_1_code 1 none) ∈ zG := zG_mk (zG_t1 (List.mem_of_getElem? (i := 221) rfl)) rfl
theorem gw_1_223 : (Cond.lays "WingDoor$CourtKind" "WingDoor$DoorKind" "noted" "J") ∈ zG := zG_mk (zG_t1 (List.mem_of_getElem? (i := 223) rfl)) rfl
theorem gw_1_224 : (Cond.superclass "WingDoor$CourtKind" "WingDoor$BankKind") ∈ zG := zG_mk (zG_t1 (List.mem_of_getElem? (i := 224) rfl)) rfl
theorem gw_1_225 : (Cond.classLink "WingDoor" 76 "WingDoor$GrandKind") ∈ zG := zG_mk (zG_t1 (List.mem_of_getElem? (i := 225) rfl)) rfl
theorem gw_1_226 : (Cond.instantiable "WingDoor$GrandKind" 1) ∈ zG := zG_mk (zG_t1 (List.mem_of_getElem? (i := 226) rfl)) rfl
theorem gw_1_228 : (Cond.instanceMethod ⟨"WingDoor$GrandKind", "<init>", "()V"⟩) ∈ zG := zG_mk (zG_t1 (List.mem_of_getElem? (i := 228) rfl)) rfl
theorem gw_1_229 : (Cond.code ⟨"WingDoor$GrandKind", "<init>", "()V"⟩ prog_5_method_1_code 1 none) ∈ zG := zG_mk (zG_t1 (List.mem_of_getElem? (i := 229) rfl)) rfl
theorem gw_1_231 : (Cond.lays "WingDoor$GrandKind" "WingDoor$DoorKind" "noted" "J") ∈ zG := zG_mk (zG_t1 (List.mem_of_getElem? (i := 231) rfl)) rfl
theorem gw_1_232 : (Cond.superclass "WingDoor$GrandKind" "WingDoor$HotelKind") ∈ zG := zG_mk (zG_t1 (List.mem_of_getElem? (i := 232) rfl)) rfl
theorem gw_1_233 : (Cond.classLink "WingDoor" 79 "WingDoor$StoreKind") ∈ zG := zG_mk (zG_t1 (List.mem_of_getElem? (i := 233) rfl)) rfl
theorem gw_1_234 : (Cond.instantiable "WingDoor$StoreKind" 1) ∈ zG := zG_mk (zG_t1 (List.mem_of_getElem? (i := 234) rfl)) rfl
theorem gw_1_236 : (Cond.instanceMethod ⟨"WingDoor$StoreKind", "<init>", "()V"⟩) ∈ zG := zG_mk (zG_t1 (List.mem_of_getElem? (i := 236) rfl)) rfl
theorem gw_1_237 : (Cond.code ⟨"WingDoor$StoreKind", "<init>", "()V"⟩ prog_11_method_1_code 1 none) ∈ zG := zG_mk (zG_t1 (List.mem_of_getElem? (i := 237) rfl)) rfl
theorem gw_1_239 : (Cond.lays "WingDoor$StoreKind" "WingDoor$DoorKind" "noted" "J") ∈ zG := zG_mk (zG_t1 (List.mem_of_getElem? (i := 239) rfl)) rfl
theorem gw_2_0 : (Cond.superclass "WingDoor$StoreKind" "WingDoor$DoorKind") ∈ zG := zG_mk (zG_t2 (List.mem_of_getElem? (i := 0) rfl)) rfl
theorem gw_2_1 : (Cond.fieldLink "WingDoor" 10 "WingDoor" "text" "LWingDoor$Text;") ∈ zG := zG_mk (zG_t2 (List.mem_of_getElem? (i := 1) rfl)) rfl
theorem gw_2_2 : (Cond.fieldLink "WingDoor" 19 "WingDoor" "plan" "LWingDoor$Plan;") ∈ zG := zG_mk (zG_t2 (List.mem_of_getElem? (i := 2) rfl)) rfl
theorem gw_2_3 : (Cond.fieldLink "WingDoor" 23 "WingDoor" "draft" "LWingDoor$Plan;") ∈ zG := zG_mk (zG_t2 (List.mem_of_getElem? (i := 3) rfl)) rfl
theorem gw_2_4 : (Cond.fieldLink "WingDoor" 31 "WingDoor" "state" "LWingDoor$Moment;") ∈ zG := zG_mk (zG_t2 (List.mem_of_getElem? (i := 4) rfl)) rfl
theorem gw_2_5 : (Cond.fieldLink "WingDoor" 35 "WingDoor" "trial" "LWingDoor$Moment;") ∈ zG := zG_mk (zG_t2 (List.mem_of_getElem? (i := 5) rfl)) rfl
theorem gw_2_6 : (Cond.fieldLink "WingDoor" 41 "WingDoor" "past" "LWingDoor$Past;") ∈ zG := zG_mk (zG_t2 (List.mem_of_getElem? (i := 6) rfl)) rfl
theorem gw_2_7 : (Cond.fieldLink "WingDoor" 45 "WingDoor" "images" "[LWingDoor$Moment;") ∈ zG := zG_mk (zG_t2 (List.mem_of_getElem? (i := 7) rfl)) rfl
theorem gw_2_8 : (Cond.fieldLink "WingDoor" 49 "WingDoor" "imageKept" "[Z") ∈ zG := zG_mk (zG_t2 (List.mem_of_getElem? (i := 8) rfl)) rfl
theorem gw_2_9 : (Cond.fieldLink "WingDoor" 56 "WingDoor" "sightings" "LWingDoor$Sightings;") ∈ zG := zG_mk (zG_t2 (List.mem_of_getElem? (i := 9) rfl)) rfl
theorem gw_2_10 : (Cond.fieldLink "WingDoor" 60 "WingDoor" "ways" "[J") ∈ zG := zG_mk (zG_t2 (List.mem_of_getElem? (i := 10) rfl)) rfl
theorem gw_2_11 : (Cond.fieldLink "WingDoor" 82 "WingDoor" "kinds" "[LWingDoor$DoorKind;") ∈ zG := zG_mk (zG_t2 (List.mem_of_getElem? (i := 11) rfl)) rfl
theorem gw_2_12 : (Cond.laysFinal "WingDoor" "WingDoor" "text" "LWingDoor$Text;") ∈ zG := zG_mk (zG_t2 (List.mem_of_getElem? (i := 12) rfl)) rfl
theorem gw_2_14 : (Cond.laysFinal "WingDoor" "WingDoor" "plan" "LWingDoor$Plan;") ∈ zG := zG_mk (zG_t2 (List.mem_of_getElem? (i := 14) rfl)) rfl
theorem gw_2_16 : (Cond.laysFinal "WingDoor" "WingDoor" "draft" "LWingDoor$Plan;") ∈ zG := zG_mk (zG_t2 (List.mem_of_getElem? (i := 16) rfl)) rfl
theorem gw_2_18 : (Cond.laysFinal "WingDoor" "WingDoor" "state" "LWingDoor$Moment;") ∈ zG := zG_mk (zG_t2 (List.mem_of_getElem? (i := 18) rfl)) rfl
theorem gw_2_20 : (Cond.laysFinal "WingDoor" "WingDoor" "trial" "LWingDoor$Moment;") ∈ zG := zG_mk (zG_t2 (List.mem_of_getElem? (i := 20) rfl)) rfl
theorem gw_2_22 : (Cond.laysFinal "WingDoor" "WingDoor" "past" "LWingDoor$Past;") ∈ zG := zG_mk (zG_t2 (List.mem_of_getElem? (i := 22) rfl)) rfl
theorem gw_2_24 : (Cond.laysFinal "WingDoor" "WingDoor" "images" "[LWingDoor$Moment;") ∈ zG := zG_mk (zG_t2 (List.mem_of_getElem? (i := 24) rfl)) rfl
theorem gw_2_26 : (Cond.laysFinal "WingDoor" "WingDoor" "imageKept" "[Z") ∈ zG := zG_mk (zG_t2 (List.mem_of_getElem? (i := 26) rfl)) rfl
theorem gw_2_28 : (Cond.laysFinal "WingDoor" "WingDoor" "sightings" "LWingDoor$Sightings;") ∈ zG := zG_mk (zG_t2 (List.mem_of_getElem? (i := 28) rfl)) rfl
theorem gw_2_30 : (Cond.laysFinal "WingDoor" "WingDoor" "ways" "[J") ∈ zG := zG_mk (zG_t2 (List.mem_of_getElem? (i := 30) rfl)) rfl
theorem gw_2_32 : (Cond.laysFinal "WingDoor" "WingDoor" "kinds" "[LWingDoor$DoorKind;") ∈ zG := zG_mk (zG_t2 (List.mem_of_getElem? (i := 32) rfl)) rfl
theorem gw_2_34 : (Cond.superclass "WingDoor" "java/lang/Object") ∈ zG := zG_mk (zG_t2 (List.mem_of_getElem? (i := 34) rfl)) rfl
theorem gw_2_35 : (Cond.methodLink "WingDoorLaw" 13 ⟨"WingDoor", "type", "(I)I"⟩) ∈ zG := zG_mk (zG_t2 (List.mem_of_getElem? (i := 35) rfl)) rfl
theorem gw_2_36 : (Cond.instanceMethod ⟨"WingDoor", "type", "(I)I"⟩) ∈ zG := zG_mk (zG_t2 (List.mem_of_getElem? (i := 36) rfl)) rfl
theorem gw_2_37 : (Cond.selects "WingDoor" ⟨"WingDoor", "type", "(I)I"⟩ ⟨"WingDoor", "type", "(I)I"⟩) ∈ zG := zG_mk (zG_t2 (List.mem_of_getElem? (i := 37) rfl)) rfl
theorem gw_2_38 : (Cond.code ⟨"WingDoor", "type", "(I)I"⟩ prog_1_method_2_code 2 (some .int)) ∈ zG := zG_mk (zG_t2 (List.mem_of_getElem? (i := 38) rfl)) rfl
theorem gw_2_39 : (Cond.methodLink "WingDoor" 86 ⟨"WingDoor$Text", "add", "(I)Z"⟩) ∈ zG := zG_mk (zG_t2 (List.mem_of_getElem? (i := 39) rfl)) rfl
theorem gw_2_40 : (Cond.instanceMethod ⟨"WingDoor$Text", "add", "(I)Z"⟩) ∈ zG := zG_mk (zG_t2 (List.mem_of_getElem? (i := 40) rfl)) rfl
theorem gw_2_41 : (Cond.selects "WingDoor$Text" ⟨"WingDoor$Text", "add", "(I)Z"⟩ ⟨"WingDoor$Text", "add", "(I)Z"⟩) ∈ zG := zG_mk (zG_t2 (List.mem_of_getElem? (i := 41) rfl)) rfl
theorem gw_2_42 : (Cond.code ⟨"WingDoor$Text", "add", "(I)Z"⟩ prog_12_method_2_code 2 (some .boolean)) ∈ zG := zG_mk (zG_t2 (List.mem_of_getElem? (i := 42) rfl)) rfl
theorem gw_2_43 : (Cond.methodLink "WingDoorLaw" 18 ⟨"WingDoor", "clear", "()I"⟩) ∈ zG := zG_mk (zG_t2 (List.mem_of_getElem? (i := 43) rfl)) rfl
theorem gw_2_44 : (Cond.instanceMethod ⟨"WingDoor", "clear", "()I"⟩) ∈ zG := zG_mk (zG_t2 (List.mem_of_getElem? (i := 44) rfl)) rfl
theorem gw_2_45 : (Cond.selects "WingDoor" ⟨"WingDoor", "clear", "()I"⟩ ⟨"WingDoor", "clear", "()I"⟩) ∈ zG := zG_mk (zG_t2 (List.mem_of_getElem? (i := 45) rfl)) rfl
theorem gw_2_46 : (Cond.code ⟨"WingDoor", "clear", "()I"⟩ prog_1_method_3_code 2 (some .int)) ∈ zG := zG_mk (zG_t2 (List.mem_of_getElem? (i := 46) rfl)) rfl
theorem gw_2_47 : (Cond.methodLink "WingDoorLaw" 23 ⟨"WingDoor", "door", "()I"⟩) ∈ zG := zG_mk (zG_t2 (List.mem_of_getElem? (i := 47) rfl)) rfl
theorem gw_2_48 : (Cond.instanceMethod ⟨"WingDoor", "door", "()I"⟩) ∈ zG := zG_mk (zG_t2 (List.mem_of_getElem? (i := 48) rfl)) rfl
theorem gw_2_49 : (Cond.selects "WingDoor" ⟨"WingDoor", "door", "()I"⟩ ⟨"WingDoor", "door", "()I"⟩) ∈ zG := zG_mk (zG_t2 (List.mem_of_getElem? (i := 49) rfl)) rfl
theorem gw_2_50 : (Cond.code ⟨"WingDoor", "door", "()I"⟩ prog_1_method_4_code 3 (some .int)) ∈ zG := zG_mk (zG_t2 (List.mem_of_getElem? (i := 50) rfl)) rfl
theorem gw_2_51 : (Cond.methodLink "WingDoor" 94 ⟨"WingDoor$Text", "tellTo", "(LWingDoor$Plan;)I"⟩) ∈ zG := zG_mk (zG_t2 (List.mem_of_getElem? (i := 51) rfl)) rfl
theorem gw_2_52 : (Cond.instanceMethod ⟨"WingDoor$Text", "tellTo", "(LWingDoor$Plan;)I"⟩) ∈ zG := zG_mk (zG_t2 (List.mem_of_getElem? (i := 52) rfl)) rfl
theorem gw_2_53 : (Cond.selects "WingDoor$Text" ⟨"WingDoor$Text", "tellTo", "(LWingDoor$Plan;)I"⟩ ⟨"WingDoor$Text", "tellTo", "(LWingDoor$Plan;)I"⟩) ∈ zG := zG_mk (zG_t2 (List.mem_of_getElem? (i := 53) rfl)) rfl
theorem gw_2_54 : (Cond.code ⟨"WingDoor$Text", "tellTo", "(LWingDoor$Plan;)I"⟩ prog_12_method_3_code 3 (some .int)) ∈ zG := zG_mk (zG_t2 (List.mem_of_getElem? (i := 54) rfl)) rfl
theorem gw_2_55 : (Cond.methodLink "WingDoor$Text" 19 ⟨"WingDoor$Plan", "setFirst", "()V"⟩) ∈ zG := zG_mk (zG_t2 (List.mem_of_getElem? (i := 55) rfl)) rfl
theorem gw_2_56 : (Cond.methodLink "WingDoor$Text" 31 ⟨"WingDoor$Text", "readToken", "()V"⟩) ∈ zG := zG_mk (zG_t2 (List.mem_of_getElem? (i := 56) rfl)) rfl
theorem gw_2_58 : (Cond.instanceMethod ⟨"WingDoor$Text", "readToken", "()V"⟩) ∈ zG := zG_mk (zG_t2 (List.mem_of_getElem? (i := 58) rfl)) rfl
theorem gw_2_59 : (Cond.code ⟨"WingDoor$Text", "readToken", "()V"⟩ prog_12_method_10_code 2 none) ∈ zG := zG_mk (zG_t2 (List.mem_of_getElem? (i := 59) rfl)) rfl
theorem gw_2_60 : (Cond.methodLink "WingDoor$Text" 81 ⟨"WingDoor$Text", "readDigits", "()V"⟩) ∈ zG := zG_mk (zG_t2 (List.mem_of_getElem? (i := 60) rfl)) rfl
theorem gw_2_62 : (Cond.instanceMethod ⟨"WingDoor$Text", "readDigits", "()V"⟩) ∈ zG := zG_mk (zG_t2 (List.mem_of_getElem? (i := 62) rfl)) rfl
theorem gw_2_63 : (Cond.code ⟨"WingDoor$Text", "readDigits", "()V"⟩ prog_12_method_11_code 3 none) ∈ zG := zG_mk (zG_t2 (List.mem_of_getElem? (i := 63) rfl)) rfl
theorem gw_2_64 : (Cond.methodLink "WingDoor$Text" 37 ⟨"WingDoor$Text", "readItem", "(LWingDoor$Plan;I)Z"⟩) ∈ zG := zG_mk (zG_t2 (List.mem_of_getElem? (i := 64) rfl)) rfl
theorem gw_2_66 : (Cond.instanceMethod ⟨"WingDoor$Text", "readItem", "(LWingDoor$Plan;I)Z"⟩) ∈ zG := zG_mk (zG_t2 (List.mem_of_getElem? (i := 66) rfl)) rfl
theorem gw_2_67 : (Cond.code ⟨"WingDoor$Text", "readItem", "(LWingDoor$Plan;I)Z"⟩ prog_12_method_4_code 3 (some .boolean)) ∈ zG := zG_mk (zG_t2 (List.mem_of_getElem? (i := 67) rfl)) rfl
theorem gw_2_68 : (Cond.methodLink "WingDoor$Text" 44 ⟨"WingDoor$Text", "readRooms", "(LWingDoor$Plan;)Z"⟩) ∈ zG := zG_mk (zG_t2 (List.mem_of_getElem? (i := 68) rfl)) rfl
theorem gw_2_70 : (Cond.instanceMethod ⟨"WingDoor$Text", "readRooms", "(LWingDoor$Plan;)Z"⟩) ∈ zG := zG_mk (zG_t2 (List.mem_of_getElem? (i := 70) rfl)) rfl
theorem gw_2_71 : (Cond.code ⟨"WingDoor$Text", "readRooms", "(LWingDoor$Plan;)Z"⟩ prog_12_method_5_code 2 (some .boolean)) ∈ zG := zG_mk (zG_t2 (List.mem_of_getElem? (i := 71) rfl)) rfl
theorem gw_2_72 : (Cond.methodLink "WingDoor$Text" 57 ⟨"WingDoor$Text", "readNumber", "(II)Z"⟩) ∈ zG := zG_mk (zG_t2 (List.mem_of_getElem? (i := 72) rfl)) rfl
theorem gw_2_74 : (Cond.instanceMethod ⟨"WingDoor$Text", "readNumber", "(II)Z"⟩) ∈ zG := zG_mk (zG_t2 (List.mem_of_getElem? (i := 74) rfl)) rfl
theorem gw_2_75 : (Cond.code ⟨"WingDoor$Text", "readNumber", "(II)Z"⟩ prog_12_method_8_code 3 (some .boolean)) ∈ zG := zG_mk (zG_t2 (List.mem_of_getElem? (i := 75) rfl)) rfl
theorem gw_2_76 : (Cond.methodLink "WingDoor$Text" 70 ⟨"WingDoor$Text", "readSemicolon", "()Z"⟩) ∈ zG := zG_mk (zG_t2 (List.mem_of_getElem? (i := 76) rfl)) rfl
theorem gw_2_78 : (Cond.instanceMethod ⟨"WingDoor$Text", "readSemicolon", "()Z"⟩) ∈ zG := zG_mk (zG_t2 (List.mem_of_getElem? (i := 78) rfl)) rfl
theorem gw_2_79 : (Cond.code ⟨"WingDoor$Text", "readSemicolon", "()Z"⟩ prog_12_method_9_code 1 (some .boolean)) ∈ zG := zG_mk (zG_t2 (List.mem_of_getElem? (i := 79) rfl)) rfl
theorem gw_2_80 : (Cond.methodLink "WingDoor$Text" 48 ⟨"WingDoor$Text", "readHard", "(LWingDoor$Plan;)Z"⟩) ∈ zG := zG_mk (zG_t2 (List.mem_of_getElem? (i := 80) rfl)) rfl
theorem gw_2_82 : (Cond.instanceMethod ⟨"WingDoor$Text", "readHard", "(LWingDoor$Plan;)Z"⟩) ∈ zG := zG_mk (zG_t2 (List.mem_of_getElem? (i := 82) rfl)) rfl
theorem gw_2_83 : (Cond.code ⟨"WingDoor$Text", "readHard", "(LWingDoor$Plan;)Z"⟩ prog_12_method_6_code 2 (some .boolean)) ∈ zG := zG_mk (zG_t2 (List.mem_of_getElem? (i := 83) rfl)) rfl
theorem gw_2_84 : (Cond.methodLink "WingDoor$Text" 54 ⟨"WingDoor$Text", "readSort", "(LWingDoor$Plan;)Z"⟩) ∈ zG := zG_mk (zG_t2 (List.mem_of_getElem? (i := 84) rfl)) rfl
theorem gw_2_86 : (Cond.instanceMethod ⟨"WingDoor$Text", "readSort", "(LWingDoor$Plan;)Z"⟩) ∈ zG := zG_mk (zG_t2 (List.mem_of_getElem? (i := 86) rfl)) rfl
theorem gw_2_87 : (Cond.code ⟨"WingDoor$Text", "readSort", "(LWingDoor$Plan;)Z"⟩ prog_12_method_7_code 3 (some .boolean)) ∈ zG := zG_mk (zG_t2 (List.mem_of_getElem? (i := 87) rfl)) rfl
theorem gw_2_88 : (Cond.methodLink "WingDoor$Text" 77 ⟨"WingDoor$Plan", "addSort", "(II)V"⟩) ∈ zG := zG_mk (zG_t2 (List.mem_of_getElem? (i := 88) rfl)) rfl
theorem gw_2_89 : (Cond.instanceMethod ⟨"WingDoor$Plan", "addSort", "(II)V"⟩) ∈ zG := zG_mk (zG_t2 (List.mem_of_getElem? (i := 89) rfl)) rfl
theorem gw_2_90 : (Cond.selects "WingDoor$Plan" ⟨"WingDoor$Plan", "addSort", "(II)V"⟩ ⟨"WingDoor$Plan", "addSort", "(II)V"⟩) ∈ zG := zG_mk (zG_t2 (List.mem_of_getElem? (i := 90) rfl)) rfl
theorem gw_2_91 : (Cond.code ⟨"WingDoor$Plan", "addSort", "(II)V"⟩ prog_9_method_4_code 3 none) ∈ zG := zG_mk (zG_t2 (List.mem_of_getElem? (i := 91) rfl)) rfl
theorem gw_2_92 : (Cond.methodLink "WingDoor" 98 ⟨"WingDoor$Plan", "copy", "(LWingDoor$Plan;)V"⟩) ∈ zG := zG_mk (zG_t2 (List.mem_of_getElem? (i := 92) rfl)) rfl
theorem gw_2_93 : (Cond.instanceMethod ⟨"WingDoor$Plan", "copy", "(LWingDoor$Plan;)V"⟩) ∈ zG := zG_mk (zG_t2 (List.mem_of_getElem? (i := 93) rfl)) rfl
theorem gw_2_94 : (Cond.selects "WingDoor$Plan" ⟨"WingDoor$Plan", "copy", "(LWingDoor$Plan;)V"⟩ ⟨"WingDoor$Plan", "copy", "(LWingDoor$Plan;)V"⟩) ∈ zG := zG_mk (zG_t2 (List.mem_of_getElem? (i := 94) rfl)) rfl
theorem gw_2_95 : (Cond.code ⟨"WingDoor$Plan", "copy", "(LWingDoor$Plan;)V"⟩ prog_9_method_3_code 2 none) ∈ zG := zG_mk (zG_t2 (List.mem_of_getElem? (i := 95) rfl)) rfl
theorem gw_2_96 : (Cond.methodLink "WingDoor$Plan" 34 ⟨"java/lang/System", "arraycopy", "(Ljava/lang/Object;ILjava/lang/Object;II)V"⟩) ∈ zG := zG_mk (zG_t2 (List.mem_of_getElem? (i := 96) rfl)) rfl
theorem gw_2_97 : (Cond.static ⟨"java/lang/System", "arraycopy", "(Ljava/lang/Object;ILjava/lang/Object;II)V"⟩) ∈ zG := zG_mk (zG_t2 (List.mem_of_getElem? (i := 97) rfl)) rfl
theorem gw_2_98 : (Cond.native ⟨"java/lang/System", "arraycopy", "(Ljava/lang/Object;ILjava/lang/Object;II)V"⟩) ∈ zG := zG_mk (zG_t2 (List.mem_of_getElem? (i := 98) rfl)) rfl
theorem gw_2_99 : (Cond.methodLink "WingDoor" 101 ⟨"WingDoor$Moment", "empty", "()V"⟩) ∈ zG := zG_mk (zG_t2 (List.mem_of_getElem? (i := 99) rfl)) rfl
theorem gw_2_100 : (Cond.instanceMethod ⟨"WingDoor$Moment", "empty", "()V"⟩) ∈ zG := zG_mk (zG_t2 (List.mem_of_getElem? (i := 100) rfl)) rfl
theorem gw_2_101 : (Cond.selects "WingDoor$Moment" ⟨"WingDoor$Moment", "empty", "()V"⟩ ⟨"WingDoor$Moment", "empty", "()V"⟩) ∈ zG := zG_mk (zG_t2 (List.mem_of_getElem? (i := 101) rfl)) rfl
theorem gw_2_102 : (Cond.code ⟨"WingDoor$Moment", "empty", "()V"⟩ prog_7_method_2_code 1 none) ∈ zG := zG_mk (zG_t2 (List.mem_of_getElem? (i := 102) rfl)) rfl
theorem gw_2_103 : (Cond.methodLink "WingDoorLaw" 27 ⟨"WingDoor", "sort", "(II)I"⟩) ∈ zG := zG_mk (zG_t2 (List.mem_of_getElem? (i := 103) rfl)) rfl
theorem gw_2_104 : (Cond.instanceMethod ⟨"WingDoor", "sort", "(II)I"⟩) ∈ zG := zG_mk (zG_t2 (List.mem_of_getElem? (i := 104) rfl)) rfl
theorem gw_2_105 : (Cond.selects "WingDoor" ⟨"WingDoor", "sort", "(II)I"⟩ ⟨"WingDoor", "sort", "(II)I"⟩) ∈ zG := zG_mk (zG_t2 (List.mem_of_getElem? (i := 105) rfl)) rfl
theorem gw_2_106 : (Cond.code ⟨"WingDoor", "sort", "(II)I"⟩ prog_1_method_5_code 3 (some .int)) ∈ zG := zG_mk (zG_t2 (List.mem_of_getElem? (i := 106) rfl)) rfl
theorem gw_2_107 : (Cond.methodLink "WingDoor" 108 ⟨"WingDoor$Plan", "hasSort", "(I)Z"⟩) ∈ zG := zG_mk (zG_t2 (List.mem_of_getElem? (i := 107) rfl)) rfl
theorem gw_2_108 : (Cond.instanceMethod ⟨"WingDoor$Plan", "hasSort", "(I)Z"⟩) ∈ zG := zG_mk (zG_t2 (List.mem_of_getElem? (i := 108) rfl)) rfl
theorem gw_2_109 : (Cond.selects "WingDoor$Plan" ⟨"WingDoor$Plan", "hasSort", "(I)Z"⟩ ⟨"WingDoor$Plan", "hasSort", "(I)Z"⟩) ∈ zG := zG_mk (zG_t2 (List.mem_of_getElem? (i := 109) rfl)) rfl
theorem gw_2_110 : (Cond.code ⟨"WingDoor$Plan", "hasSort", "(I)Z"⟩ prog_9_method_5_code 2 (some .boolean)) ∈ zG := zG_mk (zG_t2 (List.mem_of_getElem? (i := 110) rfl)) rfl
theorem gw_2_111 : (Cond.methodLink "WingDoor" 111 ⟨"WingDoor$Plan", "bulkOf", "(I)I"⟩) ∈ zG := zG_mk (zG_t2 (List.mem_of_getElem? (i := 111) rfl)) rfl
theorem gw_2_112 : (Cond.instanceMethod ⟨"WingDoor$Plan", "bulkOf", "(I)I"⟩) ∈ zG := zG_mk (zG_t2 (List.mem_of_getElem? (i := 112) rfl)) rfl
theorem gw_2_113 : (Cond.selects "WingDoor$Plan" ⟨"WingDoor$Plan", "bulkOf", "(I)I"⟩ ⟨"WingDoor$Plan", "bulkOf", "(I)I"⟩) ∈ zG := zG_mk (zG_t2 (List.mem_of_getElem? (i := 113) rfl)) rfl
theorem gw_2_114 : (Cond.code ⟨"WingDoor$Plan", "bulkOf", "(I)I"⟩ prog_9_method_6_code 2 (some .int)) ∈ zG := zG_mk (zG_t2 (List.mem_of_getElem? (i := 114) rfl)) rfl
theorem gw_2_115 : (Cond.methodLink "WingDoor" 115 ⟨"WingDoor$Plan", "pushOf", "(I)I"⟩) ∈ zG := zG_mk (zG_t2 (List.mem_of_getElem? (i := 115) rfl)) rfl
theorem gw_2_116 : (Cond.instanceMethod ⟨"WingDoor$Plan", "pushOf", "(I)I"⟩) ∈ zG := zG_mk (zG_t2 (List.mem_of_getElem? (i := 116) rfl)) rfl
theorem gw_2_117 : (Cond.selects "WingDoor$Plan" ⟨"WingDoor$Plan", "pushOf", "(I)I"⟩ ⟨"WingDoor$Plan", "pushOf", "(I)I"⟩) ∈ zG := zG_mk (zG_t2 (List.mem_of_getElem? (i := 117) rfl)) rfl
theorem gw_2_118 : (Cond.code ⟨"WingDoor$Plan", "pushOf", "(I)I"⟩ prog_9_method_7_code 2 (some .int)) ∈ zG := zG_mk (zG_t2 (List.mem_of_getElem? (i := 118) rfl)) rfl
theorem gw_2_119 : (Cond.methodLink "WingDoor" 118 ⟨"WingDoor$Moment", "howManyOfSort", "(I)I"⟩) ∈ zG := zG_mk (zG_t2 (List.mem_of_getElem? (i := 119) rfl)) rfl
theorem gw_2_120 : (Cond.instanceMethod ⟨"WingDoor$Moment", "howManyOfSort", "(I)I"⟩) ∈ zG := zG_mk (zG_t2 (List.mem_of_getElem? (i := 120) rfl)) rfl
theorem gw_2_121 : (Cond.selects "WingDoor$Moment" ⟨"WingDoor$Moment", "howManyOfSort", "(I)I"⟩ ⟨"WingDoor$Moment", "howManyOfSort", "(I)I"⟩) ∈ zG := zG_mk (zG_t2 (List.mem_of_getElem? (i := 121) rfl)) rfl
theorem gw_2_122 : (Cond.code ⟨"WingDoor$Moment", "howManyOfSort", "(I)I"⟩ prog_7_method_7_code 4 (some .int)) ∈ zG := zG_mk (zG_t2 (List.mem_of_getElem? (i := 122) rfl)) rfl
theorem gw_2_123 : (Cond.methodLink "WingDoorLaw" 32 ⟨"WingDoor", "goer", "(II)I"⟩) ∈ zG := zG_mk (zG_t2 (List.mem_of_getElem? (i := 123) rfl)) rfl
theorem gw_2_124 : (Cond.instanceMethod ⟨"WingDoor", "goer", "(II)I"⟩) ∈ zG := zG_mk (zG_t2 (List.mem_of_getElem? (i := 124) rfl)) rfl
theorem gw_2_125 : (Cond.selects "WingDoor" ⟨"WingDoor", "goer", "(II)I"⟩ ⟨"WingDoor", "goer", "(II)I"⟩) ∈ zG := zG_mk (zG_t2 (List.mem_of_getElem? (i := 125) rfl)) rfl
theorem gw_2_126 : (Cond.code ⟨"WingDoor", "goer", "(II)I"⟩ prog_1_method_6_code 3 (some .int)) ∈ zG := zG_mk (zG_t2 (List.mem_of_getElem? (i := 126) rfl)) rfl
theorem gw_2_127 : (Cond.methodLink "WingDoor" 121 ⟨"WingDoor$Moment", "hasGoer", "(I)Z"⟩) ∈ zG := zG_mk (zG_t2 (List.mem_of_getElem? (i := 127) rfl)) rfl
theorem gw_2_128 : (Cond.instanceMethod ⟨"WingDoor$Moment", "hasGoer", "(I)Z"⟩) ∈ zG := zG_mk (zG_t2 (List.mem_of_getElem? (i := 128) rfl)) rfl
theorem gw_2_129 : (Cond.selects "WingDoor$Moment" ⟨"WingDoor$Moment", "hasGoer", "(I)Z"⟩ ⟨"WingDoor$Moment", "hasGoer", "(I)Z"⟩) ∈ zG := zG_mk (zG_t2 (List.mem_of_getElem? (i := 129) rfl)) rfl
theorem gw_2_130 : (Cond.code ⟨"WingDoor$Moment", "hasGoer", "(I)Z"⟩ prog_7_method_4_code 2 (some .boolean)) ∈ zG := zG_mk (zG_t2 (List.mem_of_getElem? (i := 130) rfl)) rfl
theorem gw_2_131 : (Cond.methodLink "WingDoor" 137 ⟨"WingDoor$Moment", "howManyAheadOf", "(I)I"⟩) ∈ zG := zG_mk (zG_t2 (List.mem_of_getElem? (i := 131) rfl)) rfl
theorem gw_2_132 : (Cond.instanceMethod ⟨"WingDoor$Moment", "howManyAheadOf", "(I)I"⟩) ∈ zG := zG_mk (zG_t2 (List.mem_of_getElem? (i := 132) rfl)) rfl
theorem gw_2_133 : (Cond.selects "WingDoor$Moment" ⟨"WingDoor$Moment", "howManyAheadOf", "(I)I"⟩ ⟨"WingDoor$Moment", "howManyAheadOf", "(I)I"⟩) ∈ zG := zG_mk (zG_t2 (List.mem_of_getElem? (i := 133) rfl)) rfl
theorem gw_2_134 : (Cond.code ⟨"WingDoor$Moment", "howManyAheadOf", "(I)I"⟩ prog_7_method_16_code 5 (some .int)) ∈ zG := zG_mk (zG_t2 (List.mem_of_getElem? (i := 134) rfl)) rfl
theorem gw_2_135 : (Cond.methodLink "WingDoor$Moment" 44 ⟨"WingDoor$Moment", "hasGoer", "(I)Z"⟩) ∈ zG := zG_mk (zG_t2 (List.mem_of_getElem? (i := 135) rfl)) rfl
theorem gw_2_136 : (Cond.methodLink "WingDoor" 140 ⟨"WingDoor", "whenNow", "(I)I"⟩) ∈ zG := zG_mk (zG_t2 (List.mem_of_getElem? (i := 136) rfl)) rfl
theorem gw_2_138 : (Cond.instanceMethod ⟨"WingDoor", "whenNow", "(I)I"⟩) ∈ zG := zG_mk (zG_t2 (List.mem_of_getElem? (i := 138) rfl)) rfl
theorem gw_2_139 : (Cond.code ⟨"WingDoor", "whenNow", "(I)I"⟩ prog_1_method_27_code 2 (some .int)) ∈ zG := zG_mk (zG_t2 (List.mem_of_getElem? (i := 139) rfl)) rfl
theorem gw_2_140 : (Cond.methodLink "WingDoor" 248 ⟨"WingDoor$Moment", "copy", "(LWingDoor$Moment;)V"⟩) ∈ zG := zG_mk (zG_t2 (List.mem_of_getElem? (i := 140) rfl)) rfl
theorem gw_2_141 : (Cond.instanceMethod ⟨"WingDoor$Moment", "copy", "(LWingDoor$Moment;)V"⟩) ∈ zG := zG_mk (zG_t2 (List.mem_of_getElem? (i := 141) rfl)) rfl
theorem gw_2_142 : (Cond.selects "WingDoor$Moment" ⟨"WingDoor$Moment", "copy", "(LWingDoor$Moment;)V"⟩ ⟨"WingDoor$Moment", "copy", "(LWingDoor$Moment;)V"⟩) ∈ zG := zG_mk (zG_t2 (List.mem_of_getElem? (i := 142) rfl)) rfl
theorem gw_2_143 : (Cond.code ⟨"WingDoor$Moment", "copy", "(LWingDoor$Moment;)V"⟩ prog_7_method_3_code 2 none) ∈ zG := zG_mk (zG_t2 (List.mem_of_getElem? (i := 143) rfl)) rfl
theorem gw_2_144 : (Cond.methodLink "WingDoor$Moment" 38 ⟨"java/lang/System", "arraycopy", "(Ljava/lang/Object;ILjava/lang/Object;II)V"⟩) ∈ zG := zG_mk (zG_t2 (List.mem_of_getElem? (i := 144) rfl)) rfl
theorem gw_2_145 : (Cond.methodLink "WingDoor" 263 ⟨"WingDoor$Moment", "runUntilThrough", "(I)I"⟩) ∈ zG := zG_mk (zG_t2 (List.mem_of_getElem? (i := 145) rfl)) rfl
theorem gw_2_146 : (Cond.instanceMethod ⟨"WingDoor$Moment", "runUntilThrough", "(I)I"⟩) ∈ zG := zG_mk (zG_t2 (List.mem_of_getElem? (i := 146) rfl)) rfl
theorem gw_2_147 : (Cond.selects "WingDoor$Moment" ⟨"WingDoor$Moment", "runUntilThrough", "(I)I"⟩ ⟨"WingDoor$Moment", "runUntilThrough", "(I)I"⟩) ∈ zG := zG_mk (zG_t2 (List.mem_of_getElem? (i := 147) rfl)) rfl
theorem gw_2_148 : (Cond.code ⟨"WingDoor$Moment", "runUntilThrough", "(I)I"⟩ prog_7_method_23_code 3 (some .int)) ∈ zG := zG_mk (zG_t2 (List.mem_of_getElem? (i := 148) rfl)) rfl
theorem gw_2_149 : (Cond.methodLink "WingDoor$Moment" 81 ⟨"WingDoor$Moment", "sticks", "()Z"⟩) ∈ zG := zG_mk (zG_t2 (List.mem_of_getElem? (i := 149) rfl)) rfl
theorem gw_2_150 : (Cond.instanceMethod ⟨"WingDoor$Moment", "sticks", "()Z"⟩) ∈ zG := zG_mk (zG_t2 (List.mem_of_getElem? (i := 150) rfl)) rfl
theorem gw_2_151 : (Cond.selects "WingDoor$Moment" ⟨"WingDoor$Moment", "sticks", "()Z"⟩ ⟨"WingDoor$Moment", "sticks", "()Z"⟩) ∈ zG := zG_mk (zG_t2 (List.mem_of_getElem? (i := 151) rfl)) rfl
theorem gw_2_152 : (Cond.code ⟨"WingDoor$Moment", "sticks", "()Z"⟩ prog_7_method_14_code 1 (some .boolean)) ∈ zG := zG_mk (zG_t2 (List.mem_of_getElem? (i := 152) rfl)) rfl
theorem gw_2_153 : (Cond.methodLink "WingDoor$Moment" 57 ⟨"WingDoor$Moment", "whoIs", "(I)I"⟩) ∈ zG := zG_mk (zG_t2 (List.mem_of_getElem? (i := 153) rfl)) rfl
theorem gw_2_154 : (Cond.instanceMethod ⟨"WingDoor$Moment", "whoIs", "(I)I"⟩) ∈ zG := zG_mk (zG_t2 (List.mem_of_getElem? (i := 154) rfl)) rfl
theorem gw_2_155 : (Cond.selects "WingDoor$Moment" ⟨"WingDoor$Moment", "whoIs", "(I)I"⟩ ⟨"WingDoor$Moment", "whoIs", "(I)I"⟩) ∈ zG := zG_mk (zG_t2 (List.mem_of_getElem? (i := 155) rfl)) rfl
theorem gw_2_156 : (Cond.code ⟨"WingDoor$Moment", "whoIs", "(I)I"⟩ prog_7_method_8_code 4 (some .int)) ∈ zG := zG_mk (zG_t2 (List.mem_of_getElem? (i := 156) rfl)) rfl
theorem gw_2_157 : (Cond.methodLink "WingDoor$Moment" 68 ⟨"WingDoor$Moment", "load", "()I"⟩) ∈ zG := zG_mk (zG_t2 (List.mem_of_getElem? (i := 157) rfl)) rfl
theorem gw_2_158 : (Cond.instanceMethod ⟨"WingDoor$Moment", "load", "()I"⟩) ∈ zG := zG_mk (zG_t2 (List.mem_of_getElem? (i := 158) rfl)) rfl
theorem gw_2_159 : (Cond.selects "WingDoor$Moment" ⟨"WingDoor$Moment", "load", "()I"⟩ ⟨"WingDoor$Moment", "load", "()I"⟩) ∈ zG := zG_mk (zG_t2 (List.mem_of_getElem? (i := 159) rfl)) rfl
theorem gw_2_160 : (Cond.code ⟨"WingDoor$Moment", "load", "()I"⟩ prog_7_method_12_code 3 (some .int)) ∈ zG := zG_mk (zG_t2 (List.mem_of_getElem? (i := 160) rfl)) rfl
theorem gw_2_161 : (Cond.methodLink "WingDoor$Moment" 54 ⟨"WingDoor$Plan", "pushOf", "(I)I"⟩) ∈ zG := zG_mk (zG_t2 (List.mem_of_getElem? (i := 161) rfl)) rfl
theorem gw_2_162 : (Cond.methodLink "WingDoor$Moment" 72 ⟨"WingDoor$Moment", "drag", "()I"⟩) ∈ zG := zG_mk (zG_t2 (List.mem_of_getElem? (i := 162) rfl)) rfl
theorem gw_2_163 : (Cond.instanceMethod ⟨"WingDoor$Moment", "drag", "()I"⟩) ∈ zG := zG_mk (zG_t2 (List.mem_of_getElem? (i := 163) rfl)) rfl
theorem gw_2_164 : (Cond.selects "WingDoor$Moment" ⟨"WingDoor$Moment", "drag", "()I"⟩ ⟨"WingDoor$Moment", "drag", "()I"⟩) ∈ zG := zG_mk (zG_t2 (List.mem_of_getElem? (i := 164) rfl)) rfl
theorem gw_2_165 : (Cond.code ⟨"WingDoor$Moment", "drag", "()I"⟩ prog_7_method_13_code 1 (some .int)) ∈ zG := zG_mk (zG_t2 (List.mem_of_getElem? (i := 165) rfl)) rfl
theorem gw_2_166 : (Cond.methodLink "WingDoor$Moment" 60 ⟨"java/lang/Integer", "bitCount", "(I)I"⟩) ∈ zG := zG_mk (zG_t2 (List.mem_of_getElem? (i := 166) rfl)) rfl
theorem gw_2_167 : (Cond.static ⟨"java/lang/Integer", "bitCount", "(I)I"⟩) ∈ zG := zG_mk (zG_t2 (List.mem_of_getElem? (i := 167) rfl)) rfl
theorem gw_2_168 : (Cond.code ⟨"java/lang/Integer", "bitCount", "(I)I"⟩ prog_15_method_49_code 1 (some .int)) ∈ zG := zG_mk (zG_t2 (List.mem_of_getElem? (i := 168) rfl)) rfl
theorem gw_2_169 : (Cond.constant "java/lang/Integer" 265 1431655765) ∈ zG := zG_mk (zG_t2 (List.mem_of_getElem? (i := 169) rfl)) rfl
theorem gw_2_170 : (Cond.constant "java/lang/Integer" 266 858993459) ∈ zG := zG_mk (zG_t2 (List.mem_of_getElem? (i := 170) rfl)) rfl
theorem gw_2_171 : (Cond.constant "java/lang/Integer" 267 252645135) ∈ zG := zG_mk (zG_t2 (List.mem_of_getElem? (i := 171) rfl)) rfl
theorem gw_2_172 : (Cond.methodLink "WingDoor$Moment" 100 ⟨"WingDoor$Moment", "turn", "()I"⟩) ∈ zG := zG_mk (zG_t2 (List.mem_of_getElem? (i := 172) rfl)) rfl
theorem gw_2_173 : (Cond.instanceMethod ⟨"WingDoor$Moment", "turn", "()I"⟩) ∈ zG := zG_mk (zG_t2 (List.mem_of_getElem? (i := 173) rfl)) rfl
theorem gw_2_174 : (Cond.selects "WingDoor$Moment" ⟨"WingDoor$Moment", "turn", "()I"⟩ ⟨"WingDoor$Moment", "turn", "()I"⟩) ∈ zG := zG_mk (zG_t2 (List.mem_of_getElem? (i := 174) rfl)) rfl
theorem gw_2_175 : (Cond.code ⟨"WingDoor$Moment", "turn", "()I"⟩ prog_7_method_20_code 4 (some .int)) ∈ zG := zG_mk (zG_t2 (List.mem_of_getElem? (i := 175) rfl)) rfl
theorem gw_2_176 : (Cond.methodLink "WingDoor$Moment" 85 ⟨"WingDoor$Moment", "carry", "(I)Z"⟩) ∈ zG := zG_mk (zG_t2 (List.mem_of_getElem? (i := 176) rfl)) rfl
theorem gw_2_178 : (Cond.instanceMethod ⟨"WingDoor$Moment", "carry", "(I)Z"⟩) ∈ zG := zG_mk (zG_t2 (List.mem_of_getElem? (i := 178) rfl)) rfl
theorem gw_2_179 : (Cond.code ⟨"WingDoor$Moment", "carry", "(I)Z"⟩ prog_7_method_21_code 3 (some .boolean)) ∈ zG := zG_mk (zG_t2 (List.mem_of_getElem? (i := 179) rfl)) rfl
theorem gw_2_180 : (Cond.methodLink "WingDoor$Moment" 88 ⟨"WingDoor$Plan", "placeBehind", "(I)I"⟩) ∈ zG := zG_mk (zG_t2 (List.mem_of_getElem? (i := 180) rfl)) rfl
theorem gw_2_181 : (Cond.instanceMethod ⟨"WingDoor$Plan", "placeBehind", "(I)I"⟩) ∈ zG := zG_mk (zG_t2 (List.mem_of_getElem? (i := 181) rfl)) rfl
theorem gw_2_182 : (Cond.selects "WingDoor$Plan" ⟨"WingDoor$Plan", "placeBehind", "(I)I"⟩ ⟨"WingDoor$Plan", "placeBehind", "(I)I"⟩) ∈ zG := zG_mk (zG_t2 (List.mem_of_getElem? (i := 182) rfl)) rfl
theorem gw_2_183 : (Cond.code ⟨"WingDoor$Plan", "placeBehind", "(I)I"⟩ prog_9_method_11_code 2 (some .int)) ∈ zG := zG_mk (zG_t2 (List.mem_of_getElem? (i := 183) rfl)) rfl
theorem gw_2_184 : (Cond.methodLink "WingDoor$Moment" 91 ⟨"WingDoor$Plan", "placeOfSide", "(I)I"⟩) ∈ zG := zG_mk (zG_t2 (List.mem_of_getElem? (i := 184) rfl)) rfl
theorem gw_2_185 : (Cond.instanceMethod ⟨"WingDoor$Plan", "placeOfSide", "(I)I"⟩) ∈ zG := zG_mk (zG_t2 (List.mem_of_getElem? (i := 185) rfl)) rfl
theorem gw_2_186 : (Cond.selects "WingDoor$Plan" ⟨"WingDoor$Plan", "placeOfSide", "(I)I"⟩ ⟨"WingDoor$Plan", "placeOfSide", "(I)I"⟩) ∈ zG := zG_mk (zG_t2 (List.mem_of_getElem? (i := 186) rfl)) rfl
theorem gw_2_187 : (Cond.code ⟨"WingDoor$Plan", "placeOfSide", "(I)I"⟩ prog_9_method_10_code 2 (some .int)) ∈ zG := zG_mk (zG_t2 (List.mem_of_getElem? (i := 187) rfl)) rfl
theorem gw_2_188 : (Cond.methodLink "WingDoor$Moment" 75 ⟨"WingDoor$Moment", "fill", "()V"⟩) ∈ zG := zG_mk (zG_t2 (List.mem_of_getElem? (i := 188) rfl)) rfl
theorem gw_2_190 : (Cond.instanceMethod ⟨"WingDoor$Moment", "fill", "()V"⟩) ∈ zG := zG_mk (zG_t2 (List.mem_of_getElem? (i := 190) rfl)) rfl
theorem gw_2_191 : (Cond.code ⟨"WingDoor$Moment", "fill", "()V"⟩ prog_7_method_22_code 6 none) ∈ zG := zG_mk (zG_t2 (List.mem_of_getElem? (i := 191) rfl)) rfl
theorem gw_2_192 : (Cond.methodLink "WingDoor$Moment" 97 ⟨"WingDoor$Moment", "bulkInRoomAt", "(I)I"⟩) ∈ zG := zG_mk (zG_t2 (List.mem_of_getElem? (i := 192) rfl)) rfl
theorem gw_2_193 : (Cond.instanceMethod ⟨"WingDoor$Moment", "bulkInRoomAt", "(I)I"⟩) ∈ zG := zG_mk (zG_t2 (List.mem_of_getElem? (i := 193) rfl)) rfl
theorem gw_2_194 : (Cond.selects "WingDoor$Moment" ⟨"WingDoor$Moment", "bulkInRoomAt", "(I)I"⟩ ⟨"WingDoor$Moment", "bulkInRoomAt", "(I)I"⟩) ∈ zG := zG_mk (zG_t2 (List.mem_of_getElem? (i := 194) rfl)) rfl
theorem gw_2_195 : (Cond.code ⟨"WingDoor$Moment", "bulkInRoomAt", "(I)I"⟩ prog_7_method_11_code 4 (some .int)) ∈ zG := zG_mk (zG_t2 (List.mem_of_getElem? (i := 195) rfl)) rfl
theorem gw_2_196 : (Cond.methodLink "WingDoor$Moment" 48 ⟨"WingDoor$Plan", "bulkOf", "(I)I"⟩) ∈ zG := zG_mk (zG_t2 (List.mem_of_getElem? (i := 196) rfl)) rfl
theorem gw_2_197 : (Cond.methodLink "WingDoor$Moment" 78 ⟨"WingDoor$Moment", "firstOn", "(I)I"⟩) ∈ zG := zG_mk (zG_t2 (List.mem_of_getElem? (i := 197) rfl)) rfl
theorem gw_2_198 : (Cond.instanceMethod ⟨"WingDoor$Moment", "firstOn", "(I)I"⟩) ∈ zG := zG_mk (zG_t2 (List.mem_of_getElem? (i := 198) rfl)) rfl
theorem gw_2_199 : (Cond.selects "WingDoor$Moment" ⟨"WingDoor$Moment", "firstOn", "(I)I"⟩ ⟨"WingDoor$Moment", "firstOn", "(I)I"⟩) ∈ zG := zG_mk (zG_t2 (List.mem_of_getElem? (i := 199) rfl)) rfl
theorem gw_2_200 : (Cond.code ⟨"WingDoor$Moment", "firstOn", "(I)I"⟩ prog_7_method_15_code 5 (some .int)) ∈ zG := zG_mk (zG_t2 (List.mem_of_getElem? (i := 200) rfl)) rfl
theorem gw_2_201 : (Cond.methodLink "WingDoor" 143 ⟨"WingDoor", "orNone", "(I)I"⟩) ∈ zG := zG_mk (zG_t2 (List.mem_of_getElem? (i := 201) rfl)) rfl
theorem gw_2_202 : (Cond.static ⟨"WingDoor", "orNone", "(I)I"⟩) ∈ zG := zG_mk (zG_t2 (List.mem_of_getElem? (i := 202) rfl)) rfl
theorem gw_2_203 : (Cond.code ⟨"WingDoor", "orNone", "(I)I"⟩ prog_1_method_26_code 1 (some .int)) ∈ zG := zG_mk (zG_t2 (List.mem_of_getElem? (i := 203) rfl)) rfl
theorem gw_2_204 : (Cond.methodLink "WingDoorLaw" 36 ⟨"WingDoor", "room", "(II)I"⟩) ∈ zG := zG_mk (zG_t2 (List.mem_of_getElem? (i := 204) rfl)) rfl
theorem gw_2_205 : (Cond.instanceMethod ⟨"WingDoor", "room", "(II)I"⟩) ∈ zG := zG_mk (zG_t2 (List.mem_of_getElem? (i := 205) rfl)) rfl
theorem gw_2_206 : (Cond.selects "WingDoor" ⟨"WingDoor", "room", "(II)I"⟩ ⟨"WingDoor", "room", "(II)I"⟩) ∈ zG := zG_mk (zG_t2 (List.mem_of_getElem? (i := 206) rfl)) rfl
theorem gw_2_207 : (Cond.code ⟨"WingDoor", "room", "(II)I"⟩ prog_1_method_7_code 3 (some .int)) ∈ zG := zG_mk (zG_t2 (List.mem_of_getElem? (i := 207) rfl)) rfl
theorem gw_2_208 : (Cond.methodLink "WingDoor" 149 ⟨"WingDoor$Moment", "whoIsInRoomAt", "(I)I"⟩) ∈ zG := zG_mk (zG_t2 (List.mem_of_getElem? (i := 208) rfl)) rfl
theorem gw_2_209 : (Cond.instanceMethod ⟨"WingDoor$Moment", "whoIsInRoomAt", "(I)I"⟩) ∈ zG := zG_mk (zG_t2 (List.mem_of_getElem? (i := 209) rfl)) rfl
theorem gw_2_210 : (Cond.selects "WingDoor$Moment" ⟨"WingDoor$Moment", "whoIsInRoomAt", "(I)I"⟩ ⟨"WingDoor$Moment", "whoIsInRoomAt", "(I)I"⟩) ∈ zG := zG_mk (zG_t2 (List.mem_of_getElem? (i := 210) rfl)) rfl
theorem gw_2_211 : (Cond.code ⟨"WingDoor$Moment", "whoIsInRoomAt", "(I)I"⟩ prog_7_method_10_code 4 (some .int)) ∈ zG := zG_mk (zG_t2 (List.mem_of_getElem? (i := 211) rfl)) rfl
theorem gw_2_212 : (Cond.methodLink "WingDoor" 152 ⟨"WingDoor$Moment", "bulkInRoomAt", "(I)I"⟩) ∈ zG := zG_mk (zG_t2 (List.mem_of_getElem? (i := 212) rfl)) rfl
theorem gw_2_213 : (Cond.methodLink "WingDoorLaw" 40 ⟨"WingDoor", "now", "(I)I"⟩) ∈ zG := zG_mk (zG_t2 (List.mem_of_getElem? (i := 213) rfl)) rfl
theorem gw_2_214 : (Cond.instanceMethod ⟨"WingDoor", "now", "(I)I"⟩) ∈ zG := zG_mk (zG_t2 (List.mem_of_getElem? (i := 214) rfl)) rfl
theorem gw_2_215 : (Cond.selects "WingDoor" ⟨"WingDoor", "now", "(I)I"⟩ ⟨"WingDoor", "now", "(I)I"⟩) ∈ zG := zG_mk (zG_t2 (List.mem_of_getElem? (i := 215) rfl)) rfl
theorem gw_2_216 : (Cond.code ⟨"WingDoor", "now", "(I)I"⟩ prog_1_method_8_code 2 (some .int)) ∈ zG := zG_mk (zG_t2 (List.mem_of_getElem? (i := 216) rfl)) rfl
theorem gw_2_217 : (Cond.methodLink "WingDoor" 158 ⟨"WingDoor$Moment", "load", "()I"⟩) ∈ zG := zG_mk (zG_t2 (List.mem_of_getElem? (i := 217) rfl)) rfl
theorem gw_2_218 : (Cond.methodLink "WingDoor" 162 ⟨"WingDoor$Moment", "drag", "()I"⟩) ∈ zG := zG_mk (zG_t2 (List.mem_of_getElem? (i := 218) rfl)) rfl
theorem gw_2_219 : (Cond.methodLink "WingDoor" 165 ⟨"WingDoor$Moment", "whoIs", "(I)I"⟩) ∈ zG := zG_mk (zG_t2 (List.mem_of_getElem? (i := 219) rfl)) rfl
theorem gw_2_220 : (Cond.methodLink "WingDoor" 168 ⟨"WingDoor", "sticksNow", "()I"⟩) ∈ zG := zG_mk (zG_t2 (List.mem_of_getElem? (i := 220) rfl)) rfl
theorem gw_2_222 : (Cond.instanceMethod ⟨"WingDoor", "sticksNow", "()I"⟩) ∈ zG := zG_mk (zG_t2 (List.mem_of_getElem? (i := 222) rfl)) rfl
theorem gw_2_223 : (Cond.code ⟨"WingDoor", "sticksNow", "()I"⟩ prog_1_method_28_code 1 (some .int)) ∈ zG := zG_mk (zG_t2 (List.mem_of_getElem? (i := 223) rfl)) rfl
theorem gw_2_224 : (Cond.methodLink "WingDoor" 266 ⟨"WingDoor$Moment", "runUntilItSticks", "()I"⟩) ∈ zG := zG_mk (zG_t2 (List.mem_of_getElem? (i := 224) rfl)) rfl
theorem gw_2_225 : (Cond.instanceMethod ⟨"WingDoor$Moment", "runUntilItSticks", "()I"⟩) ∈ zG := zG_mk (zG_t2 (List.mem_of_getElem? (i := 225) rfl)) rfl
theorem gw_2_226 : (Cond.selects "WingDoor$Moment" ⟨"WingDoor$Moment", "runUntilItSticks", "()I"⟩ ⟨"WingDoor$Moment", "runUntilItSticks", "()I"⟩) ∈ zG := zG_mk (zG_t2 (List.mem_of_getElem? (i := 226) rfl)) rfl
theorem gw_2_227 : (Cond.code ⟨"WingDoor$Moment", "runUntilItSticks", "()I"⟩ prog_7_method_24_code 2 (some .int)) ∈ zG := zG_mk (zG_t2 (List.mem_of_getElem? (i := 227) rfl)) rfl
theorem gw_2_228 : (Cond.methodLink "WingDoor" 171 ⟨"WingDoor", "allNow", "()I"⟩) ∈ zG := zG_mk (zG_t2 (List.mem_of_getElem? (i := 228) rfl)) rfl
theorem gw_2_230 : (Cond.instanceMethod ⟨"WingDoor", "allNow", "()I"⟩) ∈ zG := zG_mk (zG_t2 (List.mem_of_getElem? (i := 230) rfl)) rfl
theorem gw_2_231 : (Cond.code ⟨"WingDoor", "allNow", "()I"⟩ prog_1_method_29_code 1 (some .int)) ∈ zG := zG_mk (zG_t2 (List.mem_of_getElem? (i := 231) rfl)) rfl
theorem gw_2_232 : (Cond.methodLink "WingDoor" 269 ⟨"WingDoor$Moment", "runUntilEmpty", "()I"⟩) ∈ zG := zG_mk (zG_t2 (List.mem_of_getElem? (i := 232) rfl)) rfl
theorem gw_2_233 : (Cond.instanceMethod ⟨"WingDoor$Moment", "runUntilEmpty", "()I"⟩) ∈ zG := zG_mk (zG_t2 (List.mem_of_getElem? (i := 233) rfl)) rfl
theorem gw_2_234 : (Cond.selects "WingDoor$Moment" ⟨"WingDoor$Moment", "runUntilEmpty", "()I"⟩ ⟨"WingDoor$Moment", "runUntilEmpty", "()I"⟩) ∈ zG := zG_mk (zG_t2 (List.mem_of_getElem? (i := 234) rfl)) rfl
theorem gw_2_235 : (Cond.code ⟨"WingDoor$Moment", "runUntilEmpty", "()I"⟩ prog_7_method_25_code 2 (some .int)) ∈ zG := zG_mk (zG_t2 (List.mem_of_getElem? (i := 235) rfl)) rfl
theorem gw_2_236 : (Cond.methodLink "WingDoorLaw" 44 ⟨"WingDoor", "comes", "(II)I"⟩) ∈ zG := zG_mk (zG_t2 (List.mem_of_getElem? (i := 236) rfl)) rfl
theorem gw_2_237 : (Cond.instanceMethod ⟨"WingDoor", "comes", "(II)I"⟩) ∈ zG := zG_mk (zG_t2 (List.mem_of_getElem? (i := 237) rfl)) rfl
theorem gw_2_238 : (Cond.selects "WingDoor" ⟨"WingDoor", "comes", "(II)I"⟩ ⟨"WingDoor", "comes", "(II)I"⟩) ∈ zG := zG_mk (zG_t2 (List.mem_of_getElem? (i := 238) rfl)) rfl
theorem gw_2_239 : (Cond.code ⟨"WingDoor", "comes", "(II)I"⟩ prog_1_method_9_code 3 (some .int)) ∈ zG := zG_mk (zG_t2 (List.mem_of_getElem? (i := 239) rfl)) rfl
theorem gw_3_0 : (Cond.methodLink "WingDoor" 177 ⟨"WingDoor$Past", "remember", "(LWingDoor$Moment;)V"⟩) ∈ zG := zG_mk (zG_t3 (List.mem_of_getElem? (i := 0) rfl)) rfl
theorem gw_3_1 : (Cond.instanceMethod ⟨"WingDoor$Past", "remember", "(LWingDoor$Moment;)V"⟩) ∈ zG := zG_mk (zG_t3 (List.mem_of_getElem? (i := 1) rfl)) rfl
theorem gw_3_2 : (Cond.selects "WingDoor$Past" ⟨"WingDoor$Past", "remember", "(LWingDoor$Moment;)V"⟩ ⟨"WingDoor$Past", "remember", "(LWingDoor$Moment;)V"⟩) ∈ zG := zG_mk (zG_t3 (List.mem_of_getElem? (i := 2) rfl)) rfl
theorem gw_3_3 : (Cond.code ⟨"WingDoor$Past", "remember", "(LWingDoor$Moment;)V"⟩ prog_8_method_2_code 2 none) ∈ zG := zG_mk (zG_t3 (List.mem_of_getElem? (i := 3) rfl)) rfl
theorem gw_3_4 : (Cond.methodLink "WingDoor$Past" 27 ⟨"WingDoor$Moment", "copy", "(LWingDoor$Moment;)V"⟩) ∈ zG := zG_mk (zG_t3 (List.mem_of_getElem? (i := 4) rfl)) rfl
theorem gw_3_5 : (Cond.methodLink "WingDoor" 181 ⟨"WingDoor$Moment", "letCome", "(II)I"⟩) ∈ zG := zG_mk (zG_t3 (List.mem_of_getElem? (i := 5) rfl)) rfl
theorem gw_3_6 : (Cond.instanceMethod ⟨"WingDoor$Moment", "letCome", "(II)I"⟩) ∈ zG := zG_mk (zG_t3 (List.mem_of_getElem? (i := 6) rfl)) rfl
theorem gw_3_7 : (Cond.selects "WingDoor$Moment" ⟨"WingDoor$Moment", "letCome", "(II)I"⟩ ⟨"WingDoor$Moment", "letCome", "(II)I"⟩) ∈ zG := zG_mk (zG_t3 (List.mem_of_getElem? (i := 7) rfl)) rfl
theorem gw_3_8 : (Cond.code ⟨"WingDoor$Moment", "letCome", "(II)I"⟩ prog_7_method_17_code 4 (some .int)) ∈ zG := zG_mk (zG_t3 (List.mem_of_getElem? (i := 8) rfl)) rfl
theorem gw_3_9 : (Cond.methodLink "WingDoorLaw" 48 ⟨"WingDoor", "steps", "()I"⟩) ∈ zG := zG_mk (zG_t3 (List.mem_of_getElem? (i := 9) rfl)) rfl
theorem gw_3_10 : (Cond.instanceMethod ⟨"WingDoor", "steps", "()I"⟩) ∈ zG := zG_mk (zG_t3 (List.mem_of_getElem? (i := 10) rfl)) rfl
theorem gw_3_11 : (Cond.selects "WingDoor" ⟨"WingDoor", "steps", "()I"⟩ ⟨"WingDoor", "steps", "()I"⟩) ∈ zG := zG_mk (zG_t3 (List.mem_of_getElem? (i := 11) rfl)) rfl
theorem gw_3_12 : (Cond.code ⟨"WingDoor", "steps", "()I"⟩ prog_1_method_10_code 1 (some .int)) ∈ zG := zG_mk (zG_t3 (List.mem_of_getElem? (i := 12) rfl)) rfl
theorem gw_3_13 : (Cond.methodLink "WingDoor" 185 ⟨"WingDoor$Moment", "turn", "()I"⟩) ∈ zG := zG_mk (zG_t3 (List.mem_of_getElem? (i := 13) rfl)) rfl
theorem gw_3_14 : (Cond.methodLink "WingDoorLaw" 52 ⟨"WingDoor", "leaves", "(I)I"⟩) ∈ zG := zG_mk (zG_t3 (List.mem_of_getElem? (i := 14) rfl)) rfl
theorem gw_3_15 : (Cond.instanceMethod ⟨"WingDoor", "leaves", "(I)I"⟩) ∈ zG := zG_mk (zG_t3 (List.mem_of_getElem? (i := 15) rfl)) rfl
theorem gw_3_16 : (Cond.selects "WingDoor" ⟨"WingDoor", "leaves", "(I)I"⟩ ⟨"WingDoor", "leaves", "(I)I"⟩) ∈ zG := zG_mk (zG_t3 (List.mem_of_getElem? (i := 16) rfl)) rfl
theorem gw_3_17 : (Cond.code ⟨"WingDoor", "leaves", "(I)I"⟩ prog_1_method_11_code 2 (some .int)) ∈ zG := zG_mk (zG_t3 (List.mem_of_getElem? (i := 17) rfl)) rfl
theorem gw_3_18 : (Cond.methodLink "WingDoor" 188 ⟨"WingDoor$Moment", "giveUp", "(I)V"⟩) ∈ zG := zG_mk (zG_t3 (List.mem_of_getElem? (i := 18) rfl)) rfl
theorem gw_3_19 : (Cond.instanceMethod ⟨"WingDoor$Moment", "giveUp", "(I)V"⟩) ∈ zG := zG_mk (zG_t3 (List.mem_of_getElem? (i := 19) rfl)) rfl
theorem gw_3_20 : (Cond.selects "WingDoor$Moment" ⟨"WingDoor$Moment", "giveUp", "(I)V"⟩ ⟨"WingDoor$Moment", "giveUp", "(I)V"⟩) ∈ zG := zG_mk (zG_t3 (List.mem_of_getElem? (i := 20) rfl)) rfl
theorem gw_3_21 : (Cond.code ⟨"WingDoor$Moment", "giveUp", "(I)V"⟩ prog_7_method_18_code 2 none) ∈ zG := zG_mk (zG_t3 (List.mem_of_getElem? (i := 21) rfl)) rfl
theorem gw_3_22 : (Cond.methodLink "WingDoor" 192 ⟨"WingDoor$Moment", "howManyAre", "(I)I"⟩) ∈ zG := zG_mk (zG_t3 (List.mem_of_getElem? (i := 22) rfl)) rfl
theorem gw_3_23 : (Cond.instanceMethod ⟨"WingDoor$Moment", "howManyAre", "(I)I"⟩) ∈ zG := zG_mk (zG_t3 (List.mem_of_getElem? (i := 23) rfl)) rfl
theorem gw_3_24 : (Cond.selects "WingDoor$Moment" ⟨"WingDoor$Moment", "howManyAre", "(I)I"⟩ ⟨"WingDoor$Moment", "howManyAre", "(I)I"⟩) ∈ zG := zG_mk (zG_t3 (List.mem_of_getElem? (i := 24) rfl)) rfl
theorem gw_3_25 : (Cond.code ⟨"WingDoor$Moment", "howManyAre", "(I)I"⟩ prog_7_method_9_code 2 (some .int)) ∈ zG := zG_mk (zG_t3 (List.mem_of_getElem? (i := 25) rfl)) rfl
theorem gw_3_26 : (Cond.methodLink "WingDoorLaw" 56 ⟨"WingDoor", "lets", "(I)I"⟩) ∈ zG := zG_mk (zG_t3 (List.mem_of_getElem? (i := 26) rfl)) rfl
theorem gw_3_27 : (Cond.instanceMethod ⟨"WingDoor", "lets", "(I)I"⟩) ∈ zG := zG_mk (zG_t3 (List.mem_of_getElem? (i := 27) rfl)) rfl
theorem gw_3_28 : (Cond.selects "WingDoor" ⟨"WingDoor", "lets", "(I)I"⟩ ⟨"WingDoor", "lets", "(I)I"⟩) ∈ zG := zG_mk (zG_t3 (List.mem_of_getElem? (i := 28) rfl)) rfl
theorem gw_3_29 : (Cond.code ⟨"WingDoor", "lets", "(I)I"⟩ prog_1_method_12_code 3 (some .int)) ∈ zG := zG_mk (zG_t3 (List.mem_of_getElem? (i := 29) rfl)) rfl
theorem gw_3_30 : (Cond.methodLink "WingDoor" 195 ⟨"WingDoor$Moment", "letAhead", "(I)V"⟩) ∈ zG := zG_mk (zG_t3 (List.mem_of_getElem? (i := 30) rfl)) rfl
theorem gw_3_31 : (Cond.instanceMethod ⟨"WingDoor$Moment", "letAhead", "(I)V"⟩) ∈ zG := zG_mk (zG_t3 (List.mem_of_getElem? (i := 31) rfl)) rfl
theorem gw_3_32 : (Cond.selects "WingDoor$Moment" ⟨"WingDoor$Moment", "letAhead", "(I)V"⟩ ⟨"WingDoor$Moment", "letAhead", "(I)V"⟩) ∈ zG := zG_mk (zG_t3 (List.mem_of_getElem? (i := 32) rfl)) rfl
theorem gw_3_33 : (Cond.code ⟨"WingDoor$Moment", "letAhead", "(I)V"⟩ prog_7_method_19_code 3 none) ∈ zG := zG_mk (zG_t3 (List.mem_of_getElem? (i := 33) rfl)) rfl
theorem gw_3_34 : (Cond.methodLink "WingDoorLaw" 60 ⟨"WingDoor", "undo", "()I"⟩) ∈ zG := zG_mk (zG_t3 (List.mem_of_getElem? (i := 34) rfl)) rfl
theorem gw_3_35 : (Cond.instanceMethod ⟨"WingDoor", "undo", "()I"⟩) ∈ zG := zG_mk (zG_t3 (List.mem_of_getElem? (i := 35) rfl)) rfl
theorem gw_3_36 : (Cond.selects "WingDoor" ⟨"WingDoor", "undo", "()I"⟩ ⟨"WingDoor", "undo", "()I"⟩) ∈ zG := zG_mk (zG_t3 (List.mem_of_getElem? (i := 36) rfl)) rfl
theorem gw_3_37 : (Cond.code ⟨"WingDoor", "undo", "()I"⟩ prog_1_method_13_code 1 (some .int)) ∈ zG := zG_mk (zG_t3 (List.mem_of_getElem? (i := 37) rfl)) rfl
theorem gw_3_38 : (Cond.methodLink "WingDoor" 198 ⟨"WingDoor$Past", "recall", "(LWingDoor$Moment;)V"⟩) ∈ zG := zG_mk (zG_t3 (List.mem_of_getElem? (i := 38) rfl)) rfl
theorem gw_3_39 : (Cond.instanceMethod ⟨"WingDoor$Past", "recall", "(LWingDoor$Moment;)V"⟩) ∈ zG := zG_mk (zG_t3 (List.mem_of_getElem? (i := 39) rfl)) rfl
theorem gw_3_40 : (Cond.selects "WingDoor$Past" ⟨"WingDoor$Past", "recall", "(LWingDoor$Moment;)V"⟩ ⟨"WingDoor$Past", "recall", "(LWingDoor$Moment;)V"⟩) ∈ zG := zG_mk (zG_t3 (List.mem_of_getElem? (i := 40) rfl)) rfl
theorem gw_3_41 : (Cond.code ⟨"WingDoor$Past", "recall", "(LWingDoor$Moment;)V"⟩ prog_8_method_3_code 2 none) ∈ zG := zG_mk (zG_t3 (List.mem_of_getElem? (i := 41) rfl)) rfl
theorem gw_3_42 : (Cond.methodLink "WingDoorLaw" 64 ⟨"WingDoor", "spare", "(I)I"⟩) ∈ zG := zG_mk (zG_t3 (List.mem_of_getElem? (i := 42) rfl)) rfl
theorem gw_3_43 : (Cond.instanceMethod ⟨"WingDoor", "spare", "(I)I"⟩) ∈ zG := zG_mk (zG_t3 (List.mem_of_getElem? (i := 43) rfl)) rfl
theorem gw_3_44 : (Cond.selects "WingDoor" ⟨"WingDoor", "spare", "(I)I"⟩ ⟨"WingDoor", "spare", "(I)I"⟩) ∈ zG := zG_mk (zG_t3 (List.mem_of_getElem? (i := 44) rfl)) rfl
theorem gw_3_45 : (Cond.code ⟨"WingDoor", "spare", "(I)I"⟩ prog_1_method_14_code 2 (some .int)) ∈ zG := zG_mk (zG_t3 (List.mem_of_getElem? (i := 45) rfl)) rfl
theorem gw_3_46 : (Cond.methodLink "WingDoor" 201 ⟨"WingDoor", "bestHelper", "(IZ)I"⟩) ∈ zG := zG_mk (zG_t3 (List.mem_of_getElem? (i := 46) rfl)) rfl
theorem gw_3_48 : (Cond.instanceMethod ⟨"WingDoor", "bestHelper", "(IZ)I"⟩) ∈ zG := zG_mk (zG_t3 (List.mem_of_getElem? (i := 48) rfl)) rfl
theorem gw_3_49 : (Cond.code ⟨"WingDoor", "bestHelper", "(IZ)I"⟩ prog_1_method_30_code 7 (some .int)) ∈ zG := zG_mk (zG_t3 (List.mem_of_getElem? (i := 49) rfl)) rfl
theorem gw_3_50 : (Cond.methodLink "WingDoorLaw" 68 ⟨"WingDoor", "ahead", "(I)I"⟩) ∈ zG := zG_mk (zG_t3 (List.mem_of_getElem? (i := 50) rfl)) rfl
theorem gw_3_51 : (Cond.instanceMethod ⟨"WingDoor", "ahead", "(I)I"⟩) ∈ zG := zG_mk (zG_t3 (List.mem_of_getElem? (i := 51) rfl)) rfl
theorem gw_3_52 : (Cond.selects "WingDoor" ⟨"WingDoor", "ahead", "(I)I"⟩ ⟨"WingDoor", "ahead", "(I)I"⟩) ∈ zG := zG_mk (zG_t3 (List.mem_of_getElem? (i := 52) rfl)) rfl
theorem gw_3_53 : (Cond.code ⟨"WingDoor", "ahead", "(I)I"⟩ prog_1_method_15_code 2 (some .int)) ∈ zG := zG_mk (zG_t3 (List.mem_of_getElem? (i := 53) rfl)) rfl
theorem gw_3_54 : (Cond.methodLink "WingDoorLaw" 72 ⟨"WingDoor", "odds", "(II)I"⟩) ∈ zG := zG_mk (zG_t3 (List.mem_of_getElem? (i := 54) rfl)) rfl
theorem gw_3_55 : (Cond.instanceMethod ⟨"WingDoor", "odds", "(II)I"⟩) ∈ zG := zG_mk (zG_t3 (List.mem_of_getElem? (i := 55) rfl)) rfl
theorem gw_3_56 : (Cond.selects "WingDoor" ⟨"WingDoor", "odds", "(II)I"⟩ ⟨"WingDoor", "odds", "(II)I"⟩) ∈ zG := zG_mk (zG_t3 (List.mem_of_getElem? (i := 56) rfl)) rfl
theorem gw_3_57 : (Cond.code ⟨"WingDoor", "odds", "(II)I"⟩ prog_1_method_16_code 9 (some .int)) ∈ zG := zG_mk (zG_t3 (List.mem_of_getElem? (i := 57) rfl)) rfl
theorem gw_3_58 : (Cond.constantLong "WingDoor" 205 10) ∈ zG := zG_mk (zG_t3 (List.mem_of_getElem? (i := 58) rfl)) rfl
theorem gw_3_59 : (Cond.methodLink "WingDoor" 207 ⟨"WingDoor", "waysToGo", "(I)J"⟩) ∈ zG := zG_mk (zG_t3 (List.mem_of_getElem? (i := 59) rfl)) rfl
theorem gw_3_61 : (Cond.instanceMethod ⟨"WingDoor", "waysToGo", "(I)J"⟩) ∈ zG := zG_mk (zG_t3 (List.mem_of_getElem? (i := 61) rfl)) rfl
theorem gw_3_62 : (Cond.code ⟨"WingDoor", "waysToGo", "(I)J"⟩ prog_1_method_31_code 6 (some .long)) ∈ zG := zG_mk (zG_t3 (List.mem_of_getElem? (i := 62) rfl)) rfl
theorem gw_3_63 : (Cond.methodLink "WingDoor" 272 ⟨"java/util/Arrays", "fill", "([JJ)V"⟩) ∈ zG := zG_mk (zG_t3 (List.mem_of_getElem? (i := 63) rfl)) rfl
theorem gw_3_64 : (Cond.static ⟨"java/util/Arrays", "fill", "([JJ)V"⟩) ∈ zG := zG_mk (zG_t3 (List.mem_of_getElem? (i := 64) rfl)) rfl
theorem gw_3_65 : (Cond.code ⟨"java/util/Arrays", "fill", "([JJ)V"⟩ prog_18_method_101_code 5 none) ∈ zG := zG_mk (zG_t3 (List.mem_of_getElem? (i := 65) rfl)) rfl
theorem gw_3_66 : (Cond.methodLink "WingDoor" 278 ⟨"WingDoor$Moment", "pushOf", "(I)I"⟩) ∈ zG := zG_mk (zG_t3 (List.mem_of_getElem? (i := 66) rfl)) rfl
theorem gw_3_67 : (Cond.instanceMethod ⟨"WingDoor$Moment", "pushOf", "(I)I"⟩) ∈ zG := zG_mk (zG_t3 (List.mem_of_getElem? (i := 67) rfl)) rfl
theorem gw_3_68 : (Cond.selects "WingDoor$Moment" ⟨"WingDoor$Moment", "pushOf", "(I)I"⟩ ⟨"WingDoor$Moment", "pushOf", "(I)I"⟩) ∈ zG := zG_mk (zG_t3 (List.mem_of_getElem? (i := 68) rfl)) rfl
theorem gw_3_69 : (Cond.code ⟨"WingDoor$Moment", "pushOf", "(I)I"⟩ prog_7_method_6_code 2 (some .int)) ∈ zG := zG_mk (zG_t3 (List.mem_of_getElem? (i := 69) rfl)) rfl
theorem gw_3_70 : (Cond.methodLink "WingDoor" 279 ⟨"WingDoor", "addPusher", "(III)I"⟩) ∈ zG := zG_mk (zG_t3 (List.mem_of_getElem? (i := 70) rfl)) rfl
theorem gw_3_72 : (Cond.instanceMethod ⟨"WingDoor", "addPusher", "(III)I"⟩) ∈ zG := zG_mk (zG_t3 (List.mem_of_getElem? (i := 72) rfl)) rfl
theorem gw_3_73 : (Cond.code ⟨"WingDoor", "addPusher", "(III)I"⟩ prog_1_method_32_code 8 (some .int)) ∈ zG := zG_mk (zG_t3 (List.mem_of_getElem? (i := 73) rfl)) rfl
theorem gw_3_74 : (Cond.methodLink "WingDoor" 282 ⟨"java/lang/Math", "min", "(II)I"⟩) ∈ zG := zG_mk (zG_t3 (List.mem_of_getElem? (i := 74) rfl)) rfl
theorem gw_3_75 : (Cond.static ⟨"java/lang/Math", "min", "(II)I"⟩) ∈ zG := zG_mk (zG_t3 (List.mem_of_getElem? (i := 75) rfl)) rfl
theorem gw_3_76 : (Cond.code ⟨"java/lang/Math", "min", "(II)I"⟩ prog_16_method_69_code 2 (some .int)) ∈ zG := zG_mk (zG_t3 (List.mem_of_getElem? (i := 76) rfl)) rfl
theorem gw_3_77 : (Cond.methodLink "WingDoor" 211 ⟨"WingDoor", "greatestDivisor", "(JJ)J"⟩) ∈ zG := zG_mk (zG_t3 (List.mem_of_getElem? (i := 77) rfl)) rfl
theorem gw_3_78 : (Cond.static ⟨"WingDoor", "greatestDivisor", "(JJ)J"⟩) ∈ zG := zG_mk (zG_t3 (List.mem_of_getElem? (i := 78) rfl)) rfl
theorem gw_3_79 : (Cond.code ⟨"WingDoor", "greatestDivisor", "(JJ)J"⟩ prog_1_method_33_code 11 (some .long)) ∈ zG := zG_mk (zG_t3 (List.mem_of_getElem? (i := 79) rfl)) rfl
theorem gw_3_80 : (Cond.methodLink "WingDoor" 215 ⟨"java/lang/Math", "max", "(JJ)J"⟩) ∈ zG := zG_mk (zG_t3 (List.mem_of_getElem? (i := 80) rfl)) rfl
theorem gw_3_81 : (Cond.static ⟨"java/lang/Math", "max", "(JJ)J"⟩) ∈ zG := zG_mk (zG_t3 (List.mem_of_getElem? (i := 81) rfl)) rfl
theorem gw_3_82 : (Cond.code ⟨"java/lang/Math", "max", "(JJ)J"⟩ prog_16_method_66_code 4 (some .long)) ∈ zG := zG_mk (zG_t3 (List.mem_of_getElem? (i := 82) rfl)) rfl
theorem gw_3_83 : (Cond.methodLink "WingDoorLaw" 76 ⟨"WingDoor", "sees", "(III)I"⟩) ∈ zG := zG_mk (zG_t3 (List.mem_of_getElem? (i := 83) rfl)) rfl
theorem gw_3_84 : (Cond.instanceMethod ⟨"WingDoor", "sees", "(III)I"⟩) ∈ zG := zG_mk (zG_t3 (List.mem_of_getElem? (i := 84) rfl)) rfl
theorem gw_3_85 : (Cond.selects "WingDoor" ⟨"WingDoor", "sees", "(III)I"⟩ ⟨"WingDoor", "sees", "(III)I"⟩) ∈ zG := zG_mk (zG_t3 (List.mem_of_getElem? (i := 85) rfl)) rfl
theorem gw_3_86 : (Cond.code ⟨"WingDoor", "sees", "(III)I"⟩ prog_1_method_17_code 4 (some .int)) ∈ zG := zG_mk (zG_t3 (List.mem_of_getElem? (i := 86) rfl)) rfl
theorem gw_3_87 : (Cond.methodLink "WingDoor" 220 ⟨"WingDoor", "leastOf", "(I)I"⟩) ∈ zG := zG_mk (zG_t3 (List.mem_of_getElem? (i := 87) rfl)) rfl
theorem gw_3_88 : (Cond.static ⟨"WingDoor", "leastOf", "(I)I"⟩) ∈ zG := zG_mk (zG_t3 (List.mem_of_getElem? (i := 88) rfl)) rfl
theorem gw_3_89 : (Cond.code ⟨"WingDoor", "leastOf", "(I)I"⟩ prog_1_method_34_code 1 (some .int)) ∈ zG := zG_mk (zG_t3 (List.mem_of_getElem? (i := 89) rfl)) rfl
theorem gw_3_90 : (Cond.methodLink "WingDoor" 223 ⟨"WingDoor", "mostOf", "(I)I"⟩) ∈ zG := zG_mk (zG_t3 (List.mem_of_getElem? (i := 90) rfl)) rfl
theorem gw_3_91 : (Cond.static ⟨"WingDoor", "mostOf", "(I)I"⟩) ∈ zG := zG_mk (zG_t3 (List.mem_of_getElem? (i := 91) rfl)) rfl
theorem gw_3_92 : (Cond.code ⟨"WingDoor", "mostOf", "(I)I"⟩ prog_1_method_35_code 1 (some .int)) ∈ zG := zG_mk (zG_t3 (List.mem_of_getElem? (i := 92) rfl)) rfl
theorem gw_3_93 : (Cond.methodLink "WingDoor" 226 ⟨"WingDoor$Sightings", "add", "(III)Z"⟩) ∈ zG := zG_mk (zG_t3 (List.mem_of_getElem? (i := 93) rfl)) rfl
theorem gw_3_94 : (Cond.instanceMethod ⟨"WingDoor$Sightings", "add", "(III)Z"⟩) ∈ zG := zG_mk (zG_t3 (List.mem_of_getElem? (i := 94) rfl)) rfl
theorem gw_3_95 : (Cond.selects "WingDoor$Sightings" ⟨"WingDoor$Sightings", "add", "(III)Z"⟩ ⟨"WingDoor$Sightings", "add", "(III)Z"⟩) ∈ zG := zG_mk (zG_t3 (List.mem_of_getElem? (i := 95) rfl)) rfl
theorem gw_3_96 : (Cond.code ⟨"WingDoor$Sightings", "add", "(III)Z"⟩ prog_10_method_2_code 4 (some .boolean)) ∈ zG := zG_mk (zG_t3 (List.mem_of_getElem? (i := 96) rfl)) rfl
theorem gw_3_97 : (Cond.methodLink "WingDoorLaw" 81 ⟨"WingDoor", "forget", "()I"⟩) ∈ zG := zG_mk (zG_t3 (List.mem_of_getElem? (i := 97) rfl)) rfl
theorem gw_3_98 : (Cond.instanceMethod ⟨"WingDoor", "forget", "()I"⟩) ∈ zG := zG_mk (zG_t3 (List.mem_of_getElem? (i := 98) rfl)) rfl
theorem gw_3_99 : (Cond.selects "WingDoor" ⟨"WingDoor", "forget", "()I"⟩ ⟨"WingDoor", "forget", "()I"⟩) ∈ zG := zG_mk (zG_t3 (List.mem_of_getElem? (i := 99) rfl)) rfl
theorem gw_3_100 : (Cond.code ⟨"WingDoor", "forget", "()I"⟩ prog_1_method_18_code 2 (some .int)) ∈ zG := zG_mk (zG_t3 (List.mem_of_getElem? (i := 100) rfl)) rfl
theorem gw_3_101 : (Cond.methodLink "WingDoorLaw" 85 ⟨"WingDoor", "which", "()I"⟩) ∈ zG := zG_mk (zG_t3 (List.mem_of_getElem? (i := 101) rfl)) rfl
theorem gw_3_102 : (Cond.instanceMethod ⟨"WingDoor", "which", "()I"⟩) ∈ zG := zG_mk (zG_t3 (List.mem_of_getElem? (i := 102) rfl)) rfl
theorem gw_3_103 : (Cond.selects "WingDoor" ⟨"WingDoor", "which", "()I"⟩ ⟨"WingDoor", "which", "()I"⟩) ∈ zG := zG_mk (zG_t3 (List.mem_of_getElem? (i := 103) rfl)) rfl
theorem gw_3_104 : (Cond.code ⟨"WingDoor", "which", "()I"⟩ prog_1_method_19_code 1 (some .int)) ∈ zG := zG_mk (zG_t3 (List.mem_of_getElem? (i := 104) rfl)) rfl
theorem gw_3_105 : (Cond.methodLink "WingDoor" 229 ⟨"WingDoor$Sightings", "possibleSorts", "()I"⟩) ∈ zG := zG_mk (zG_t3 (List.mem_of_getElem? (i := 105) rfl)) rfl
theorem gw_3_106 : (Cond.instanceMethod ⟨"WingDoor$Sightings", "possibleSorts", "()I"⟩) ∈ zG := zG_mk (zG_t3 (List.mem_of_getElem? (i := 106) rfl)) rfl
theorem gw_3_107 : (Cond.selects "WingDoor$Sightings" ⟨"WingDoor$Sightings", "possibleSorts", "()I"⟩ ⟨"WingDoor$Sightings", "possibleSorts", "()I"⟩) ∈ zG := zG_mk (zG_t3 (List.mem_of_getElem? (i := 107) rfl)) rfl
theorem gw_3_108 : (Cond.code ⟨"WingDoor$Sightings", "possibleSorts", "()I"⟩ prog_10_method_3_code 3 (some .int)) ∈ zG := zG_mk (zG_t3 (List.mem_of_getElem? (i := 108) rfl)) rfl
theorem gw_3_109 : (Cond.methodLink "WingDoor$Sightings" 34 ⟨"WingDoor$Sightings", "allIsSoOf", "(I)Z"⟩) ∈ zG := zG_mk (zG_t3 (List.mem_of_getElem? (i := 109) rfl)) rfl
theorem gw_3_111 : (Cond.instanceMethod ⟨"WingDoor$Sightings", "allIsSoOf", "(I)Z"⟩) ∈ zG := zG_mk (zG_t3 (List.mem_of_getElem? (i := 111) rfl)) rfl
theorem gw_3_112 : (Cond.code ⟨"WingDoor$Sightings", "allIsSoOf", "(I)Z"⟩ prog_10_method_4_code 3 (some .boolean)) ∈ zG := zG_mk (zG_t3 (List.mem_of_getElem? (i := 112) rfl)) rfl
theorem gw_3_113 : (Cond.methodLink "WingDoor$Sightings" 38 ⟨"WingDoor$Plan", "isAtMost", "(III)Z"⟩) ∈ zG := zG_mk (zG_t3 (List.mem_of_getElem? (i := 113) rfl)) rfl
theorem gw_3_114 : (Cond.instanceMethod ⟨"WingDoor$Plan", "isAtMost", "(III)Z"⟩) ∈ zG := zG_mk (zG_t3 (List.mem_of_getElem? (i := 114) rfl)) rfl
theorem gw_3_115 : (Cond.selects "WingDoor$Plan" ⟨"WingDoor$Plan", "isAtMost", "(III)Z"⟩ ⟨"WingDoor$Plan", "isAtMost", "(III)Z"⟩) ∈ zG := zG_mk (zG_t3 (List.mem_of_getElem? (i := 115) rfl)) rfl
theorem gw_3_116 : (Cond.code ⟨"WingDoor$Plan", "isAtMost", "(III)Z"⟩ prog_9_method_8_code 4 (some .boolean)) ∈ zG := zG_mk (zG_t3 (List.mem_of_getElem? (i := 116) rfl)) rfl
theorem gw_3_117 : (Cond.methodLink "WingDoor$Plan" 40 ⟨"WingDoor$Plan", "bulkOf", "(I)I"⟩) ∈ zG := zG_mk (zG_t3 (List.mem_of_getElem? (i := 117) rfl)) rfl
theorem gw_3_118 : (Cond.methodLink "WingDoor$Plan" 44 ⟨"WingDoor$Plan", "pushOf", "(I)I"⟩) ∈ zG := zG_mk (zG_t3 (List.mem_of_getElem? (i := 118) rfl)) rfl
theorem gw_3_119 : (Cond.methodLink "WingDoorLaw" 89 ⟨"WingDoor", "look", "(I)I"⟩) ∈ zG := zG_mk (zG_t3 (List.mem_of_getElem? (i := 119) rfl)) rfl
theorem gw_3_120 : (Cond.instanceMethod ⟨"WingDoor", "look", "(I)I"⟩) ∈ zG := zG_mk (zG_t3 (List.mem_of_getElem? (i := 120) rfl)) rfl
theorem gw_3_121 : (Cond.selects "WingDoor" ⟨"WingDoor", "look", "(I)I"⟩ ⟨"WingDoor", "look", "(I)I"⟩) ∈ zG := zG_mk (zG_t3 (List.mem_of_getElem? (i := 121) rfl)) rfl
theorem gw_3_122 : (Cond.code ⟨"WingDoor", "look", "(I)I"⟩ prog_1_method_20_code 9 (some .int)) ∈ zG := zG_mk (zG_t3 (List.mem_of_getElem? (i := 122) rfl)) rfl
theorem gw_3_123 : (Cond.methodLink "WingDoor" 232 ⟨"java/lang/Integer", "bitCount", "(I)I"⟩) ∈ zG := zG_mk (zG_t3 (List.mem_of_getElem? (i := 123) rfl)) rfl
theorem gw_3_124 : (Cond.methodLink "WingDoor" 237 ⟨"WingDoor$Plan", "howManyAtMost", "(III)I"⟩) ∈ zG := zG_mk (zG_t3 (List.mem_of_getElem? (i := 124) rfl)) rfl
theorem gw_3_125 : (Cond.instanceMethod ⟨"WingDoor$Plan", "howManyAtMost", "(III)I"⟩) ∈ zG := zG_mk (zG_t3 (List.mem_of_getElem? (i := 125) rfl)) rfl
theorem gw_3_126 : (Cond.selects "WingDoor$Plan" ⟨"WingDoor$Plan", "howManyAtMost", "(III)I"⟩ ⟨"WingDoor$Plan", "howManyAtMost", "(III)I"⟩) ∈ zG := zG_mk (zG_t3 (List.mem_of_getElem? (i := 126) rfl)) rfl
theorem gw_3_127 : (Cond.code ⟨"WingDoor$Plan", "howManyAtMost", "(III)I"⟩ prog_9_method_9_code 6 (some .int)) ∈ zG := zG_mk (zG_t3 (List.mem_of_getElem? (i := 127) rfl)) rfl
theorem gw_3_128 : (Cond.methodLink "WingDoor$Plan" 47 ⟨"WingDoor$Plan", "isAtMost", "(III)Z"⟩) ∈ zG := zG_mk (zG_t3 (List.mem_of_getElem? (i := 128) rfl)) rfl
theorem gw_3_129 : (Cond.methodLink "WingDoor" 241 ⟨"java/lang/Math", "max", "(II)I"⟩) ∈ zG := zG_mk (zG_t3 (List.mem_of_getElem? (i := 129) rfl)) rfl
theorem gw_3_130 : (Cond.static ⟨"java/lang/Math", "max", "(II)I"⟩) ∈ zG := zG_mk (zG_t3 (List.mem_of_getElem? (i := 130) rfl)) rfl
theorem gw_3_131 : (Cond.code ⟨"java/lang/Math", "max", "(II)I"⟩ prog_16_method_65_code 2 (some .int)) ∈ zG := zG_mk (zG_t3 (List.mem_of_getElem? (i := 131) rfl)) rfl
theorem gw_3_132 : (Cond.methodLink "WingDoorLaw" 93 ⟨"WingDoor", "rate", "(II)I"⟩) ∈ zG := zG_mk (zG_t3 (List.mem_of_getElem? (i := 132) rfl)) rfl
theorem gw_3_133 : (Cond.instanceMethod ⟨"WingDoor", "rate", "(II)I"⟩) ∈ zG := zG_mk (zG_t3 (List.mem_of_getElem? (i := 133) rfl)) rfl
theorem gw_3_134 : (Cond.selects "WingDoor" ⟨"WingDoor", "rate", "(II)I"⟩ ⟨"WingDoor", "rate", "(II)I"⟩) ∈ zG := zG_mk (zG_t3 (List.mem_of_getElem? (i := 134) rfl)) rfl
theorem gw_3_135 : (Cond.code ⟨"WingDoor", "rate", "(II)I"⟩ prog_1_method_21_code 3 (some .int)) ∈ zG := zG_mk (zG_t3 (List.mem_of_getElem? (i := 135) rfl)) rfl
theorem gw_3_136 : (Cond.constant "WingDoor" 243 (-1000000)) ∈ zG := zG_mk (zG_t3 (List.mem_of_getElem? (i := 136) rfl)) rfl
theorem gw_3_137 : (Cond.methodLink "WingDoor" 244 ⟨"WingDoor$DoorKind", "worth", "(LWingDoor$Moment;I)I"⟩) ∈ zG := zG_mk (zG_t3 (List.mem_of_getElem? (i := 137) rfl)) rfl
theorem gw_3_138 : (Cond.instanceMethod ⟨"WingDoor$DoorKind", "worth", "(LWingDoor$Moment;I)I"⟩) ∈ zG := zG_mk (zG_t3 (List.mem_of_getElem? (i := 138) rfl)) rfl
theorem gw_3_139 : (Cond.selects "WingDoor$DoorKind" ⟨"WingDoor$DoorKind", "worth", "(LWingDoor$Moment;I)I"⟩ ⟨"WingDoor$DoorKind", "worth", "(LWingDoor$Moment;I)I"⟩) ∈ zG := zG_mk (zG_t3 (List.mem_of_getElem? (i := 139) rfl)) rfl
theorem gw_3_140 : (Cond.sameMethod "WingDoor$DoorKind" "WingDoor$DoorKind" "worth" "(LWingDoor$Moment;I)I") ∈ zG := zG_mk (zG_t3 (List.mem_of_getElem? (i := 140) rfl)) rfl
theorem gw_3_141 : (Cond.selects "WingDoor$BankKind" ⟨"WingDoor$DoorKind", "worth", "(LWingDoor$Moment;I)I"⟩ ⟨"WingDoor$BankKind", "worth", "(LWingDoor$Moment;I)I"⟩) ∈ zG := zG_mk (zG_t3 (List.mem_of_getElem? (i := 141) rfl)) rfl
theorem gw_3_142 : (Cond.instanceMethod ⟨"WingDoor$BankKind", "worth", "(LWingDoor$Moment;I)I"⟩) ∈ zG := zG_mk (zG_t3 (List.mem_of_getElem? (i := 142) rfl)) rfl
theorem gw_3_143 : (Cond.code ⟨"WingDoor$BankKind", "worth", "(LWingDoor$Moment;I)I"⟩ prog_2_method_2_code 3 (some .int)) ∈ zG := zG_mk (zG_t3 (List.mem_of_getElem? (i := 143) rfl)) rfl
theorem gw_3_144 : (Cond.constantLong "WingDoor$BankKind" 13 10) ∈ zG := zG_mk (zG_t3 (List.mem_of_getElem? (i := 144) rfl)) rfl
theorem gw_3_145 : (Cond.methodLink "WingDoor$BankKind" 15 ⟨"WingDoor$DoorKind", "worth", "(LWingDoor$Moment;I)I"⟩) ∈ zG := zG_mk (zG_t3 (List.mem_of_getElem? (i := 145) rfl)) rfl
theorem gw_3_146 : (Cond.methodLink "WingDoor$BankKind" 19 ⟨"WingDoor$Moment", "pushOf", "(I)I"⟩) ∈ zG := zG_mk (zG_t3 (List.mem_of_getElem? (i := 146) rfl)) rfl
theorem gw_3_147 : (Cond.selects "WingDoor$CourtKind" ⟨"WingDoor$DoorKind", "worth", "(LWingDoor$Moment;I)I"⟩ ⟨"WingDoor$CourtKind", "worth", "(LWingDoor$Moment;I)I"⟩) ∈ zG := zG_mk (zG_t3 (List.mem_of_getElem? (i := 147) rfl)) rfl
theorem gw_3_148 : (Cond.instanceMethod ⟨"WingDoor$CourtKind", "worth", "(LWingDoor$Moment;I)I"⟩) ∈ zG := zG_mk (zG_t3 (List.mem_of_getElem? (i := 148) rfl)) rfl
theorem gw_3_149 : (Cond.code ⟨"WingDoor$CourtKind", "worth", "(LWingDoor$Moment;I)I"⟩ prog_3_method_2_code 3 (some .int)) ∈ zG := zG_mk (zG_t3 (List.mem_of_getElem? (i := 149) rfl)) rfl
theorem gw_3_150 : (Cond.constantLong "WingDoor$CourtKind" 13 1000) ∈ zG := zG_mk (zG_t3 (List.mem_of_getElem? (i := 150) rfl)) rfl
theorem gw_3_151 : (Cond.methodLink "WingDoor$CourtKind" 15 ⟨"WingDoor$BankKind", "worth", "(LWingDoor$Moment;I)I"⟩) ∈ zG := zG_mk (zG_t3 (List.mem_of_getElem? (i := 151) rfl)) rfl
theorem gw_3_152 : (Cond.selects "WingDoor$GrandKind" ⟨"WingDoor$DoorKind", "worth", "(LWingDoor$Moment;I)I"⟩ ⟨"WingDoor$GrandKind", "worth", "(LWingDoor$Moment;I)I"⟩) ∈ zG := zG_mk (zG_t3 (List.mem_of_getElem? (i := 152) rfl)) rfl
theorem gw_3_153 : (Cond.instanceMethod ⟨"WingDoor$GrandKind", "worth", "(LWingDoor$Moment;I)I"⟩) ∈ zG := zG_mk (zG_t3 (List.mem_of_getElem? (i := 153) rfl)) rfl
theorem gw_3_154 : (Cond.code ⟨"WingDoor$GrandKind", "worth", "(LWingDoor$Moment;I)I"⟩ prog_5_method_2_code 3 (some .int)) ∈ zG := zG_mk (zG_t3 (List.mem_of_getElem? (i := 154) rfl)) rfl
theorem gw_3_155 : (Cond.constantLong "WingDoor$GrandKind" 13 10000) ∈ zG := zG_mk (zG_t3 (List.mem_of_getElem? (i := 155) rfl)) rfl
theorem gw_3_156 : (Cond.methodLink "WingDoor$GrandKind" 15 ⟨"WingDoor$HotelKind", "worth", "(LWingDoor$Moment;I)I"⟩) ∈ zG := zG_mk (zG_t3 (List.mem_of_getElem? (i := 156) rfl)) rfl
theorem gw_3_157 : (Cond.instanceMethod ⟨"WingDoor$HotelKind", "worth", "(LWingDoor$Moment;I)I"⟩) ∈ zG := zG_mk (zG_t3 (List.mem_of_getElem? (i := 157) rfl)) rfl
theorem gw_3_158 : (Cond.code ⟨"WingDoor$HotelKind", "worth", "(LWingDoor$Moment;I)I"⟩ prog_6_method_2_code 3 (some .int)) ∈ zG := zG_mk (zG_t3 (List.mem_of_getElem? (i := 158) rfl)) rfl
theorem gw_3_159 : (Cond.constantLong "WingDoor$HotelKind" 15 100) ∈ zG := zG_mk (zG_t3 (List.mem_of_getElem? (i := 159) rfl)) rfl
theorem gw_3_160 : (Cond.methodLink "WingDoor$HotelKind" 17 ⟨"WingDoor$DoorKind", "worth", "(LWingDoor$Moment;I)I"⟩) ∈ zG := zG_mk (zG_t3 (List.mem_of_getElem? (i := 160) rfl)) rfl
theorem gw_3_161 : (Cond.methodLink "WingDoor$HotelKind" 21 ⟨"WingDoor$Moment", "howManyAre", "(I)I"⟩) ∈ zG := zG_mk (zG_t3 (List.mem_of_getElem? (i := 161) rfl)) rfl
theorem gw_3_162 : (Cond.selects "WingDoor$HotelKind" ⟨"WingDoor$DoorKind", "worth", "(LWingDoor$Moment;I)I"⟩ ⟨"WingDoor$HotelKind", "worth", "(LWingDoor$Moment;I)I"⟩) ∈ zG := zG_mk (zG_t3 (List.mem_of_getElem? (i := 162) rfl)) rfl
theorem gw_3_163 : (Cond.selects "WingDoor$StoreKind" ⟨"WingDoor$DoorKind", "worth", "(LWingDoor$Moment;I)I"⟩ ⟨"WingDoor$StoreKind", "worth", "(LWingDoor$Moment;I)I"⟩) ∈ zG := zG_mk (zG_t3 (List.mem_of_getElem? (i := 163) rfl)) rfl
theorem gw_3_164 : (Cond.instanceMethod ⟨"WingDoor$StoreKind", "worth", "(LWingDoor$Moment;I)I"⟩) ∈ zG := zG_mk (zG_t3 (List.mem_of_getElem? (i := 164) rfl)) rfl
theorem gw_3_165 : (Cond.code ⟨"WingDoor$StoreKind", "worth", "(LWingDoor$Moment;I)I"⟩ prog_11_method_2_code 3 (some .int)) ∈ zG := zG_mk (zG_t3 (List.mem_of_getElem? (i := 165) rfl)) rfl
theorem gw_3_166 : (Cond.constantLong "WingDoor$StoreKind" 13 100000) ∈ zG := zG_mk (zG_t3 (List.mem_of_getElem? (i := 166) rfl)) rfl
theorem gw_3_167 : (Cond.methodLink "WingDoor$StoreKind" 15 ⟨"WingDoor$DoorKind", "worth", "(LWingDoor$Moment;I)I"⟩) ∈ zG := zG_mk (zG_t3 (List.mem_of_getElem? (i := 167) rfl)) rfl
theorem gw_3_168 : (Cond.code ⟨"WingDoor$DoorKind", "worth", "(LWingDoor$Moment;I)I"⟩ prog_4_method_2_code 3 (some .int)) ∈ zG := zG_mk (zG_t3 (List.mem_of_getElem? (i := 168) rfl)) rfl
theorem gw_3_169 : (Cond.methodLink "WingDoor$DoorKind" 13 ⟨"WingDoor$Moment", "bulkOf", "(I)I"⟩) ∈ zG := zG_mk (zG_t3 (List.mem_of_getElem? (i := 169) rfl)) rfl
theorem gw_3_170 : (Cond.instanceMethod ⟨"WingDoor$Moment", "bulkOf", "(I)I"⟩) ∈ zG := zG_mk (zG_t3 (List.mem_of_getElem? (i := 170) rfl)) rfl
theorem gw_3_171 : (Cond.selects "WingDoor$Moment" ⟨"WingDoor$Moment", "bulkOf", "(I)I"⟩ ⟨"WingDoor$Moment", "bulkOf", "(I)I"⟩) ∈ zG := zG_mk (zG_t3 (List.mem_of_getElem? (i := 171) rfl)) rfl
theorem gw_3_172 : (Cond.code ⟨"WingDoor$Moment", "bulkOf", "(I)I"⟩ prog_7_method_5_code 2 (some .int)) ∈ zG := zG_mk (zG_t3 (List.mem_of_getElem? (i := 172) rfl)) rfl
theorem gw_3_173 : (Cond.methodLink "WingDoorLaw" 97 ⟨"WingDoor", "keep", "(I)I"⟩) ∈ zG := zG_mk (zG_t3 (List.mem_of_getElem? (i := 173) rfl)) rfl
theorem gw_3_174 : (Cond.instanceMethod ⟨"WingDoor", "keep", "(I)I"⟩) ∈ zG := zG_mk (zG_t3 (List.mem_of_getElem? (i := 174) rfl)) rfl
theorem gw_3_175 : (Cond.selects "WingDoor" ⟨"WingDoor", "keep", "(I)I"⟩ ⟨"WingDoor", "keep", "(I)I"⟩) ∈ zG := zG_mk (zG_t3 (List.mem_of_getElem? (i := 175) rfl)) rfl
theorem gw_3_176 : (Cond.code ⟨"WingDoor", "keep", "(I)I"⟩ prog_1_method_22_code 2 (some .int)) ∈ zG := zG_mk (zG_t3 (List.mem_of_getElem? (i := 176) rfl)) rfl
theorem gw_3_177 : (Cond.methodLink "WingDoorLaw" 101 ⟨"WingDoor", "back", "(I)I"⟩) ∈ zG := zG_mk (zG_t3 (List.mem_of_getElem? (i := 177) rfl)) rfl
theorem gw_3_178 : (Cond.instanceMethod ⟨"WingDoor", "back", "(I)I"⟩) ∈ zG := zG_mk (zG_t3 (List.mem_of_getElem? (i := 178) rfl)) rfl
theorem gw_3_179 : (Cond.selects "WingDoor" ⟨"WingDoor", "back", "(I)I"⟩ ⟨"WingDoor", "back", "(I)I"⟩) ∈ zG := zG_mk (zG_t3 (List.mem_of_getElem? (i := 179) rfl)) rfl
theorem gw_3_180 : (Cond.code ⟨"WingDoor", "back", "(I)I"⟩ prog_1_method_23_code 2 (some .int)) ∈ zG := zG_mk (zG_t3 (List.mem_of_getElem? (i := 180) rfl)) rfl
theorem gw_3_181 : (Cond.methodLink "WingDoorLaw" 105 ⟨"WingDoor", "count", "(I)I"⟩) ∈ zG := zG_mk (zG_t3 (List.mem_of_getElem? (i := 181) rfl)) rfl
theorem gw_3_182 : (Cond.instanceMethod ⟨"WingDoor", "count", "(I)I"⟩) ∈ zG := zG_mk (zG_t3 (List.mem_of_getElem? (i := 182) rfl)) rfl
theorem gw_3_183 : (Cond.selects "WingDoor" ⟨"WingDoor", "count", "(I)I"⟩ ⟨"WingDoor", "count", "(I)I"⟩) ∈ zG := zG_mk (zG_t3 (List.mem_of_getElem? (i := 183) rfl)) rfl
theorem gw_3_184 : (Cond.code ⟨"WingDoor", "count", "(I)I"⟩ prog_1_method_24_code 2 (some .int)) ∈ zG := zG_mk (zG_t3 (List.mem_of_getElem? (i := 184) rfl)) rfl
theorem gw_3_185 : (Cond.methodLink "WingDoorLaw" 109 ⟨"WingDoor", "trace", "()J"⟩) ∈ zG := zG_mk (zG_t3 (List.mem_of_getElem? (i := 185) rfl)) rfl
theorem gw_3_186 : (Cond.instanceMethod ⟨"WingDoor", "trace", "()J"⟩) ∈ zG := zG_mk (zG_t3 (List.mem_of_getElem? (i := 186) rfl)) rfl
theorem gw_3_187 : (Cond.selects "WingDoor" ⟨"WingDoor", "trace", "()J"⟩ ⟨"WingDoor", "trace", "()J"⟩) ∈ zG := zG_mk (zG_t3 (List.mem_of_getElem? (i := 187) rfl)) rfl
theorem gw_3_188 : (Cond.code ⟨"WingDoor", "trace", "()J"⟩ prog_1_method_25_code 4 (some .long)) ∈ zG := zG_mk (zG_t3 (List.mem_of_getElem? (i := 188) rfl)) rfl
theorem gw_3_189 : (Cond.classLink "WingDoorLaw" 10 "WingDoorModel") ∈ zG := zG_mk (zG_t3 (List.mem_of_getElem? (i := 189) rfl)) rfl
theorem gw_3_190 : (Cond.instantiable "WingDoorModel" 27) ∈ zG := zG_mk (zG_t3 (List.mem_of_getElem? (i := 190) rfl)) rfl
theorem gw_3_191 : (Cond.methodLink "WingDoorLaw" 12 ⟨"WingDoorModel", "<init>", "()V"⟩) ∈ zG := zG_mk (zG_t3 (List.mem_of_getElem? (i := 191) rfl)) rfl
theorem gw_3_192 : (Cond.instanceMethod ⟨"WingDoorModel", "<init>", "()V"⟩) ∈ zG := zG_mk (zG_t3 (List.mem_of_getElem? (i := 192) rfl)) rfl
theorem gw_3_193 : (Cond.code ⟨"WingDoorModel", "<init>", "()V"⟩ prog_14_method_1_code 1 none) ∈ zG := zG_mk (zG_t3 (List.mem_of_getElem? (i := 193) rfl)) rfl
theorem gw_3_194 : (Cond.methodLink "WingDoorModel" 1 ⟨"java/lang/Object", "<init>", "()V"⟩) ∈ zG := zG_mk (zG_t3 (List.mem_of_getElem? (i := 194) rfl)) rfl
theorem gw_3_195 : (Cond.fieldLink "WingDoorModel" 7 "WingDoorModel" "rooms" "I") ∈ zG := zG_mk (zG_t3 (List.mem_of_getElem? (i := 195) rfl)) rfl
theorem gw_3_196 : (Cond.fieldLink "WingDoorModel" 13 "WingDoorModel" "wide" "I") ∈ zG := zG_mk (zG_t3 (List.mem_of_getElem? (i := 196) rfl)) rfl
theorem gw_3_197 : (Cond.fieldLink "WingDoorModel" 16 "WingDoorModel" "hard" "I") ∈ zG := zG_mk (zG_t3 (List.mem_of_getElem? (i := 197) rfl)) rfl
theorem gw_3_198 : (Cond.fieldLink "WingDoorModel" 125 "WingDoorModel" "sorts" "I") ∈ zG := zG_mk (zG_t3 (List.mem_of_getElem? (i := 198) rfl)) rfl
theorem gw_3_199 : (Cond.fieldLink "WingDoorModel" 19 "WingDoorModel" "bulk" "[I") ∈ zG := zG_mk (zG_t3 (List.mem_of_getElem? (i := 199) rfl)) rfl
theorem gw_3_200 : (Cond.fieldLink "WingDoorModel" 23 "WingDoorModel" "push" "[I") ∈ zG := zG_mk (zG_t3 (List.mem_of_getElem? (i := 200) rfl)) rfl
theorem gw_3_201 : (Cond.fieldLink "WingDoorModel" 26 "WingDoorModel" "now" "[I") ∈ zG := zG_mk (zG_t3 (List.mem_of_getElem? (i := 201) rfl)) rfl
theorem gw_3_202 : (Cond.fieldLink "WingDoorModel" 29 "WingDoorModel" "aside" "[I") ∈ zG := zG_mk (zG_t3 (List.mem_of_getElem? (i := 202) rfl)) rfl
theorem gw_3_203 : (Cond.fieldLink "WingDoorModel" 32 "WingDoorModel" "past" "[I") ∈ zG := zG_mk (zG_t3 (List.mem_of_getElem? (i := 203) rfl)) rfl
theorem gw_3_204 : (Cond.fieldLink "WingDoorModel" 132 "WingDoorModel" "undos" "I") ∈ zG := zG_mk (zG_t3 (List.mem_of_getElem? (i := 204) rfl)) rfl
theorem gw_3_205 : (Cond.fieldLink "WingDoorModel" 35 "WingDoorModel" "images" "[I") ∈ zG := zG_mk (zG_t3 (List.mem_of_getElem? (i := 205) rfl)) rfl
theorem gw_3_206 : (Cond.fieldLink "WingDoorModel" 38 "WingDoorModel" "isKept" "[Z") ∈ zG := zG_mk (zG_t3 (List.mem_of_getElem? (i := 206) rfl)) rfl
theorem gw_3_207 : (Cond.fieldLink "WingDoorModel" 42 "WingDoorModel" "seen" "[I") ∈ zG := zG_mk (zG_t3 (List.mem_of_getElem? (i := 207) rfl)) rfl
theorem gw_3_208 : (Cond.fieldLink "WingDoorModel" 135 "WingDoorModel" "seenMany" "I") ∈ zG := zG_mk (zG_t3 (List.mem_of_getElem? (i := 208) rfl)) rfl
theorem gw_3_209 : (Cond.fieldLink "WingDoorModel" 237 "WingDoorModel" "trace" "J") ∈ zG := zG_mk (zG_t3 (List.mem_of_getElem? (i := 209) rfl)) rfl
theorem gw_3_210 : (Cond.fieldLink "WingDoorModel" 45 "WingDoorModel" "text" "[I") ∈ zG := zG_mk (zG_t3 (List.mem_of_getElem? (i := 210) rfl)) rfl
theorem gw_3_211 : (Cond.fieldLink "WingDoorModel" 60 "WingDoorModel" "typed" "I") ∈ zG := zG_mk (zG_t3 (List.mem_of_getElem? (i := 211) rfl)) rfl
theorem gw_3_212 : (Cond.fieldLink "WingDoorModel" 63 "WingDoorModel" "at" "I") ∈ zG := zG_mk (zG_t3 (List.mem_of_getElem? (i := 212) rfl)) rfl
theorem gw_3_213 : (Cond.fieldLink "WingDoorModel" 74 "WingDoorModel" "begin" "I") ∈ zG := zG_mk (zG_t3 (List.mem_of_getElem? (i := 213) rfl)) rfl
theorem gw_3_214 : (Cond.fieldLink "WingDoorModel" 80 "WingDoorModel" "token" "I") ∈ zG := zG_mk (zG_t3 (List.mem_of_getElem? (i := 214) rfl)) rfl
theorem gw_3_215 : (Cond.fieldLink "WingDoorModel" 77 "WingDoorModel" "value" "I") ∈ zG := zG_mk (zG_t3 (List.mem_of_getElem? (i := 215) rfl)) rfl
theorem gw_3_216 : (Cond.fieldLink "WingDoorModel" 97 "WingDoorModel" "readRooms" "I") ∈ zG := zG_mk (zG_t3 (List.mem_of_getElem? (i := 216) rfl)) rfl
theorem gw_3_217 : (Cond.fieldLink "WingDoorModel" 100 "WingDoorModel" "readWide" "I") ∈ zG := zG_mk (zG_t3 (List.mem_of_getElem? (i := 217) rfl)) rfl
theorem gw_3_218 : (Cond.fieldLink "WingDoorModel" 103 "WingDoorModel" "readHard" "I") ∈ zG := zG_mk (zG_t3 (List.mem_of_getElem? (i := 218) rfl)) rfl
theorem gw_3_219 : (Cond.fieldLink "WingDoorModel" 106 "WingDoorModel" "readSorts" "I") ∈ zG := zG_mk (zG_t3 (List.mem_of_getElem? (i := 219) rfl)) rfl
theorem gw_3_220 : (Cond.fieldLink "WingDoorModel" 48 "WingDoorModel" "readBulk" "[I") ∈ zG := zG_mk (zG_t3 (List.mem_of_getElem? (i := 220) rfl)) rfl
theorem gw_3_221 : (Cond.fieldLink "WingDoorModel" 51 "WingDoorModel" "readPush" "[I") ∈ zG := zG_mk (zG_t3 (List.mem_of_getElem? (i := 221) rfl)) rfl
theorem gw_3_222 : (Cond.lays "WingDoorModel" "WingDoorModel" "rooms" "I") ∈ zG := zG_mk (zG_t3 (List.mem_of_getElem? (i := 222) rfl)) rfl
theorem gw_3_224 : (Cond.lays "WingDoorModel" "WingDoorModel" "wide" "I") ∈ zG := zG_mk (zG_t3 (List.mem_of_getElem? (i := 224) rfl)) rfl
theorem gw_3_226 : (Cond.lays "WingDoorModel" "WingDoorModel" "hard" "I") ∈ zG := zG_mk (zG_t3 (List.mem_of_getElem? (i := 226) rfl)) rfl
theorem gw_3_228 : (Cond.lays "WingDoorModel" "WingDoorModel" "sorts" "I") ∈ zG := zG_mk (zG_t3 (List.mem_of_getElem? (i := 228) rfl)) rfl
theorem gw_3_230 : (Cond.laysFinal "WingDoorModel" "WingDoorModel" "bulk" "[I") ∈ zG := zG_mk (zG_t3 (List.mem_of_getElem? (i := 230) rfl)) rfl
theorem gw_3_232 : (Cond.laysFinal "WingDoorModel" "WingDoorModel" "push" "[I") ∈ zG := zG_mk (zG_t3 (List.mem_of_getElem? (i := 232) rfl)) rfl
theorem gw_3_234 : (Cond.laysFinal "WingDoorModel" "WingDoorModel" "now" "[I") ∈ zG := zG_mk (zG_t3 (List.mem_of_getElem? (i := 234) rfl)) rfl
theorem gw_3_236 : (Cond.laysFinal "WingDoorModel" "WingDoorModel" "aside" "[I") ∈ zG := zG_mk (zG_t3 (List.mem_of_getElem? (i := 236) rfl)) rfl
theorem gw_3_238 : (Cond.laysFinal "WingDoorModel" "WingDoorModel" "past" "[I") ∈ zG := zG_mk (zG_t3 (List.mem_of_getElem? (i := 238) rfl)) rfl
theorem gw_4_0 : (Cond.lays "WingDoorModel" "WingDoorModel" "undos" "I") ∈ zG := zG_mk (zG_t4 (List.mem_of_getElem? (i := 0) rfl)) rfl
theorem gw_4_2 : (Cond.laysFinal "WingDoorModel" "WingDoorModel" "images" "[I") ∈ zG := zG_mk (zG_t4 (List.mem_of_getElem? (i := 2) rfl)) rfl
theorem gw_4_4 : (Cond.laysFinal "WingDoorModel" "WingDoorModel" "isKept" "[Z") ∈ zG := zG_mk (zG_t4 (List.mem_of_getElem? (i := 4) rfl)) rfl
theorem gw_4_6 : (Cond.laysFinal "WingDoorModel" "WingDoorModel" "seen" "[I") ∈ zG := zG_mk (zG_t4 (List.mem_of_getElem? (i := 6) rfl)) rfl
theorem gw_4_8 : (Cond.lays "WingDoorModel" "WingDoorModel" "seenMany" "I") ∈ zG := zG_mk (zG_t4 (List.mem_of_getElem? (i := 8) rfl)) rfl
theorem gw_4_10 : (Cond.lays "WingDoorModel" "WingDoorModel" "trace" "J") ∈ zG := zG_mk (zG_t4 (List.mem_of_getElem? (i := 10) rfl)) rfl
theorem gw_4_12 : (Cond.laysFinal "WingDoorModel" "WingDoorModel" "text" "[I") ∈ zG := zG_mk (zG_t4 (List.mem_of_getElem? (i := 12) rfl)) rfl
theorem gw_4_14 : (Cond.lays "WingDoorModel" "WingDoorModel" "typed" "I") ∈ zG := zG_mk (zG_t4 (List.mem_of_getElem? (i := 14) rfl)) rfl
theorem gw_4_16 : (Cond.lays "WingDoorModel" "WingDoorModel" "at" "I") ∈ zG := zG_mk (zG_t4 (List.mem_of_getElem? (i := 16) rfl)) rfl
theorem gw_4_18 : (Cond.lays "WingDoorModel" "WingDoorModel" "begin" "I") ∈ zG := zG_mk (zG_t4 (List.mem_of_getElem? (i := 18) rfl)) rfl
theorem gw_4_20 : (Cond.lays "WingDoorModel" "WingDoorModel" "token" "I") ∈ zG := zG_mk (zG_t4 (List.mem_of_getElem? (i := 20) rfl)) rfl
theorem gw_4_22 : (Cond.lays "WingDoorModel" "WingDoorModel" "value" "I") ∈ zG := zG_mk (zG_t4 (List.mem_of_getElem? (i := 22) rfl)) rfl
theorem gw_4_24 : (Cond.lays "WingDoorModel" "WingDoorModel" "readRooms" "I") ∈ zG := zG_mk (zG_t4 (List.mem_of_getElem? (i := 24) rfl)) rfl
theorem gw_4_26 : (Cond.lays "WingDoorModel" "WingDoorModel" "readWide" "I") ∈ zG := zG_mk (zG_t4 (List.mem_of_getElem? (i := 26) rfl)) rfl
theorem gw_4_28 : (Cond.lays "WingDoorModel" "WingDoorModel" "readHard" "I") ∈ zG := zG_mk (zG_t4 (List.mem_of_getElem? (i := 28) rfl)) rfl
theorem gw_4_30 : (Cond.lays "WingDoorModel" "WingDoorModel" "readSorts" "I") ∈ zG := zG_mk (zG_t4 (List.mem_of_getElem? (i := 30) rfl)) rfl
theorem gw_4_32 : (Cond.laysFinal "WingDoorModel" "WingDoorModel" "readBulk" "[I") ∈ zG := zG_mk (zG_t4 (List.mem_of_getElem? (i := 32) rfl)) rfl
theorem gw_4_34 : (Cond.laysFinal "WingDoorModel" "WingDoorModel" "readPush" "[I") ∈ zG := zG_mk (zG_t4 (List.mem_of_getElem? (i := 34) rfl)) rfl
theorem gw_4_36 : (Cond.superclass "WingDoorModel" "java/lang/Object") ∈ zG := zG_mk (zG_t4 (List.mem_of_getElem? (i := 36) rfl)) rfl
theorem gw_4_37 : (Cond.methodLink "WingDoorLaw" 17 ⟨"WingDoorModel", "type", "(I)I"⟩) ∈ zG := zG_mk (zG_t4 (List.mem_of_getElem? (i := 37) rfl)) rfl
theorem gw_4_38 : (Cond.instanceMethod ⟨"WingDoorModel", "type", "(I)I"⟩) ∈ zG := zG_mk (zG_t4 (List.mem_of_getElem? (i := 38) rfl)) rfl
theorem gw_4_39 : (Cond.selects "WingDoorModel" ⟨"WingDoorModel", "type", "(I)I"⟩ ⟨"WingDoorModel", "type", "(I)I"⟩) ∈ zG := zG_mk (zG_t4 (List.mem_of_getElem? (i := 39) rfl)) rfl
theorem gw_4_40 : (Cond.code ⟨"WingDoorModel", "type", "(I)I"⟩ prog_14_method_7_code 2 (some .int)) ∈ zG := zG_mk (zG_t4 (List.mem_of_getElem? (i := 40) rfl)) rfl
theorem gw_4_41 : (Cond.constantLong "WingDoorModel" 54 255) ∈ zG := zG_mk (zG_t4 (List.mem_of_getElem? (i := 41) rfl)) rfl
theorem gw_4_42 : (Cond.methodLink "WingDoorModel" 56 ⟨"WingDoorModel", "in", "(JJJ)Z"⟩) ∈ zG := zG_mk (zG_t4 (List.mem_of_getElem? (i := 42) rfl)) rfl
theorem gw_4_43 : (Cond.static ⟨"WingDoorModel", "in", "(JJJ)Z"⟩) ∈ zG := zG_mk (zG_t4 (List.mem_of_getElem? (i := 43) rfl)) rfl
theorem gw_4_44 : (Cond.code ⟨"WingDoorModel", "in", "(JJJ)Z"⟩ prog_14_method_3_code 6 (some .boolean)) ∈ zG := zG_mk (zG_t4 (List.mem_of_getElem? (i := 44) rfl)) rfl
theorem gw_4_45 : (Cond.methodLink "WingDoorLaw" 22 ⟨"WingDoorModel", "clear", "()I"⟩) ∈ zG := zG_mk (zG_t4 (List.mem_of_getElem? (i := 45) rfl)) rfl
theorem gw_4_46 : (Cond.instanceMethod ⟨"WingDoorModel", "clear", "()I"⟩) ∈ zG := zG_mk (zG_t4 (List.mem_of_getElem? (i := 46) rfl)) rfl
theorem gw_4_47 : (Cond.selects "WingDoorModel" ⟨"WingDoorModel", "clear", "()I"⟩ ⟨"WingDoorModel", "clear", "()I"⟩) ∈ zG := zG_mk (zG_t4 (List.mem_of_getElem? (i := 47) rfl)) rfl
theorem gw_4_48 : (Cond.code ⟨"WingDoorModel", "clear", "()I"⟩ prog_14_method_8_code 2 (some .int)) ∈ zG := zG_mk (zG_t4 (List.mem_of_getElem? (i := 48) rfl)) rfl
theorem gw_4_49 : (Cond.methodLink "WingDoorLaw" 26 ⟨"WingDoorModel", "door", "()I"⟩) ∈ zG := zG_mk (zG_t4 (List.mem_of_getElem? (i := 49) rfl)) rfl
theorem gw_4_50 : (Cond.instanceMethod ⟨"WingDoorModel", "door", "()I"⟩) ∈ zG := zG_mk (zG_t4 (List.mem_of_getElem? (i := 50) rfl)) rfl
theorem gw_4_51 : (Cond.selects "WingDoorModel" ⟨"WingDoorModel", "door", "()I"⟩ ⟨"WingDoorModel", "door", "()I"⟩) ∈ zG := zG_mk (zG_t4 (List.mem_of_getElem? (i := 51) rfl)) rfl
theorem gw_4_52 : (Cond.code ⟨"WingDoorModel", "door", "()I"⟩ prog_14_method_19_code 3 (some .int)) ∈ zG := zG_mk (zG_t4 (List.mem_of_getElem? (i := 52) rfl)) rfl
theorem gw_4_53 : (Cond.methodLink "WingDoorModel" 122 ⟨"WingDoorModel", "reads", "()I"⟩) ∈ zG := zG_mk (zG_t4 (List.mem_of_getElem? (i := 53) rfl)) rfl
theorem gw_4_55 : (Cond.instanceMethod ⟨"WingDoorModel", "reads", "()I"⟩) ∈ zG := zG_mk (zG_t4 (List.mem_of_getElem? (i := 55) rfl)) rfl
theorem gw_4_56 : (Cond.code ⟨"WingDoorModel", "reads", "()I"⟩ prog_14_method_18_code 2 (some .int)) ∈ zG := zG_mk (zG_t4 (List.mem_of_getElem? (i := 56) rfl)) rfl
theorem gw_4_57 : (Cond.methodLink "WingDoorModel" 90 ⟨"WingDoorModel", "nextToken", "()V"⟩) ∈ zG := zG_mk (zG_t4 (List.mem_of_getElem? (i := 57) rfl)) rfl
theorem gw_4_59 : (Cond.instanceMethod ⟨"WingDoorModel", "nextToken", "()V"⟩) ∈ zG := zG_mk (zG_t4 (List.mem_of_getElem? (i := 59) rfl)) rfl
theorem gw_4_60 : (Cond.code ⟨"WingDoorModel", "nextToken", "()V"⟩ prog_14_method_11_code 1 none) ∈ zG := zG_mk (zG_t4 (List.mem_of_getElem? (i := 60) rfl)) rfl
theorem gw_4_61 : (Cond.methodLink "WingDoorModel" 66 ⟨"WingDoorModel", "here", "()I"⟩) ∈ zG := zG_mk (zG_t4 (List.mem_of_getElem? (i := 61) rfl)) rfl
theorem gw_4_63 : (Cond.instanceMethod ⟨"WingDoorModel", "here", "()I"⟩) ∈ zG := zG_mk (zG_t4 (List.mem_of_getElem? (i := 63) rfl)) rfl
theorem gw_4_64 : (Cond.code ⟨"WingDoorModel", "here", "()I"⟩ prog_14_method_9_code 1 (some .int)) ∈ zG := zG_mk (zG_t4 (List.mem_of_getElem? (i := 64) rfl)) rfl
theorem gw_4_65 : (Cond.methodLink "WingDoorModel" 83 ⟨"WingDoorModel", "isFigure", "()Z"⟩) ∈ zG := zG_mk (zG_t4 (List.mem_of_getElem? (i := 65) rfl)) rfl
theorem gw_4_67 : (Cond.instanceMethod ⟨"WingDoorModel", "isFigure", "()Z"⟩) ∈ zG := zG_mk (zG_t4 (List.mem_of_getElem? (i := 67) rfl)) rfl
theorem gw_4_68 : (Cond.code ⟨"WingDoorModel", "isFigure", "()Z"⟩ prog_14_method_10_code 1 (some .boolean)) ∈ zG := zG_mk (zG_t4 (List.mem_of_getElem? (i := 68) rfl)) rfl
theorem gw_4_69 : (Cond.constantLong "WingDoorModel" 70 48) ∈ zG := zG_mk (zG_t4 (List.mem_of_getElem? (i := 69) rfl)) rfl
theorem gw_4_70 : (Cond.constantLong "WingDoorModel" 72 57) ∈ zG := zG_mk (zG_t4 (List.mem_of_getElem? (i := 70) rfl)) rfl
theorem gw_4_71 : (Cond.methodLink "WingDoorModel" 87 ⟨"WingDoorModel", "readsFigures", "()V"⟩) ∈ zG := zG_mk (zG_t4 (List.mem_of_getElem? (i := 71) rfl)) rfl
theorem gw_4_73 : (Cond.instanceMethod ⟨"WingDoorModel", "readsFigures", "()V"⟩) ∈ zG := zG_mk (zG_t4 (List.mem_of_getElem? (i := 73) rfl)) rfl
theorem gw_4_74 : (Cond.code ⟨"WingDoorModel", "readsFigures", "()V"⟩ prog_14_method_12_code 2 none) ∈ zG := zG_mk (zG_t4 (List.mem_of_getElem? (i := 74) rfl)) rfl
theorem gw_4_75 : (Cond.methodLink "WingDoorModel" 118 ⟨"WingDoorModel", "isItem", "(I)Z"⟩) ∈ zG := zG_mk (zG_t4 (List.mem_of_getElem? (i := 75) rfl)) rfl
theorem gw_4_77 : (Cond.instanceMethod ⟨"WingDoorModel", "isItem", "(I)Z"⟩) ∈ zG := zG_mk (zG_t4 (List.mem_of_getElem? (i := 77) rfl)) rfl
theorem gw_4_78 : (Cond.code ⟨"WingDoorModel", "isItem", "(I)Z"⟩ prog_14_method_17_code 2 (some .boolean)) ∈ zG := zG_mk (zG_t4 (List.mem_of_getElem? (i := 78) rfl)) rfl
theorem gw_4_79 : (Cond.methodLink "WingDoorModel" 109 ⟨"WingDoorModel", "isRooms", "()Z"⟩) ∈ zG := zG_mk (zG_t4 (List.mem_of_getElem? (i := 79) rfl)) rfl
theorem gw_4_81 : (Cond.instanceMethod ⟨"WingDoorModel", "isRooms", "()Z"⟩) ∈ zG := zG_mk (zG_t4 (List.mem_of_getElem? (i := 81) rfl)) rfl
theorem gw_4_82 : (Cond.code ⟨"WingDoorModel", "isRooms", "()Z"⟩ prog_14_method_14_code 1 (some .boolean)) ∈ zG := zG_mk (zG_t4 (List.mem_of_getElem? (i := 82) rfl)) rfl
theorem gw_4_83 : (Cond.methodLink "WingDoorModel" 93 ⟨"WingDoorModel", "number", "(II)Z"⟩) ∈ zG := zG_mk (zG_t4 (List.mem_of_getElem? (i := 83) rfl)) rfl
theorem gw_4_85 : (Cond.instanceMethod ⟨"WingDoorModel", "number", "(II)Z"⟩) ∈ zG := zG_mk (zG_t4 (List.mem_of_getElem? (i := 85) rfl)) rfl
theorem gw_4_86 : (Cond.code ⟨"WingDoorModel", "number", "(II)Z"⟩ prog_14_method_13_code 3 (some .boolean)) ∈ zG := zG_mk (zG_t4 (List.mem_of_getElem? (i := 86) rfl)) rfl
theorem gw_4_87 : (Cond.methodLink "WingDoorModel" 112 ⟨"WingDoorModel", "isHard", "()Z"⟩) ∈ zG := zG_mk (zG_t4 (List.mem_of_getElem? (i := 87) rfl)) rfl
theorem gw_4_89 : (Cond.instanceMethod ⟨"WingDoorModel", "isHard", "()Z"⟩) ∈ zG := zG_mk (zG_t4 (List.mem_of_getElem? (i := 89) rfl)) rfl
theorem gw_4_90 : (Cond.code ⟨"WingDoorModel", "isHard", "()Z"⟩ prog_14_method_15_code 1 (some .boolean)) ∈ zG := zG_mk (zG_t4 (List.mem_of_getElem? (i := 90) rfl)) rfl
theorem gw_4_91 : (Cond.methodLink "WingDoorModel" 115 ⟨"WingDoorModel", "isSort", "()Z"⟩) ∈ zG := zG_mk (zG_t4 (List.mem_of_getElem? (i := 91) rfl)) rfl
theorem gw_4_93 : (Cond.instanceMethod ⟨"WingDoorModel", "isSort", "()Z"⟩) ∈ zG := zG_mk (zG_t4 (List.mem_of_getElem? (i := 93) rfl)) rfl
theorem gw_4_94 : (Cond.code ⟨"WingDoorModel", "isSort", "()Z"⟩ prog_14_method_16_code 1 (some .boolean)) ∈ zG := zG_mk (zG_t4 (List.mem_of_getElem? (i := 94) rfl)) rfl
theorem gw_4_95 : (Cond.methodLink "WingDoorModel" 128 ⟨"WingDoorModel", "copies", "([II[III)V"⟩) ∈ zG := zG_mk (zG_t4 (List.mem_of_getElem? (i := 95) rfl)) rfl
theorem gw_4_96 : (Cond.static ⟨"WingDoorModel", "copies", "([II[III)V"⟩) ∈ zG := zG_mk (zG_t4 (List.mem_of_getElem? (i := 96) rfl)) rfl
theorem gw_4_97 : (Cond.code ⟨"WingDoorModel", "copies", "([II[III)V"⟩ prog_14_method_6_code 6 none) ∈ zG := zG_mk (zG_t4 (List.mem_of_getElem? (i := 97) rfl)) rfl
theorem gw_4_98 : (Cond.methodLink "WingDoorLaw" 31 ⟨"WingDoorModel", "sort", "(II)I"⟩) ∈ zG := zG_mk (zG_t4 (List.mem_of_getElem? (i := 98) rfl)) rfl
theorem gw_4_99 : (Cond.instanceMethod ⟨"WingDoorModel", "sort", "(II)I"⟩) ∈ zG := zG_mk (zG_t4 (List.mem_of_getElem? (i := 99) rfl)) rfl
theorem gw_4_100 : (Cond.selects "WingDoorModel" ⟨"WingDoorModel", "sort", "(II)I"⟩ ⟨"WingDoorModel", "sort", "(II)I"⟩) ∈ zG := zG_mk (zG_t4 (List.mem_of_getElem? (i := 100) rfl)) rfl
theorem gw_4_101 : (Cond.code ⟨"WingDoorModel", "sort", "(II)I"⟩ prog_14_method_39_code 5 (some .int)) ∈ zG := zG_mk (zG_t4 (List.mem_of_getElem? (i := 101) rfl)) rfl
theorem gw_4_102 : (Cond.methodLink "WingDoorLaw" 35 ⟨"WingDoorModel", "goer", "(II)I"⟩) ∈ zG := zG_mk (zG_t4 (List.mem_of_getElem? (i := 102) rfl)) rfl
theorem gw_4_103 : (Cond.instanceMethod ⟨"WingDoorModel", "goer", "(II)I"⟩) ∈ zG := zG_mk (zG_t4 (List.mem_of_getElem? (i := 103) rfl)) rfl
theorem gw_4_104 : (Cond.selects "WingDoorModel" ⟨"WingDoorModel", "goer", "(II)I"⟩ ⟨"WingDoorModel", "goer", "(II)I"⟩) ∈ zG := zG_mk (zG_t4 (List.mem_of_getElem? (i := 104) rfl)) rfl
theorem gw_4_105 : (Cond.code ⟨"WingDoorModel", "goer", "(II)I"⟩ prog_14_method_40_code 3 (some .int)) ∈ zG := zG_mk (zG_t4 (List.mem_of_getElem? (i := 105) rfl)) rfl
theorem gw_4_106 : (Cond.methodLink "WingDoorModel" 188 ⟨"WingDoorModel", "isGoer", "(I)Z"⟩) ∈ zG := zG_mk (zG_t4 (List.mem_of_getElem? (i := 106) rfl)) rfl
theorem gw_4_108 : (Cond.instanceMethod ⟨"WingDoorModel", "isGoer", "(I)Z"⟩) ∈ zG := zG_mk (zG_t4 (List.mem_of_getElem? (i := 108) rfl)) rfl
theorem gw_4_109 : (Cond.code ⟨"WingDoorModel", "isGoer", "(I)Z"⟩ prog_14_method_21_code 2 (some .boolean)) ∈ zG := zG_mk (zG_t4 (List.mem_of_getElem? (i := 109) rfl)) rfl
theorem gw_4_110 : (Cond.methodLink "WingDoorModel" 191 ⟨"WingDoorModel", "aheadOf", "([II)I"⟩) ∈ zG := zG_mk (zG_t4 (List.mem_of_getElem? (i := 110) rfl)) rfl
theorem gw_4_111 : (Cond.static ⟨"WingDoorModel", "aheadOf", "([II)I"⟩) ∈ zG := zG_mk (zG_t4 (List.mem_of_getElem? (i := 111) rfl)) rfl
theorem gw_4_112 : (Cond.code ⟨"WingDoorModel", "aheadOf", "([II)I"⟩ prog_14_method_33_code 4 (some .int)) ∈ zG := zG_mk (zG_t4 (List.mem_of_getElem? (i := 112) rfl)) rfl
theorem gw_4_113 : (Cond.methodLink "WingDoorModel" 194 ⟨"WingDoorModel", "when", "(I)I"⟩) ∈ zG := zG_mk (zG_t4 (List.mem_of_getElem? (i := 113) rfl)) rfl
theorem gw_4_115 : (Cond.instanceMethod ⟨"WingDoorModel", "when", "(I)I"⟩) ∈ zG := zG_mk (zG_t4 (List.mem_of_getElem? (i := 115) rfl)) rfl
theorem gw_4_116 : (Cond.code ⟨"WingDoorModel", "when", "(I)I"⟩ prog_14_method_36_code 3 (some .int)) ∈ zG := zG_mk (zG_t4 (List.mem_of_getElem? (i := 116) rfl)) rfl
theorem gw_4_117 : (Cond.methodLink "WingDoorModel" 182 ⟨"WingDoorModel", "layAside", "()V"⟩) ∈ zG := zG_mk (zG_t4 (List.mem_of_getElem? (i := 117) rfl)) rfl
theorem gw_4_119 : (Cond.instanceMethod ⟨"WingDoorModel", "layAside", "()V"⟩) ∈ zG := zG_mk (zG_t4 (List.mem_of_getElem? (i := 119) rfl)) rfl
theorem gw_4_120 : (Cond.code ⟨"WingDoorModel", "layAside", "()V"⟩ prog_14_method_34_code 1 none) ∈ zG := zG_mk (zG_t4 (List.mem_of_getElem? (i := 120) rfl)) rfl
theorem gw_4_121 : (Cond.methodLink "WingDoorModel" 185 ⟨"WingDoorModel", "whenAside", "(I)I"⟩) ∈ zG := zG_mk (zG_t4 (List.mem_of_getElem? (i := 121) rfl)) rfl
theorem gw_4_123 : (Cond.instanceMethod ⟨"WingDoorModel", "whenAside", "(I)I"⟩) ∈ zG := zG_mk (zG_t4 (List.mem_of_getElem? (i := 123) rfl)) rfl
theorem gw_4_124 : (Cond.code ⟨"WingDoorModel", "whenAside", "(I)I"⟩ prog_14_method_35_code 4 (some .int)) ∈ zG := zG_mk (zG_t4 (List.mem_of_getElem? (i := 124) rfl)) rfl
theorem gw_4_125 : (Cond.methodLink "WingDoorModel" 179 ⟨"WingDoorModel", "goes", "([I)I"⟩) ∈ zG := zG_mk (zG_t4 (List.mem_of_getElem? (i := 125) rfl)) rfl
theorem gw_4_127 : (Cond.instanceMethod ⟨"WingDoorModel", "goes", "([I)I"⟩) ∈ zG := zG_mk (zG_t4 (List.mem_of_getElem? (i := 127) rfl)) rfl
theorem gw_4_128 : (Cond.code ⟨"WingDoorModel", "goes", "([I)I"⟩ prog_14_method_32_code 5 (some .int)) ∈ zG := zG_mk (zG_t4 (List.mem_of_getElem? (i := 128) rfl)) rfl
theorem gw_4_129 : (Cond.methodLink "WingDoorModel" 171 ⟨"WingDoorModel", "sticksOn", "([I)Z"⟩) ∈ zG := zG_mk (zG_t4 (List.mem_of_getElem? (i := 129) rfl)) rfl
theorem gw_4_131 : (Cond.instanceMethod ⟨"WingDoorModel", "sticksOn", "([I)Z"⟩) ∈ zG := zG_mk (zG_t4 (List.mem_of_getElem? (i := 131) rfl)) rfl
theorem gw_4_132 : (Cond.code ⟨"WingDoorModel", "sticksOn", "([I)Z"⟩ prog_14_method_31_code 2 (some .boolean)) ∈ zG := zG_mk (zG_t4 (List.mem_of_getElem? (i := 132) rfl)) rfl
theorem gw_4_133 : (Cond.methodLink "WingDoorModel" 158 ⟨"WingDoorModel", "those", "([II)I"⟩) ∈ zG := zG_mk (zG_t4 (List.mem_of_getElem? (i := 133) rfl)) rfl
theorem gw_4_134 : (Cond.static ⟨"WingDoorModel", "those", "([II)I"⟩) ∈ zG := zG_mk (zG_t4 (List.mem_of_getElem? (i := 134) rfl)) rfl
theorem gw_4_135 : (Cond.code ⟨"WingDoorModel", "those", "([II)I"⟩ prog_14_method_23_code 4 (some .int)) ∈ zG := zG_mk (zG_t4 (List.mem_of_getElem? (i := 135) rfl)) rfl
theorem gw_4_136 : (Cond.methodLink "WingDoorModel" 164 ⟨"WingDoorModel", "loadOn", "([I)I"⟩) ∈ zG := zG_mk (zG_t4 (List.mem_of_getElem? (i := 136) rfl)) rfl
theorem gw_4_138 : (Cond.instanceMethod ⟨"WingDoorModel", "loadOn", "([I)I"⟩) ∈ zG := zG_mk (zG_t4 (List.mem_of_getElem? (i := 138) rfl)) rfl
theorem gw_4_139 : (Cond.code ⟨"WingDoorModel", "loadOn", "([I)I"⟩ prog_14_method_29_code 4 (some .int)) ∈ zG := zG_mk (zG_t4 (List.mem_of_getElem? (i := 139) rfl)) rfl
theorem gw_4_140 : (Cond.methodLink "WingDoorModel" 168 ⟨"WingDoorModel", "dragOn", "([I)I"⟩) ∈ zG := zG_mk (zG_t4 (List.mem_of_getElem? (i := 140) rfl)) rfl
theorem gw_4_142 : (Cond.instanceMethod ⟨"WingDoorModel", "dragOn", "([I)I"⟩) ∈ zG := zG_mk (zG_t4 (List.mem_of_getElem? (i := 142) rfl)) rfl
theorem gw_4_143 : (Cond.code ⟨"WingDoorModel", "dragOn", "([I)I"⟩ prog_14_method_30_code 2 (some .int)) ∈ zG := zG_mk (zG_t4 (List.mem_of_getElem? (i := 143) rfl)) rfl
theorem gw_4_144 : (Cond.methodLink "WingDoorModel" 161 ⟨"WingDoorModel", "bits", "(I)I"⟩) ∈ zG := zG_mk (zG_t4 (List.mem_of_getElem? (i := 144) rfl)) rfl
theorem gw_4_145 : (Cond.static ⟨"WingDoorModel", "bits", "(I)I"⟩) ∈ zG := zG_mk (zG_t4 (List.mem_of_getElem? (i := 145) rfl)) rfl
theorem gw_4_146 : (Cond.code ⟨"WingDoorModel", "bits", "(I)I"⟩ prog_14_method_5_code 3 (some .int)) ∈ zG := zG_mk (zG_t4 (List.mem_of_getElem? (i := 146) rfl)) rfl
theorem gw_4_147 : (Cond.methodLink "WingDoorModel" 151 ⟨"WingDoorModel", "placeOf", "(I)I"⟩) ∈ zG := zG_mk (zG_t4 (List.mem_of_getElem? (i := 147) rfl)) rfl
theorem gw_4_149 : (Cond.instanceMethod ⟨"WingDoorModel", "placeOf", "(I)I"⟩) ∈ zG := zG_mk (zG_t4 (List.mem_of_getElem? (i := 149) rfl)) rfl
theorem gw_4_150 : (Cond.code ⟨"WingDoorModel", "placeOf", "(I)I"⟩ prog_14_method_27_code 2 (some .int)) ∈ zG := zG_mk (zG_t4 (List.mem_of_getElem? (i := 150) rfl)) rfl
theorem gw_4_151 : (Cond.methodLink "WingDoorModel" 175 ⟨"WingDoorModel", "fills", "([I)V"⟩) ∈ zG := zG_mk (zG_t4 (List.mem_of_getElem? (i := 151) rfl)) rfl
theorem gw_4_153 : (Cond.instanceMethod ⟨"WingDoorModel", "fills", "([I)V"⟩) ∈ zG := zG_mk (zG_t4 (List.mem_of_getElem? (i := 153) rfl)) rfl
theorem gw_4_154 : (Cond.code ⟨"WingDoorModel", "fills", "([I)V"⟩ prog_14_method_28_code 4 none) ∈ zG := zG_mk (zG_t4 (List.mem_of_getElem? (i := 154) rfl)) rfl
theorem gw_4_155 : (Cond.methodLink "WingDoorModel" 148 ⟨"WingDoorModel", "firstOn", "([II)I"⟩) ∈ zG := zG_mk (zG_t4 (List.mem_of_getElem? (i := 155) rfl)) rfl
theorem gw_4_156 : (Cond.static ⟨"WingDoorModel", "firstOn", "([II)I"⟩) ∈ zG := zG_mk (zG_t4 (List.mem_of_getElem? (i := 156) rfl)) rfl
theorem gw_4_157 : (Cond.code ⟨"WingDoorModel", "firstOn", "([II)I"⟩ prog_14_method_26_code 5 (some .int)) ∈ zG := zG_mk (zG_t4 (List.mem_of_getElem? (i := 157) rfl)) rfl
theorem gw_4_158 : (Cond.methodLink "WingDoorModel" 155 ⟨"WingDoorModel", "bulkIn", "([II)I"⟩) ∈ zG := zG_mk (zG_t4 (List.mem_of_getElem? (i := 158) rfl)) rfl
theorem gw_4_160 : (Cond.instanceMethod ⟨"WingDoorModel", "bulkIn", "([II)I"⟩) ∈ zG := zG_mk (zG_t4 (List.mem_of_getElem? (i := 160) rfl)) rfl
theorem gw_4_161 : (Cond.code ⟨"WingDoorModel", "bulkIn", "([II)I"⟩ prog_14_method_25_code 5 (some .int)) ∈ zG := zG_mk (zG_t4 (List.mem_of_getElem? (i := 161) rfl)) rfl
theorem gw_4_162 : (Cond.methodLink "WingDoorModel" 138 ⟨"WingDoorModel", "inRoom", "([II)I"⟩) ∈ zG := zG_mk (zG_t4 (List.mem_of_getElem? (i := 162) rfl)) rfl
theorem gw_4_163 : (Cond.static ⟨"WingDoorModel", "inRoom", "([II)I"⟩) ∈ zG := zG_mk (zG_t4 (List.mem_of_getElem? (i := 163) rfl)) rfl
theorem gw_4_164 : (Cond.code ⟨"WingDoorModel", "inRoom", "([II)I"⟩ prog_14_method_24_code 4 (some .int)) ∈ zG := zG_mk (zG_t4 (List.mem_of_getElem? (i := 164) rfl)) rfl
theorem gw_4_165 : (Cond.methodLink "WingDoorModel" 142 ⟨"WingDoorModel", "has", "(II)Z"⟩) ∈ zG := zG_mk (zG_t4 (List.mem_of_getElem? (i := 165) rfl)) rfl
theorem gw_4_166 : (Cond.static ⟨"WingDoorModel", "has", "(II)Z"⟩) ∈ zG := zG_mk (zG_t4 (List.mem_of_getElem? (i := 166) rfl)) rfl
theorem gw_4_167 : (Cond.code ⟨"WingDoorModel", "has", "(II)Z"⟩ prog_14_method_4_code 2 (some .boolean)) ∈ zG := zG_mk (zG_t4 (List.mem_of_getElem? (i := 167) rfl)) rfl
theorem gw_4_168 : (Cond.methodLink "WingDoorModel" 145 ⟨"WingDoorModel", "bulkOf", "([II)I"⟩) ∈ zG := zG_mk (zG_t4 (List.mem_of_getElem? (i := 168) rfl)) rfl
theorem gw_4_170 : (Cond.instanceMethod ⟨"WingDoorModel", "bulkOf", "([II)I"⟩) ∈ zG := zG_mk (zG_t4 (List.mem_of_getElem? (i := 170) rfl)) rfl
theorem gw_4_171 : (Cond.code ⟨"WingDoorModel", "bulkOf", "([II)I"⟩ prog_14_method_22_code 3 (some .int)) ∈ zG := zG_mk (zG_t4 (List.mem_of_getElem? (i := 171) rfl)) rfl
theorem gw_4_172 : (Cond.methodLink "WingDoorLaw" 39 ⟨"WingDoorModel", "room", "(II)I"⟩) ∈ zG := zG_mk (zG_t4 (List.mem_of_getElem? (i := 172) rfl)) rfl
theorem gw_4_173 : (Cond.instanceMethod ⟨"WingDoorModel", "room", "(II)I"⟩) ∈ zG := zG_mk (zG_t4 (List.mem_of_getElem? (i := 173) rfl)) rfl
theorem gw_4_174 : (Cond.selects "WingDoorModel" ⟨"WingDoorModel", "room", "(II)I"⟩ ⟨"WingDoorModel", "room", "(II)I"⟩) ∈ zG := zG_mk (zG_t4 (List.mem_of_getElem? (i := 174) rfl)) rfl
theorem gw_4_175 : (Cond.code ⟨"WingDoorModel", "room", "(II)I"⟩ prog_14_method_41_code 3 (some .int)) ∈ zG := zG_mk (zG_t4 (List.mem_of_getElem? (i := 175) rfl)) rfl
theorem gw_4_176 : (Cond.methodLink "WingDoorModel" 197 ⟨"WingDoorModel", "isBit", "(I)Z"⟩) ∈ zG := zG_mk (zG_t4 (List.mem_of_getElem? (i := 176) rfl)) rfl
theorem gw_4_177 : (Cond.static ⟨"WingDoorModel", "isBit", "(I)Z"⟩) ∈ zG := zG_mk (zG_t4 (List.mem_of_getElem? (i := 177) rfl)) rfl
theorem gw_4_178 : (Cond.code ⟨"WingDoorModel", "isBit", "(I)Z"⟩ prog_14_method_20_code 1 (some .boolean)) ∈ zG := zG_mk (zG_t4 (List.mem_of_getElem? (i := 178) rfl)) rfl
theorem gw_4_179 : (Cond.methodLink "WingDoorLaw" 43 ⟨"WingDoorModel", "now", "(I)I"⟩) ∈ zG := zG_mk (zG_t4 (List.mem_of_getElem? (i := 179) rfl)) rfl
theorem gw_4_180 : (Cond.instanceMethod ⟨"WingDoorModel", "now", "(I)I"⟩) ∈ zG := zG_mk (zG_t4 (List.mem_of_getElem? (i := 180) rfl)) rfl
theorem gw_4_181 : (Cond.selects "WingDoorModel" ⟨"WingDoorModel", "now", "(I)I"⟩ ⟨"WingDoorModel", "now", "(I)I"⟩) ∈ zG := zG_mk (zG_t4 (List.mem_of_getElem? (i := 181) rfl)) rfl
theorem gw_4_182 : (Cond.code ⟨"WingDoorModel", "now", "(I)I"⟩ prog_14_method_42_code 2 (some .int)) ∈ zG := zG_mk (zG_t4 (List.mem_of_getElem? (i := 182) rfl)) rfl
theorem gw_4_183 : (Cond.methodLink "WingDoorModel" 200 ⟨"WingDoorModel", "sticksFirst", "()I"⟩) ∈ zG := zG_mk (zG_t4 (List.mem_of_getElem? (i := 183) rfl)) rfl
theorem gw_4_185 : (Cond.instanceMethod ⟨"WingDoorModel", "sticksFirst", "()I"⟩) ∈ zG := zG_mk (zG_t4 (List.mem_of_getElem? (i := 185) rfl)) rfl
theorem gw_4_186 : (Cond.code ⟨"WingDoorModel", "sticksFirst", "()I"⟩ prog_14_method_37_code 3 (some .int)) ∈ zG := zG_mk (zG_t4 (List.mem_of_getElem? (i := 186) rfl)) rfl
theorem gw_4_187 : (Cond.methodLink "WingDoorModel" 203 ⟨"WingDoorModel", "allOut", "()I"⟩) ∈ zG := zG_mk (zG_t4 (List.mem_of_getElem? (i := 187) rfl)) rfl
theorem gw_4_189 : (Cond.instanceMethod ⟨"WingDoorModel", "allOut", "()I"⟩) ∈ zG := zG_mk (zG_t4 (List.mem_of_getElem? (i := 189) rfl)) rfl
theorem gw_4_190 : (Cond.code ⟨"WingDoorModel", "allOut", "()I"⟩ prog_14_method_38_code 3 (some .int)) ∈ zG := zG_mk (zG_t4 (List.mem_of_getElem? (i := 190) rfl)) rfl
theorem gw_4_191 : (Cond.methodLink "WingDoorLaw" 47 ⟨"WingDoorModel", "comes", "(II)I"⟩) ∈ zG := zG_mk (zG_t4 (List.mem_of_getElem? (i := 191) rfl)) rfl
theorem gw_4_192 : (Cond.instanceMethod ⟨"WingDoorModel", "comes", "(II)I"⟩) ∈ zG := zG_mk (zG_t4 (List.mem_of_getElem? (i := 192) rfl)) rfl
theorem gw_4_193 : (Cond.selects "WingDoorModel" ⟨"WingDoorModel", "comes", "(II)I"⟩ ⟨"WingDoorModel", "comes", "(II)I"⟩) ∈ zG := zG_mk (zG_t4 (List.mem_of_getElem? (i := 193) rfl)) rfl
theorem gw_4_194 : (Cond.code ⟨"WingDoorModel", "comes", "(II)I"⟩ prog_14_method_44_code 6 (some .int)) ∈ zG := zG_mk (zG_t4 (List.mem_of_getElem? (i := 194) rfl)) rfl
theorem gw_4_195 : (Cond.methodLink "WingDoorModel" 206 ⟨"WingDoorModel", "notes", "()V"⟩) ∈ zG := zG_mk (zG_t4 (List.mem_of_getElem? (i := 195) rfl)) rfl
theorem gw_4_197 : (Cond.instanceMethod ⟨"WingDoorModel", "notes", "()V"⟩) ∈ zG := zG_mk (zG_t4 (List.mem_of_getElem? (i := 197) rfl)) rfl
theorem gw_4_198 : (Cond.code ⟨"WingDoorModel", "notes", "()V"⟩ prog_14_method_43_code 2 none) ∈ zG := zG_mk (zG_t4 (List.mem_of_getElem? (i := 198) rfl)) rfl
theorem gw_4_199 : (Cond.methodLink "WingDoorLaw" 51 ⟨"WingDoorModel", "steps", "()I"⟩) ∈ zG := zG_mk (zG_t4 (List.mem_of_getElem? (i := 199) rfl)) rfl
theorem gw_4_200 : (Cond.instanceMethod ⟨"WingDoorModel", "steps", "()I"⟩) ∈ zG := zG_mk (zG_t4 (List.mem_of_getElem? (i := 200) rfl)) rfl
theorem gw_4_201 : (Cond.selects "WingDoorModel" ⟨"WingDoorModel", "steps", "()I"⟩ ⟨"WingDoorModel", "steps", "()I"⟩) ∈ zG := zG_mk (zG_t4 (List.mem_of_getElem? (i := 201) rfl)) rfl
theorem gw_4_202 : (Cond.code ⟨"WingDoorModel", "steps", "()I"⟩ prog_14_method_45_code 1 (some .int)) ∈ zG := zG_mk (zG_t4 (List.mem_of_getElem? (i := 202) rfl)) rfl
theorem gw_4_203 : (Cond.methodLink "WingDoorLaw" 55 ⟨"WingDoorModel", "leaves", "(I)I"⟩) ∈ zG := zG_mk (zG_t4 (List.mem_of_getElem? (i := 203) rfl)) rfl
theorem gw_4_204 : (Cond.instanceMethod ⟨"WingDoorModel", "leaves", "(I)I"⟩) ∈ zG := zG_mk (zG_t4 (List.mem_of_getElem? (i := 204) rfl)) rfl
theorem gw_4_205 : (Cond.selects "WingDoorModel" ⟨"WingDoorModel", "leaves", "(I)I"⟩ ⟨"WingDoorModel", "leaves", "(I)I"⟩) ∈ zG := zG_mk (zG_t4 (List.mem_of_getElem? (i := 205) rfl)) rfl
theorem gw_4_206 : (Cond.code ⟨"WingDoorModel", "leaves", "(I)I"⟩ prog_14_method_47_code 2 (some .int)) ∈ zG := zG_mk (zG_t4 (List.mem_of_getElem? (i := 206) rfl)) rfl
theorem gw_4_207 : (Cond.methodLink "WingDoorModel" 209 ⟨"WingDoorModel", "leavesOn", "([II)V"⟩) ∈ zG := zG_mk (zG_t4 (List.mem_of_getElem? (i := 207) rfl)) rfl
theorem gw_4_208 : (Cond.static ⟨"WingDoorModel", "leavesOn", "([II)V"⟩) ∈ zG := zG_mk (zG_t4 (List.mem_of_getElem? (i := 208) rfl)) rfl
theorem gw_4_209 : (Cond.code ⟨"WingDoorModel", "leavesOn", "([II)V"⟩ prog_14_method_46_code 2 none) ∈ zG := zG_mk (zG_t4 (List.mem_of_getElem? (i := 209) rfl)) rfl
theorem gw_4_210 : (Cond.methodLink "WingDoorLaw" 59 ⟨"WingDoorModel", "lets", "(I)I"⟩) ∈ zG := zG_mk (zG_t4 (List.mem_of_getElem? (i := 210) rfl)) rfl
theorem gw_4_211 : (Cond.instanceMethod ⟨"WingDoorModel", "lets", "(I)I"⟩) ∈ zG := zG_mk (zG_t4 (List.mem_of_getElem? (i := 211) rfl)) rfl
theorem gw_4_212 : (Cond.selects "WingDoorModel" ⟨"WingDoorModel", "lets", "(I)I"⟩ ⟨"WingDoorModel", "lets", "(I)I"⟩) ∈ zG := zG_mk (zG_t4 (List.mem_of_getElem? (i := 212) rfl)) rfl
theorem gw_4_213 : (Cond.code ⟨"WingDoorModel", "lets", "(I)I"⟩ prog_14_method_49_code 3 (some .int)) ∈ zG := zG_mk (zG_t4 (List.mem_of_getElem? (i := 213) rfl)) rfl
theorem gw_4_214 : (Cond.methodLink "WingDoorModel" 213 ⟨"WingDoorModel", "letsOn", "([II)V"⟩) ∈ zG := zG_mk (zG_t4 (List.mem_of_getElem? (i := 214) rfl)) rfl
theorem gw_4_215 : (Cond.static ⟨"WingDoorModel", "letsOn", "([II)V"⟩) ∈ zG := zG_mk (zG_t4 (List.mem_of_getElem? (i := 215) rfl)) rfl
theorem gw_4_216 : (Cond.code ⟨"WingDoorModel", "letsOn", "([II)V"⟩ prog_14_method_48_code 2 none) ∈ zG := zG_mk (zG_t4 (List.mem_of_getElem? (i := 216) rfl)) rfl
theorem gw_4_217 : (Cond.methodLink "WingDoorLaw" 63 ⟨"WingDoorModel", "undo", "()I"⟩) ∈ zG := zG_mk (zG_t4 (List.mem_of_getElem? (i := 217) rfl)) rfl
theorem gw_4_218 : (Cond.instanceMethod ⟨"WingDoorModel", "undo", "()I"⟩) ∈ zG := zG_mk (zG_t4 (List.mem_of_getElem? (i := 218) rfl)) rfl
theorem gw_4_219 : (Cond.selects "WingDoorModel" ⟨"WingDoorModel", "undo", "()I"⟩ ⟨"WingDoorModel", "undo", "()I"⟩) ∈ zG := zG_mk (zG_t4 (List.mem_of_getElem? (i := 219) rfl)) rfl
theorem gw_4_220 : (Cond.code ⟨"WingDoorModel", "undo", "()I"⟩ prog_14_method_50_code 1 (some .int)) ∈ zG := zG_mk (zG_t4 (List.mem_of_getElem? (i := 220) rfl)) rfl
theorem gw_4_221 : (Cond.methodLink "WingDoorLaw" 67 ⟨"WingDoorModel", "spare", "(I)I"⟩) ∈ zG := zG_mk (zG_t4 (List.mem_of_getElem? (i := 221) rfl)) rfl
theorem gw_4_222 : (Cond.instanceMethod ⟨"WingDoorModel", "spare", "(I)I"⟩) ∈ zG := zG_mk (zG_t4 (List.mem_of_getElem? (i := 222) rfl)) rfl
theorem gw_4_223 : (Cond.selects "WingDoorModel" ⟨"WingDoorModel", "spare", "(I)I"⟩ ⟨"WingDoorModel", "spare", "(I)I"⟩) ∈ zG := zG_mk (zG_t4 (List.mem_of_getElem? (i := 223) rfl)) rfl
theorem gw_4_224 : (Cond.code ⟨"WingDoorModel", "spare", "(I)I"⟩ prog_14_method_52_code 2 (some .int)) ∈ zG := zG_mk (zG_t4 (List.mem_of_getElem? (i := 224) rfl)) rfl
theorem gw_4_225 : (Cond.methodLink "WingDoorModel" 216 ⟨"WingDoorModel", "best", "(IZ)I"⟩) ∈ zG := zG_mk (zG_t4 (List.mem_of_getElem? (i := 225) rfl)) rfl
theorem gw_4_227 : (Cond.instanceMethod ⟨"WingDoorModel", "best", "(IZ)I"⟩) ∈ zG := zG_mk (zG_t4 (List.mem_of_getElem? (i := 227) rfl)) rfl
theorem gw_4_228 : (Cond.code ⟨"WingDoorModel", "best", "(IZ)I"⟩ prog_14_method_51_code 7 (some .int)) ∈ zG := zG_mk (zG_t4 (List.mem_of_getElem? (i := 228) rfl)) rfl
theorem gw_4_229 : (Cond.methodLink "WingDoorLaw" 71 ⟨"WingDoorModel", "ahead", "(I)I"⟩) ∈ zG := zG_mk (zG_t4 (List.mem_of_getElem? (i := 229) rfl)) rfl
theorem gw_4_230 : (Cond.instanceMethod ⟨"WingDoorModel", "ahead", "(I)I"⟩) ∈ zG := zG_mk (zG_t4 (List.mem_of_getElem? (i := 230) rfl)) rfl
theorem gw_4_231 : (Cond.selects "WingDoorModel" ⟨"WingDoorModel", "ahead", "(I)I"⟩ ⟨"WingDoorModel", "ahead", "(I)I"⟩) ∈ zG := zG_mk (zG_t4 (List.mem_of_getElem? (i := 231) rfl)) rfl
theorem gw_4_232 : (Cond.code ⟨"WingDoorModel", "ahead", "(I)I"⟩ prog_14_method_53_code 2 (some .int)) ∈ zG := zG_mk (zG_t4 (List.mem_of_getElem? (i := 232) rfl)) rfl
theorem gw_4_233 : (Cond.methodLink "WingDoorLaw" 75 ⟨"WingDoorModel", "odds", "(II)I"⟩) ∈ zG := zG_mk (zG_t4 (List.mem_of_getElem? (i := 233) rfl)) rfl
theorem gw_4_234 : (Cond.instanceMethod ⟨"WingDoorModel", "odds", "(II)I"⟩) ∈ zG := zG_mk (zG_t4 (List.mem_of_getElem? (i := 234) rfl)) rfl
theorem gw_4_235 : (Cond.selects "WingDoorModel" ⟨"WingDoorModel", "odds", "(II)I"⟩ ⟨"WingDoorModel", "odds", "(II)I"⟩) ∈ zG := zG_mk (zG_t4 (List.mem_of_getElem? (i := 235) rfl)) rfl
theorem gw_4_236 : (Cond.code ⟨"WingDoorModel", "odds", "(II)I"⟩ prog_14_method_55_code 16 (some .int)) ∈ zG := zG_mk (zG_t4 (List.mem_of_getElem? (i := 236) rfl)) rfl
theorem gw_4_237 : (Cond.constantLong "WingDoorModel" 220 10) ∈ zG := zG_mk (zG_t4 (List.mem_of_getElem? (i := 237) rfl)) rfl
theorem gw_4_238 : (Cond.methodLink "WingDoorModel" 222 ⟨"WingDoorModel", "power", "(JI)J"⟩) ∈ zG := zG_mk (zG_t4 (List.mem_of_getElem? (i := 238) rfl)) rfl
theorem gw_4_239 : (Cond.static ⟨"WingDoorModel", "power", "(JI)J"⟩) ∈ zG := zG_mk (zG_t4 (List.mem_of_getElem? (i := 239) rfl)) rfl
theorem gw_5_0 : (Cond.code ⟨"WingDoorModel", "power", "(JI)J"⟩ prog_14_method_54_code 6 (some .long)) ∈ zG := zG_mk (zG_t5 (List.mem_of_getElem? (i := 0) rfl)) rfl
theorem gw_5_1 : (Cond.methodLink "WingDoorLaw" 80 ⟨"WingDoorModel", "sees", "(III)I"⟩) ∈ zG := zG_mk (zG_t5 (List.mem_of_getElem? (i := 1) rfl)) rfl
theorem gw_5_2 : (Cond.instanceMethod ⟨"WingDoorModel", "sees", "(III)I"⟩) ∈ zG := zG_mk (zG_t5 (List.mem_of_getElem? (i := 2) rfl)) rfl
theorem gw_5_3 : (Cond.selects "WingDoorModel" ⟨"WingDoorModel", "sees", "(III)I"⟩ ⟨"WingDoorModel", "sees", "(III)I"⟩) ∈ zG := zG_mk (zG_t5 (List.mem_of_getElem? (i := 3) rfl)) rfl
theorem gw_5_4 : (Cond.code ⟨"WingDoorModel", "sees", "(III)I"⟩ prog_14_method_56_code 4 (some .int)) ∈ zG := zG_mk (zG_t5 (List.mem_of_getElem? (i := 4) rfl)) rfl
theorem gw_5_5 : (Cond.constantLong "WingDoorModel" 226 5) ∈ zG := zG_mk (zG_t5 (List.mem_of_getElem? (i := 5) rfl)) rfl
theorem gw_5_6 : (Cond.constantLong "WingDoorModel" 228 9) ∈ zG := zG_mk (zG_t5 (List.mem_of_getElem? (i := 6) rfl)) rfl
theorem gw_5_7 : (Cond.methodLink "WingDoorLaw" 84 ⟨"WingDoorModel", "forget", "()I"⟩) ∈ zG := zG_mk (zG_t5 (List.mem_of_getElem? (i := 7) rfl)) rfl
theorem gw_5_8 : (Cond.instanceMethod ⟨"WingDoorModel", "forget", "()I"⟩) ∈ zG := zG_mk (zG_t5 (List.mem_of_getElem? (i := 8) rfl)) rfl
theorem gw_5_9 : (Cond.selects "WingDoorModel" ⟨"WingDoorModel", "forget", "()I"⟩ ⟨"WingDoorModel", "forget", "()I"⟩) ∈ zG := zG_mk (zG_t5 (List.mem_of_getElem? (i := 9) rfl)) rfl
theorem gw_5_10 : (Cond.code ⟨"WingDoorModel", "forget", "()I"⟩ prog_14_method_57_code 2 (some .int)) ∈ zG := zG_mk (zG_t5 (List.mem_of_getElem? (i := 10) rfl)) rfl
theorem gw_5_11 : (Cond.methodLink "WingDoorLaw" 88 ⟨"WingDoorModel", "which", "()I"⟩) ∈ zG := zG_mk (zG_t5 (List.mem_of_getElem? (i := 11) rfl)) rfl
theorem gw_5_12 : (Cond.instanceMethod ⟨"WingDoorModel", "which", "()I"⟩) ∈ zG := zG_mk (zG_t5 (List.mem_of_getElem? (i := 12) rfl)) rfl
theorem gw_5_13 : (Cond.selects "WingDoorModel" ⟨"WingDoorModel", "which", "()I"⟩ ⟨"WingDoorModel", "which", "()I"⟩) ∈ zG := zG_mk (zG_t5 (List.mem_of_getElem? (i := 13) rfl)) rfl
theorem gw_5_14 : (Cond.code ⟨"WingDoorModel", "which", "()I"⟩ prog_14_method_59_code 5 (some .int)) ∈ zG := zG_mk (zG_t5 (List.mem_of_getElem? (i := 14) rfl)) rfl
theorem gw_5_15 : (Cond.methodLink "WingDoorModel" 230 ⟨"WingDoorModel", "of", "(II)I"⟩) ∈ zG := zG_mk (zG_t5 (List.mem_of_getElem? (i := 15) rfl)) rfl
theorem gw_5_17 : (Cond.instanceMethod ⟨"WingDoorModel", "of", "(II)I"⟩) ∈ zG := zG_mk (zG_t5 (List.mem_of_getElem? (i := 17) rfl)) rfl
theorem gw_5_18 : (Cond.code ⟨"WingDoorModel", "of", "(II)I"⟩ prog_14_method_58_code 3 (some .int)) ∈ zG := zG_mk (zG_t5 (List.mem_of_getElem? (i := 18) rfl)) rfl
theorem gw_5_19 : (Cond.methodLink "WingDoorLaw" 92 ⟨"WingDoorModel", "look", "(I)I"⟩) ∈ zG := zG_mk (zG_t5 (List.mem_of_getElem? (i := 19) rfl)) rfl
theorem gw_5_20 : (Cond.instanceMethod ⟨"WingDoorModel", "look", "(I)I"⟩) ∈ zG := zG_mk (zG_t5 (List.mem_of_getElem? (i := 20) rfl)) rfl
theorem gw_5_21 : (Cond.selects "WingDoorModel" ⟨"WingDoorModel", "look", "(I)I"⟩ ⟨"WingDoorModel", "look", "(I)I"⟩) ∈ zG := zG_mk (zG_t5 (List.mem_of_getElem? (i := 21) rfl)) rfl
theorem gw_5_22 : (Cond.code ⟨"WingDoorModel", "look", "(I)I"⟩ prog_14_method_60_code 9 (some .int)) ∈ zG := zG_mk (zG_t5 (List.mem_of_getElem? (i := 22) rfl)) rfl
theorem gw_5_23 : (Cond.methodLink "WingDoorModel" 234 ⟨"WingDoorModel", "which", "()I"⟩) ∈ zG := zG_mk (zG_t5 (List.mem_of_getElem? (i := 23) rfl)) rfl
theorem gw_5_24 : (Cond.methodLink "WingDoorLaw" 96 ⟨"WingDoorModel", "rate", "(II)I"⟩) ∈ zG := zG_mk (zG_t5 (List.mem_of_getElem? (i := 24) rfl)) rfl
theorem gw_5_25 : (Cond.instanceMethod ⟨"WingDoorModel", "rate", "(II)I"⟩) ∈ zG := zG_mk (zG_t5 (List.mem_of_getElem? (i := 25) rfl)) rfl
theorem gw_5_26 : (Cond.selects "WingDoorModel" ⟨"WingDoorModel", "rate", "(II)I"⟩ ⟨"WingDoorModel", "rate", "(II)I"⟩) ∈ zG := zG_mk (zG_t5 (List.mem_of_getElem? (i := 26) rfl)) rfl
theorem gw_5_27 : (Cond.code ⟨"WingDoorModel", "rate", "(II)I"⟩ prog_14_method_64_code 3 (some .int)) ∈ zG := zG_mk (zG_t5 (List.mem_of_getElem? (i := 27) rfl)) rfl
theorem gw_5_28 : (Cond.constant "WingDoorModel" 246 (-1000000)) ∈ zG := zG_mk (zG_t5 (List.mem_of_getElem? (i := 28) rfl)) rfl
theorem gw_5_29 : (Cond.methodLink "WingDoorModel" 241 ⟨"WingDoorModel", "asDoor", "(I)I"⟩) ∈ zG := zG_mk (zG_t5 (List.mem_of_getElem? (i := 29) rfl)) rfl
theorem gw_5_31 : (Cond.instanceMethod ⟨"WingDoorModel", "asDoor", "(I)I"⟩) ∈ zG := zG_mk (zG_t5 (List.mem_of_getElem? (i := 31) rfl)) rfl
theorem gw_5_32 : (Cond.code ⟨"WingDoorModel", "asDoor", "(I)I"⟩ prog_14_method_61_code 2 (some .int)) ∈ zG := zG_mk (zG_t5 (List.mem_of_getElem? (i := 32) rfl)) rfl
theorem gw_5_33 : (Cond.methodLink "WingDoorModel" 247 ⟨"WingDoorModel", "asBank", "(I)I"⟩) ∈ zG := zG_mk (zG_t5 (List.mem_of_getElem? (i := 33) rfl)) rfl
theorem gw_5_35 : (Cond.instanceMethod ⟨"WingDoorModel", "asBank", "(I)I"⟩) ∈ zG := zG_mk (zG_t5 (List.mem_of_getElem? (i := 35) rfl)) rfl
theorem gw_5_36 : (Cond.code ⟨"WingDoorModel", "asBank", "(I)I"⟩ prog_14_method_62_code 2 (some .int)) ∈ zG := zG_mk (zG_t5 (List.mem_of_getElem? (i := 36) rfl)) rfl
theorem gw_5_37 : (Cond.methodLink "WingDoorModel" 250 ⟨"WingDoorModel", "asHotel", "(I)I"⟩) ∈ zG := zG_mk (zG_t5 (List.mem_of_getElem? (i := 37) rfl)) rfl
theorem gw_5_39 : (Cond.instanceMethod ⟨"WingDoorModel", "asHotel", "(I)I"⟩) ∈ zG := zG_mk (zG_t5 (List.mem_of_getElem? (i := 39) rfl)) rfl
theorem gw_5_40 : (Cond.code ⟨"WingDoorModel", "asHotel", "(I)I"⟩ prog_14_method_63_code 2 (some .int)) ∈ zG := zG_mk (zG_t5 (List.mem_of_getElem? (i := 40) rfl)) rfl
theorem gw_5_41 : (Cond.constantLong "WingDoorModel" 244 100) ∈ zG := zG_mk (zG_t5 (List.mem_of_getElem? (i := 41) rfl)) rfl
theorem gw_5_42 : (Cond.constantLong "WingDoorModel" 253 1000) ∈ zG := zG_mk (zG_t5 (List.mem_of_getElem? (i := 42) rfl)) rfl
theorem gw_5_43 : (Cond.constantLong "WingDoorModel" 255 10000) ∈ zG := zG_mk (zG_t5 (List.mem_of_getElem? (i := 43) rfl)) rfl
theorem gw_5_44 : (Cond.constantLong "WingDoorModel" 257 100000) ∈ zG := zG_mk (zG_t5 (List.mem_of_getElem? (i := 44) rfl)) rfl
theorem gw_5_45 : (Cond.methodLink "WingDoorLaw" 100 ⟨"WingDoorModel", "keep", "(I)I"⟩) ∈ zG := zG_mk (zG_t5 (List.mem_of_getElem? (i := 45) rfl)) rfl
theorem gw_5_46 : (Cond.instanceMethod ⟨"WingDoorModel", "keep", "(I)I"⟩) ∈ zG := zG_mk (zG_t5 (List.mem_of_getElem? (i := 46) rfl)) rfl
theorem gw_5_47 : (Cond.selects "WingDoorModel" ⟨"WingDoorModel", "keep", "(I)I"⟩ ⟨"WingDoorModel", "keep", "(I)I"⟩) ∈ zG := zG_mk (zG_t5 (List.mem_of_getElem? (i := 47) rfl)) rfl
theorem gw_5_48 : (Cond.code ⟨"WingDoorModel", "keep", "(I)I"⟩ prog_14_method_65_code 2 (some .int)) ∈ zG := zG_mk (zG_t5 (List.mem_of_getElem? (i := 48) rfl)) rfl
theorem gw_5_49 : (Cond.methodLink "WingDoorLaw" 104 ⟨"WingDoorModel", "back", "(I)I"⟩) ∈ zG := zG_mk (zG_t5 (List.mem_of_getElem? (i := 49) rfl)) rfl
theorem gw_5_50 : (Cond.instanceMethod ⟨"WingDoorModel", "back", "(I)I"⟩) ∈ zG := zG_mk (zG_t5 (List.mem_of_getElem? (i := 50) rfl)) rfl
theorem gw_5_51 : (Cond.selects "WingDoorModel" ⟨"WingDoorModel", "back", "(I)I"⟩ ⟨"WingDoorModel", "back", "(I)I"⟩) ∈ zG := zG_mk (zG_t5 (List.mem_of_getElem? (i := 51) rfl)) rfl
theorem gw_5_52 : (Cond.code ⟨"WingDoorModel", "back", "(I)I"⟩ prog_14_method_66_code 2 (some .int)) ∈ zG := zG_mk (zG_t5 (List.mem_of_getElem? (i := 52) rfl)) rfl
theorem gw_5_53 : (Cond.methodLink "WingDoorLaw" 108 ⟨"WingDoorModel", "count", "(I)I"⟩) ∈ zG := zG_mk (zG_t5 (List.mem_of_getElem? (i := 53) rfl)) rfl
theorem gw_5_54 : (Cond.instanceMethod ⟨"WingDoorModel", "count", "(I)I"⟩) ∈ zG := zG_mk (zG_t5 (List.mem_of_getElem? (i := 54) rfl)) rfl
theorem gw_5_55 : (Cond.selects "WingDoorModel" ⟨"WingDoorModel", "count", "(I)I"⟩ ⟨"WingDoorModel", "count", "(I)I"⟩) ∈ zG := zG_mk (zG_t5 (List.mem_of_getElem? (i := 55) rfl)) rfl
theorem gw_5_56 : (Cond.code ⟨"WingDoorModel", "count", "(I)I"⟩ prog_14_method_67_code 2 (some .int)) ∈ zG := zG_mk (zG_t5 (List.mem_of_getElem? (i := 56) rfl)) rfl
theorem gw_5_57 : (Cond.methodLink "WingDoorLaw" 113 ⟨"WingDoorModel", "trace", "()J"⟩) ∈ zG := zG_mk (zG_t5 (List.mem_of_getElem? (i := 57) rfl)) rfl
theorem gw_5_58 : (Cond.instanceMethod ⟨"WingDoorModel", "trace", "()J"⟩) ∈ zG := zG_mk (zG_t5 (List.mem_of_getElem? (i := 58) rfl)) rfl
theorem gw_5_59 : (Cond.selects "WingDoorModel" ⟨"WingDoorModel", "trace", "()J"⟩ ⟨"WingDoorModel", "trace", "()J"⟩) ∈ zG := zG_mk (zG_t5 (List.mem_of_getElem? (i := 59) rfl)) rfl
theorem gw_5_60 : (Cond.code ⟨"WingDoorModel", "trace", "()J"⟩ prog_14_method_68_code 1 (some .long)) ∈ zG := zG_mk (zG_t5 (List.mem_of_getElem? (i := 60) rfl)) rfl
theorem gw_5_61 : (Cond.sameMethod "WingDoor$BankKind" "WingDoor$BankKind" "worth" "(LWingDoor$Moment;I)I") ∈ zG := zG_mk (zG_t5 (List.mem_of_getElem? (i := 61) rfl)) rfl
theorem gw_5_62 : (Cond.sameMethod "WingDoor$HotelKind" "WingDoor$HotelKind" "worth" "(LWingDoor$Moment;I)I") ∈ zG := zG_mk (zG_t5 (List.mem_of_getElem? (i := 62) rfl)) rfl
theorem gs_0 : (Cond.selects "WingDoor$Text" ⟨"WingDoor$Text", "readToken", "()V"⟩ ⟨"WingDoor$Text", "readToken", "()V"⟩) ∈ zG := zG_mk (List.mem_append_left _ (List.mem_of_getElem? (i := 0) rfl)) rfl
theorem gs_1 : (Cond.selects "WingDoor$Text" ⟨"WingDoor$Text", "readDigits", "()V"⟩ ⟨"WingDoor$Text", "readDigits", "()V"⟩) ∈ zG := zG_mk (List.mem_append_left _ (List.mem_of_getElem? (i := 1) rfl)) rfl
theorem gs_2 : (Cond.selects "WingDoor$Text" ⟨"WingDoor$Text", "readItem", "(LWingDoor$Plan;I)Z"⟩ ⟨"WingDoor$Text", "readItem", "(LWingDoor$Plan;I)Z"⟩) ∈ zG := zG_mk (List.mem_append_left _ (List.mem_of_getElem? (i := 2) rfl)) rfl
theorem gs_3 : (Cond.selects "WingDoor$Text" ⟨"WingDoor$Text", "readRooms", "(LWingDoor$Plan;)Z"⟩ ⟨"WingDoor$Text", "readRooms", "(LWingDoor$Plan;)Z"⟩) ∈ zG := zG_mk (List.mem_append_left _ (List.mem_of_getElem? (i := 3) rfl)) rfl
theorem gs_4 : (Cond.selects "WingDoor$Text" ⟨"WingDoor$Text", "readNumber", "(II)Z"⟩ ⟨"WingDoor$Text", "readNumber", "(II)Z"⟩) ∈ zG := zG_mk (List.mem_append_left _ (List.mem_of_getElem? (i := 4) rfl)) rfl
theorem gs_5 : (Cond.selects "WingDoor$Text" ⟨"WingDoor$Text", "readSemicolon", "()Z"⟩ ⟨"WingDoor$Text", "readSemicolon", "()Z"⟩) ∈ zG := zG_mk (List.mem_append_left _ (List.mem_of_getElem? (i := 5) rfl)) rfl
theorem gs_6 : (Cond.selects "WingDoor$Text" ⟨"WingDoor$Text", "readHard", "(LWingDoor$Plan;)Z"⟩ ⟨"WingDoor$Text", "readHard", "(LWingDoor$Plan;)Z"⟩) ∈ zG := zG_mk (List.mem_append_left _ (List.mem_of_getElem? (i := 6) rfl)) rfl
theorem gs_7 : (Cond.selects "WingDoor$Text" ⟨"WingDoor$Text", "readSort", "(LWingDoor$Plan;)Z"⟩ ⟨"WingDoor$Text", "readSort", "(LWingDoor$Plan;)Z"⟩) ∈ zG := zG_mk (List.mem_append_left _ (List.mem_of_getElem? (i := 7) rfl)) rfl
theorem gs_8 : (Cond.selects "WingDoor" ⟨"WingDoor", "whenNow", "(I)I"⟩ ⟨"WingDoor", "whenNow", "(I)I"⟩) ∈ zG := zG_mk (List.mem_append_left _ (List.mem_of_getElem? (i := 8) rfl)) rfl
theorem gs_9 : (Cond.selects "WingDoor$Moment" ⟨"WingDoor$Moment", "carry", "(I)Z"⟩ ⟨"WingDoor$Moment", "carry", "(I)Z"⟩) ∈ zG := zG_mk (List.mem_append_left _ (List.mem_of_getElem? (i := 9) rfl)) rfl
theorem gs_10 : (Cond.selects "WingDoor$Moment" ⟨"WingDoor$Moment", "fill", "()V"⟩ ⟨"WingDoor$Moment", "fill", "()V"⟩) ∈ zG := zG_mk (List.mem_append_left _ (List.mem_of_getElem? (i := 10) rfl)) rfl
theorem gs_11 : (Cond.selects "WingDoor" ⟨"WingDoor", "sticksNow", "()I"⟩ ⟨"WingDoor", "sticksNow", "()I"⟩) ∈ zG := zG_mk (List.mem_append_left _ (List.mem_of_getElem? (i := 11) rfl)) rfl
theorem gs_12 : (Cond.selects "WingDoor" ⟨"WingDoor", "allNow", "()I"⟩ ⟨"WingDoor", "allNow", "()I"⟩) ∈ zG := zG_mk (List.mem_append_left _ (List.mem_of_getElem? (i := 12) rfl)) rfl
theorem gs_13 : (Cond.selects "WingDoor" ⟨"WingDoor", "bestHelper", "(IZ)I"⟩ ⟨"WingDoor", "bestHelper", "(IZ)I"⟩) ∈ zG := zG_mk (List.mem_append_left _ (List.mem_of_getElem? (i := 13) rfl)) rfl
theorem gs_14 : (Cond.selects "WingDoor" ⟨"WingDoor", "waysToGo", "(I)J"⟩ ⟨"WingDoor", "waysToGo", "(I)J"⟩) ∈ zG := zG_mk (List.mem_append_left _ (List.mem_of_getElem? (i := 14) rfl)) rfl
theorem gs_15 : (Cond.selects "WingDoor" ⟨"WingDoor", "addPusher", "(III)I"⟩ ⟨"WingDoor", "addPusher", "(III)I"⟩) ∈ zG := zG_mk (List.mem_append_left _ (List.mem_of_getElem? (i := 15) rfl)) rfl
theorem gs_16 : (Cond.selects "WingDoor$Sightings" ⟨"WingDoor$Sightings", "allIsSoOf", "(I)Z"⟩ ⟨"WingDoor$Sightings", "allIsSoOf", "(I)Z"⟩) ∈ zG := zG_mk (List.mem_append_left _ (List.mem_of_getElem? (i := 16) rfl)) rfl
theorem gs_17 : (Cond.selects "WingDoorModel" ⟨"WingDoorModel", "reads", "()I"⟩ ⟨"WingDoorModel", "reads", "()I"⟩) ∈ zG := zG_mk (List.mem_append_left _ (List.mem_of_getElem? (i := 17) rfl)) rfl
theorem gs_18 : (Cond.selects "WingDoorModel" ⟨"WingDoorModel", "nextToken", "()V"⟩ ⟨"WingDoorModel", "nextToken", "()V"⟩) ∈ zG := zG_mk (List.mem_append_left _ (List.mem_of_getElem? (i := 18) rfl)) rfl
theorem gs_19 : (Cond.selects "WingDoorModel" ⟨"WingDoorModel", "here", "()I"⟩ ⟨"WingDoorModel", "here", "()I"⟩) ∈ zG := zG_mk (List.mem_append_left _ (List.mem_of_getElem? (i := 19) rfl)) rfl
theorem gs_20 : (Cond.selects "WingDoorModel" ⟨"WingDoorModel", "isFigure", "()Z"⟩ ⟨"WingDoorModel", "isFigure", "()Z"⟩) ∈ zG := zG_mk (List.mem_append_left _ (List.mem_of_getElem? (i := 20) rfl)) rfl
theorem gs_21 : (Cond.selects "WingDoorModel" ⟨"WingDoorModel", "readsFigures", "()V"⟩ ⟨"WingDoorModel", "readsFigures", "()V"⟩) ∈ zG := zG_mk (List.mem_append_left _ (List.mem_of_getElem? (i := 21) rfl)) rfl
theorem gs_22 : (Cond.selects "WingDoorModel" ⟨"WingDoorModel", "isItem", "(I)Z"⟩ ⟨"WingDoorModel", "isItem", "(I)Z"⟩) ∈ zG := zG_mk (List.mem_append_left _ (List.mem_of_getElem? (i := 22) rfl)) rfl
theorem gs_23 : (Cond.selects "WingDoorModel" ⟨"WingDoorModel", "isRooms", "()Z"⟩ ⟨"WingDoorModel", "isRooms", "()Z"⟩) ∈ zG := zG_mk (List.mem_append_left _ (List.mem_of_getElem? (i := 23) rfl)) rfl
theorem gs_24 : (Cond.selects "WingDoorModel" ⟨"WingDoorModel", "number", "(II)Z"⟩ ⟨"WingDoorModel", "number", "(II)Z"⟩) ∈ zG := zG_mk (List.mem_append_left _ (List.mem_of_getElem? (i := 24) rfl)) rfl
theorem gs_25 : (Cond.selects "WingDoorModel" ⟨"WingDoorModel", "isHard", "()Z"⟩ ⟨"WingDoorModel", "isHard", "()Z"⟩) ∈ zG := zG_mk (List.mem_append_left _ (List.mem_of_getElem? (i := 25) rfl)) rfl
theorem gs_26 : (Cond.selects "WingDoorModel" ⟨"WingDoorModel", "isSort", "()Z"⟩ ⟨"WingDoorModel", "isSort", "()Z"⟩) ∈ zG := zG_mk (List.mem_append_left _ (List.mem_of_getElem? (i := 26) rfl)) rfl
theorem gs_27 : (Cond.selects "WingDoorModel" ⟨"WingDoorModel", "isGoer", "(I)Z"⟩ ⟨"WingDoorModel", "isGoer", "(I)Z"⟩) ∈ zG := zG_mk (List.mem_append_left _ (List.mem_of_getElem? (i := 27) rfl)) rfl
theorem gs_28 : (Cond.selects "WingDoorModel" ⟨"WingDoorModel", "when", "(I)I"⟩ ⟨"WingDoorModel", "when", "(I)I"⟩) ∈ zG := zG_mk (List.mem_append_left _ (List.mem_of_getElem? (i := 28) rfl)) rfl
theorem gs_29 : (Cond.selects "WingDoorModel" ⟨"WingDoorModel", "layAside", "()V"⟩ ⟨"WingDoorModel", "layAside", "()V"⟩) ∈ zG := zG_mk (List.mem_append_left _ (List.mem_of_getElem? (i := 29) rfl)) rfl
theorem gs_30 : (Cond.selects "WingDoorModel" ⟨"WingDoorModel", "whenAside", "(I)I"⟩ ⟨"WingDoorModel", "whenAside", "(I)I"⟩) ∈ zG := zG_mk (List.mem_append_left _ (List.mem_of_getElem? (i := 30) rfl)) rfl
theorem gs_31 : (Cond.selects "WingDoorModel" ⟨"WingDoorModel", "goes", "([I)I"⟩ ⟨"WingDoorModel", "goes", "([I)I"⟩) ∈ zG := zG_mk (List.mem_append_left _ (List.mem_of_getElem? (i := 31) rfl)) rfl
theorem gs_32 : (Cond.selects "WingDoorModel" ⟨"WingDoorModel", "sticksOn", "([I)Z"⟩ ⟨"WingDoorModel", "sticksOn", "([I)Z"⟩) ∈ zG := zG_mk (List.mem_append_left _ (List.mem_of_getElem? (i := 32) rfl)) rfl
theorem gs_33 : (Cond.selects "WingDoorModel" ⟨"WingDoorModel", "loadOn", "([I)I"⟩ ⟨"WingDoorModel", "loadOn", "([I)I"⟩) ∈ zG := zG_mk (List.mem_append_left _ (List.mem_of_getElem? (i := 33) rfl)) rfl
theorem gs_34 : (Cond.selects "WingDoorModel" ⟨"WingDoorModel", "dragOn", "([I)I"⟩ ⟨"WingDoorModel", "dragOn", "([I)I"⟩) ∈ zG := zG_mk (List.mem_append_left _ (List.mem_of_getElem? (i := 34) rfl)) rfl
theorem gs_35 : (Cond.selects "WingDoorModel" ⟨"WingDoorModel", "placeOf", "(I)I"⟩ ⟨"WingDoorModel", "placeOf", "(I)I"⟩) ∈ zG := zG_mk (List.mem_append_left _ (List.mem_of_getElem? (i := 35) rfl)) rfl
theorem gs_36 : (Cond.selects "WingDoorModel" ⟨"WingDoorModel", "fills", "([I)V"⟩ ⟨"WingDoorModel", "fills", "([I)V"⟩) ∈ zG := zG_mk (List.mem_append_left _ (List.mem_of_getElem? (i := 36) rfl)) rfl
theorem gs_37 : (Cond.selects "WingDoorModel" ⟨"WingDoorModel", "bulkIn", "([II)I"⟩ ⟨"WingDoorModel", "bulkIn", "([II)I"⟩) ∈ zG := zG_mk (List.mem_append_left _ (List.mem_of_getElem? (i := 37) rfl)) rfl
theorem gs_38 : (Cond.selects "WingDoorModel" ⟨"WingDoorModel", "bulkOf", "([II)I"⟩ ⟨"WingDoorModel", "bulkOf", "([II)I"⟩) ∈ zG := zG_mk (List.mem_append_left _ (List.mem_of_getElem? (i := 38) rfl)) rfl
theorem gs_39 : (Cond.selects "WingDoorModel" ⟨"WingDoorModel", "sticksFirst", "()I"⟩ ⟨"WingDoorModel", "sticksFirst", "()I"⟩) ∈ zG := zG_mk (List.mem_append_left _ (List.mem_of_getElem? (i := 39) rfl)) rfl
theorem gs_40 : (Cond.selects "WingDoorModel" ⟨"WingDoorModel", "allOut", "()I"⟩ ⟨"WingDoorModel", "allOut", "()I"⟩) ∈ zG := zG_mk (List.mem_append_left _ (List.mem_of_getElem? (i := 40) rfl)) rfl
theorem gs_41 : (Cond.selects "WingDoorModel" ⟨"WingDoorModel", "notes", "()V"⟩ ⟨"WingDoorModel", "notes", "()V"⟩) ∈ zG := zG_mk (List.mem_append_left _ (List.mem_of_getElem? (i := 41) rfl)) rfl
theorem gs_42 : (Cond.selects "WingDoorModel" ⟨"WingDoorModel", "best", "(IZ)I"⟩ ⟨"WingDoorModel", "best", "(IZ)I"⟩) ∈ zG := zG_mk (List.mem_append_left _ (List.mem_of_getElem? (i := 42) rfl)) rfl
theorem gs_43 : (Cond.selects "WingDoorModel" ⟨"WingDoorModel", "of", "(II)I"⟩ ⟨"WingDoorModel", "of", "(II)I"⟩) ∈ zG := zG_mk (List.mem_append_left _ (List.mem_of_getElem? (i := 43) rfl)) rfl
theorem gs_44 : (Cond.selects "WingDoorModel" ⟨"WingDoorModel", "asDoor", "(I)I"⟩ ⟨"WingDoorModel", "asDoor", "(I)I"⟩) ∈ zG := zG_mk (List.mem_append_left _ (List.mem_of_getElem? (i := 44) rfl)) rfl
theorem gs_45 : (Cond.selects "WingDoorModel" ⟨"WingDoorModel", "asBank", "(I)I"⟩ ⟨"WingDoorModel", "asBank", "(I)I"⟩) ∈ zG := zG_mk (List.mem_append_left _ (List.mem_of_getElem? (i := 45) rfl)) rfl
theorem gs_46 : (Cond.selects "WingDoorModel" ⟨"WingDoorModel", "asHotel", "(I)I"⟩ ⟨"WingDoorModel", "asHotel", "(I)I"⟩) ∈ zG := zG_mk (List.mem_append_left _ (List.mem_of_getElem? (i := 46) rfl)) rfl
theorem zin_X0 : ∀ w ∈ u_ws RX0 TX0 1, w ∈ zG := by
  intro w hw
  obtain ⟨k, hk, rfl⟩ := List.mem_map.mp hw
  have hk := List.mem_range.mp hk
  obtain rfl : k = 0 := by omega
  exact gw_1_207
theorem zin_X1 : ∀ w ∈ u_ws RX1 TX1 1, w ∈ zG := by
  intro w hw
  obtain ⟨k, hk, rfl⟩ := List.mem_map.mp hw
  have hk := List.mem_range.mp hk
  obtain rfl : k = 0 := by omega
  exact gw_1_223
theorem zin_X2 : ∀ w ∈ u_ws RX2 TX2 1, w ∈ zG := by
  intro w hw
  obtain ⟨k, hk, rfl⟩ := List.mem_map.mp hw
  have hk := List.mem_range.mp hk
  obtain rfl : k = 0 := by omega
  exact gw_1_197
theorem zin_X3 : ∀ w ∈ u_ws RX3 TX3 1, w ∈ zG := by
  intro w hw
  obtain ⟨k, hk, rfl⟩ := List.mem_map.mp hw
  have hk := List.mem_range.mp hk
  obtain rfl : k = 0 := by omega
  exact gw_1_231
theorem zin_X4 : ∀ w ∈ u_ws RX4 TX4 1, w ∈ zG := by
  intro w hw
  obtain ⟨k, hk, rfl⟩ := List.mem_map.mp hw
  have hk := List.mem_range.mp hk
  obtain rfl : k = 0 := by omega
  exact gw_1_215
theorem zin_X5 : ∀ w ∈ u_ws RX5 TX5 8, w ∈ zG := by
  intro w hw
  obtain ⟨k, hk, rfl⟩ := List.mem_map.mp hw
  have hk := List.mem_range.mp hk
  rcases (show k = 0 ∨ k = 1 ∨ k = 2 ∨ k = 3 ∨ k = 4 ∨ k = 5 ∨ k = 6 ∨ k = 7 by omega) with rfl | rfl | rfl | rfl | rfl | rfl | rfl | rfl
  · exact gw_1_117
  · exact gw_1_119
  · exact gw_1_121
  · exact gw_1_123
  · exact gw_1_125
  · exact gw_1_127
  · exact gw_1_129
  · exact gw_1_131
theorem zin_X6 : ∀ w ∈ u_ws RX6 TX6 3, w ∈ zG := by
  intro w hw
  obtain ⟨k, hk, rfl⟩ := List.mem_map.mp hw
  have hk := List.mem_range.mp hk
  rcases (show k = 0 ∨ k = 1 ∨ k = 2 by omega) with rfl | rfl | rfl
  · exact gw_1_147
  · exact gw_1_149
  · exact gw_1_151
theorem zin_X7 : ∀ w ∈ u_ws RX7 TX7 6, w ∈ zG := by
  intro w hw
  obtain ⟨k, hk, rfl⟩ := List.mem_map.mp hw
  have hk := List.mem_range.mp hk
  rcases (show k = 0 ∨ k = 1 ∨ k = 2 ∨ k = 3 ∨ k = 4 ∨ k = 5 by omega) with rfl | rfl | rfl | rfl | rfl | rfl
  · exact gw_1_83
  · exact gw_1_85
  · exact gw_1_87
  · exact gw_1_89
  · exact gw_1_91
  · exact gw_1_93
theorem zin_X8 : ∀ w ∈ u_ws RX8 TX8 5, w ∈ zG := by
  intro w hw
  obtain ⟨k, hk, rfl⟩ := List.mem_map.mp hw
  have hk := List.mem_range.mp hk
  rcases (show k = 0 ∨ k = 1 ∨ k = 2 ∨ k = 3 ∨ k = 4 by omega) with rfl | rfl | rfl | rfl | rfl
  · exact gw_1_166
  · exact gw_1_168
  · exact gw_1_170
  · exact gw_1_172
  · exact gw_1_174
theorem zin_X9 : ∀ w ∈ u_ws RX9 TX9 1, w ∈ zG := by
  intro w hw
  obtain ⟨k, hk, rfl⟩ := List.mem_map.mp hw
  have hk := List.mem_range.mp hk
  obtain rfl : k = 0 := by omega
  exact gw_1_239
theorem zin_X10 : ∀ w ∈ u_ws RX10 TX10 7, w ∈ zG := by
  intro w hw
  obtain ⟨k, hk, rfl⟩ := List.mem_map.mp hw
  have hk := List.mem_range.mp hk
  rcases (show k = 0 ∨ k = 1 ∨ k = 2 ∨ k = 3 ∨ k = 4 ∨ k = 5 ∨ k = 6 by omega) with rfl | rfl | rfl | rfl | rfl | rfl | rfl
  · exact gw_1_40
  · exact gw_1_42
  · exact gw_1_44
  · exact gw_1_46
  · exact gw_1_48
  · exact gw_1_50
  · exact gw_1_52
theorem zin_X11 : ∀ w ∈ u_ws RX11 TX11 11, w ∈ zG := by
  intro w hw
  obtain ⟨k, hk, rfl⟩ := List.mem_map.mp hw
  have hk := List.mem_range.mp hk
  rcases (show k = 0 ∨ k = 1 ∨ k = 2 ∨ k = 3 ∨ k = 4 ∨ k = 5 ∨ k = 6 ∨ k = 7 ∨ k = 8 ∨ k = 9 ∨ k = 10 by omega) with rfl | rfl | rfl | rfl | rfl | rfl | rfl | rfl | rfl | rfl | rfl
  · exact gw_2_12
  · exact gw_2_14
  · exact gw_2_16
  · exact gw_2_18
  · exact gw_2_20
  · exact gw_2_22
  · exact gw_2_24
  · exact gw_2_26
  · exact gw_2_28
  · exact gw_2_30
  · exact gw_2_32
theorem zin_X12 : ∀ w ∈ u_ws RX12 TX12 27, w ∈ zG := by
  intro w hw
  obtain ⟨k, hk, rfl⟩ := List.mem_map.mp hw
  have hk := List.mem_range.mp hk
  rcases (show k = 0 ∨ k = 1 ∨ k = 2 ∨ k = 3 ∨ k = 4 ∨ k = 5 ∨ k = 6 ∨ k = 7 ∨ k = 8 ∨ k = 9 ∨ k = 10 ∨ k = 11 ∨ k = 12 ∨ k = 13 ∨ k = 14 ∨ k = 15 ∨ k = 16 ∨ k = 17 ∨ k = 18 ∨ k = 19 ∨ k = 20 ∨ k = 21 ∨ k = 22 ∨ k = 23 ∨ k = 24 ∨ k = 25 ∨ k = 26 by omega) with rfl | rfl | rfl | rfl | rfl | rfl | rfl | rfl | rfl | rfl | rfl | rfl | rfl | rfl | rfl | rfl | rfl | rfl | rfl | rfl | rfl | rfl | rfl | rfl | rfl | rfl | rfl
  · exact gw_3_222
  · exact gw_3_224
  · exact gw_3_226
  · exact gw_3_228
  · exact gw_3_230
  · exact gw_3_232
  · exact gw_3_234
  · exact gw_3_236
  · exact gw_3_238
  · exact gw_4_0
  · exact gw_4_2
  · exact gw_4_4
  · exact gw_4_6
  · exact gw_4_8
  · exact gw_4_10
  · exact gw_4_12
  · exact gw_4_14
  · exact gw_4_16
  · exact gw_4_18
  · exact gw_4_20
  · exact gw_4_22
  · exact gw_4_24
  · exact gw_4_26
  · exact gw_4_28
  · exact gw_4_30
  · exact gw_4_32
  · exact gw_4_34
end
section
theorem dX0_init_0 : decode cX0_init 0 = .ok (.aload_n 0, 1) := by decide +kernel
theorem dX0_init_1 : decode cX0_init 1 = .ok (.invokespecial 1, 3) := by decide +kernel
theorem dX0_init_4 : decode cX0_init 4 = .ok (.return_, 1) := by decide +kernel
theorem dX0_worth_0 : decode cX0_worth 0 = .ok (.aload_n 0, 1) := by decide +kernel
theorem dX0_worth_1 : decode cX0_worth 1 = .ok (.dup, 1) := by decide +kernel
theorem dX0_worth_2 : decode cX0_worth 2 = .ok (.getfield 7, 3) := by decide +kernel
theorem dX0_worth_5 : decode cX0_worth 5 = .ok (.ldc2_w 13, 3) := by decide +kernel
theorem dX0_worth_8 : decode cX0_worth 8 = .ok (.ladd, 1) := by decide +kernel
theorem dX0_worth_9 : decode cX0_worth 9 = .ok (.putfield 7, 3) := by decide +kernel
theorem dX0_worth_12 : decode cX0_worth 12 = .ok (.aload_n 0, 1) := by decide +kernel
theorem dX0_worth_13 : decode cX0_worth 13 = .ok (.aload_n 1, 1) := by decide +kernel
theorem dX0_worth_14 : decode cX0_worth 14 = .ok (.iload_n 2, 1) := by decide +kernel
theorem dX0_worth_15 : decode cX0_worth 15 = .ok (.invokespecial 15, 3) := by decide +kernel
theorem dX0_worth_18 : decode cX0_worth 18 = .ok (.aload_n 1, 1) := by decide +kernel
theorem dX0_worth_19 : decode cX0_worth 19 = .ok (.iload_n 2, 1) := by decide +kernel
theorem dX0_worth_20 : decode cX0_worth 20 = .ok (.invokevirtual 19, 3) := by decide +kernel
theorem dX0_worth_23 : decode cX0_worth 23 = .ok (.iadd, 1) := by decide +kernel
theorem dX0_worth_24 : decode cX0_worth 24 = .ok (.ireturn, 1) := by decide +kernel
theorem dX1_init_0 : decode cX1_init 0 = .ok (.aload_n 0, 1) := by decide +kernel
theorem dX1_init_1 : decode cX1_init 1 = .ok (.invokespecial 1, 3) := by decide +kernel
theorem dX1_init_4 : decode cX1_init 4 = .ok (.return_, 1) := by decide +kernel
theorem dX1_worth_0 : decode cX1_worth 0 = .ok (.aload_n 0, 1) := by decide +kernel
theorem dX1_worth_1 : decode cX1_worth 1 = .ok (.dup, 1) := by decide +kernel
theorem dX1_worth_2 : decode cX1_worth 2 = .ok (.getfield 7, 3) := by decide +kernel
theorem dX1_worth_5 : decode cX1_worth 5 = .ok (.ldc2_w 13, 3) := by decide +kernel
theorem dX1_worth_8 : decode cX1_worth 8 = .ok (.ladd, 1) := by decide +kernel
theorem dX1_worth_9 : decode cX1_worth 9 = .ok (.putfield 7, 3) := by decide +kernel
theorem dX1_worth_12 : decode cX1_worth 12 = .ok (.iconst 2, 1) := by decide +kernel
theorem dX1_worth_13 : decode cX1_worth 13 = .ok (.aload_n 0, 1) := by decide +kernel
theorem dX1_worth_14 : decode cX1_worth 14 = .ok (.aload_n 1, 1) := by decide +kernel
theorem dX1_worth_15 : decode cX1_worth 15 = .ok (.iload_n 2, 1) := by decide +kernel
theorem dX1_worth_16 : decode cX1_worth 16 = .ok (.invokespecial 15, 3) := by decide +kernel
theorem dX1_worth_19 : decode cX1_worth 19 = .ok (.imul, 1) := by decide +kernel
theorem dX1_worth_20 : decode cX1_worth 20 = .ok (.ireturn, 1) := by decide +kernel
theorem dX2_init_0 : decode cX2_init 0 = .ok (.aload_n 0, 1) := by decide +kernel
theorem dX2_init_1 : decode cX2_init 1 = .ok (.invokespecial 1, 3) := by decide +kernel
theorem dX2_init_4 : decode cX2_init 4 = .ok (.return_, 1) := by decide +kernel
theorem dX2_worth_0 : decode cX2_worth 0 = .ok (.aload_n 0, 1) := by decide +kernel
theorem dX2_worth_1 : decode cX2_worth 1 = .ok (.dup, 1) := by decide +kernel
theorem dX2_worth_2 : decode cX2_worth 2 = .ok (.getfield 7, 3) := by decide +kernel
theorem dX2_worth_5 : decode cX2_worth 5 = .ok (.lconst 1, 1) := by decide +kernel
theorem dX2_worth_6 : decode cX2_worth 6 = .ok (.ladd, 1) := by decide +kernel
theorem dX2_worth_7 : decode cX2_worth 7 = .ok (.putfield 7, 3) := by decide +kernel
theorem dX2_worth_10 : decode cX2_worth 10 = .ok (.aload_n 1, 1) := by decide +kernel
theorem dX2_worth_11 : decode cX2_worth 11 = .ok (.iload_n 2, 1) := by decide +kernel
theorem dX2_worth_12 : decode cX2_worth 12 = .ok (.invokevirtual 13, 3) := by decide +kernel
theorem dX2_worth_15 : decode cX2_worth 15 = .ok (.ireturn, 1) := by decide +kernel
theorem dX3_init_0 : decode cX3_init 0 = .ok (.aload_n 0, 1) := by decide +kernel
theorem dX3_init_1 : decode cX3_init 1 = .ok (.invokespecial 1, 3) := by decide +kernel
theorem dX3_init_4 : decode cX3_init 4 = .ok (.return_, 1) := by decide +kernel
theorem dX3_worth_0 : decode cX3_worth 0 = .ok (.aload_n 0, 1) := by decide +kernel
theorem dX3_worth_1 : decode cX3_worth 1 = .ok (.dup, 1) := by decide +kernel
theorem dX3_worth_2 : decode cX3_worth 2 = .ok (.getfield 7, 3) := by decide +kernel
theorem dX3_worth_5 : decode cX3_worth 5 = .ok (.ldc2_w 13, 3) := by decide +kernel
theorem dX3_worth_8 : decode cX3_worth 8 = .ok (.ladd, 1) := by decide +kernel
theorem dX3_worth_9 : decode cX3_worth 9 = .ok (.putfield 7, 3) := by decide +kernel
theorem dX3_worth_12 : decode cX3_worth 12 = .ok (.aload_n 0, 1) := by decide +kernel
theorem dX3_worth_13 : decode cX3_worth 13 = .ok (.aload_n 1, 1) := by decide +kernel
theorem dX3_worth_14 : decode cX3_worth 14 = .ok (.iload_n 2, 1) := by decide +kernel
theorem dX3_worth_15 : decode cX3_worth 15 = .ok (.invokespecial 15, 3) := by decide +kernel
theorem dX3_worth_18 : decode cX3_worth 18 = .ok (.iload_n 2, 1) := by decide +kernel
theorem dX3_worth_19 : decode cX3_worth 19 = .ok (.iadd, 1) := by decide +kernel
theorem dX3_worth_20 : decode cX3_worth 20 = .ok (.ireturn, 1) := by decide +kernel
theorem dX4_init_0 : decode cX4_init 0 = .ok (.aload_n 0, 1) := by decide +kernel
theorem dX4_init_1 : decode cX4_init 1 = .ok (.invokespecial 3, 3) := by decide +kernel
theorem dX4_init_4 : decode cX4_init 4 = .ok (.return_, 1) := by decide +kernel
theorem dX4_worth_0 : decode cX4_worth 0 = .ok (.aload_n 0, 1) := by decide +kernel
theorem dX4_worth_1 : decode cX4_worth 1 = .ok (.dup, 1) := by decide +kernel
theorem dX4_worth_2 : decode cX4_worth 2 = .ok (.getfield 9, 3) := by decide +kernel
theorem dX4_worth_5 : decode cX4_worth 5 = .ok (.ldc2_w 15, 3) := by decide +kernel
theorem dX4_worth_8 : decode cX4_worth 8 = .ok (.ladd, 1) := by decide +kernel
theorem dX4_worth_9 : decode cX4_worth 9 = .ok (.putfield 9, 3) := by decide +kernel
theorem dX4_worth_12 : decode cX4_worth 12 = .ok (.aload_n 0, 1) := by decide +kernel
theorem dX4_worth_13 : decode cX4_worth 13 = .ok (.aload_n 1, 1) := by decide +kernel
theorem dX4_worth_14 : decode cX4_worth 14 = .ok (.iload_n 2, 1) := by decide +kernel
theorem dX4_worth_15 : decode cX4_worth 15 = .ok (.invokespecial 17, 3) := by decide +kernel
theorem dX4_worth_18 : decode cX4_worth 18 = .ok (.aload_n 1, 1) := by decide +kernel
theorem dX4_worth_19 : decode cX4_worth 19 = .ok (.iconst 0, 1) := by decide +kernel
theorem dX4_worth_20 : decode cX4_worth 20 = .ok (.invokevirtual 21, 3) := by decide +kernel
theorem dX4_worth_23 : decode cX4_worth 23 = .ok (.isub, 1) := by decide +kernel
theorem dX4_worth_24 : decode cX4_worth 24 = .ok (.ireturn, 1) := by decide +kernel
theorem dX5_init_0 : decode cX5_init 0 = .ok (.aload_n 0, 1) := by decide +kernel
theorem dX5_init_1 : decode cX5_init 1 = .ok (.invokespecial 3, 3) := by decide +kernel
theorem dX5_init_4 : decode cX5_init 4 = .ok (.aload_n 0, 1) := by decide +kernel
theorem dX5_init_5 : decode cX5_init 5 = .ok (.bipush 9, 2) := by decide +kernel
theorem dX5_init_7 : decode cX5_init 7 = .ok (.newarray .int, 2) := by decide +kernel
theorem dX5_init_9 : decode cX5_init 9 = .ok (.putfield 9, 3) := by decide +kernel
theorem dX5_init_12 : decode cX5_init 12 = .ok (.aload_n 0, 1) := by decide +kernel
theorem dX5_init_13 : decode cX5_init 13 = .ok (.bipush 9, 2) := by decide +kernel
theorem dX5_init_15 : decode cX5_init 15 = .ok (.newarray .int, 2) := by decide +kernel
theorem dX5_init_17 : decode cX5_init 17 = .ok (.putfield 15, 3) := by decide +kernel
theorem dX5_init_20 : decode cX5_init 20 = .ok (.aload_n 0, 1) := by decide +kernel
theorem dX5_init_21 : decode cX5_init 21 = .ok (.bipush 9, 2) := by decide +kernel
theorem dX5_init_23 : decode cX5_init 23 = .ok (.newarray .int, 2) := by decide +kernel
theorem dX5_init_25 : decode cX5_init 25 = .ok (.putfield 18, 3) := by decide +kernel
theorem dX5_init_28 : decode cX5_init 28 = .ok (.aload_n 0, 1) := by decide +kernel
theorem dX5_init_29 : decode cX5_init 29 = .ok (.bipush 9, 2) := by decide +kernel
theorem dX5_init_31 : decode cX5_init 31 = .ok (.newarray .int, 2) := by decide +kernel
theorem dX5_init_33 : decode cX5_init 33 = .ok (.putfield 21, 3) := by decide +kernel
theorem dX5_init_36 : decode cX5_init 36 = .ok (.aload_n 0, 1) := by decide +kernel
theorem dX5_init_37 : decode cX5_init 37 = .ok (.bipush 9, 2) := by decide +kernel
theorem dX5_init_39 : decode cX5_init 39 = .ok (.newarray .int, 2) := by decide +kernel
theorem dX5_init_41 : decode cX5_init 41 = .ok (.putfield 24, 3) := by decide +kernel
theorem dX5_init_44 : decode cX5_init 44 = .ok (.aload_n 0, 1) := by decide +kernel
theorem dX5_init_45 : decode cX5_init 45 = .ok (.aload_n 1, 1) := by decide +kernel
theorem dX5_init_46 : decode cX5_init 46 = .ok (.putfield 27, 3) := by decide +kernel
theorem dX5_init_49 : decode cX5_init 49 = .ok (.return_, 1) := by decide +kernel
theorem dX5_empty_0 : decode cX5_empty 0 = .ok (.aload_n 0, 1) := by decide +kernel
theorem dX5_empty_1 : decode cX5_empty 1 = .ok (.iconst 0, 1) := by decide +kernel
theorem dX5_empty_2 : decode cX5_empty 2 = .ok (.putfield 31, 3) := by decide +kernel
theorem dX5_empty_5 : decode cX5_empty 5 = .ok (.aload_n 0, 1) := by decide +kernel
theorem dX5_empty_6 : decode cX5_empty 6 = .ok (.iconst 0, 1) := by decide +kernel
theorem dX5_empty_7 : decode cX5_empty 7 = .ok (.putfield 35, 3) := by decide +kernel
theorem dX5_empty_10 : decode cX5_empty 10 = .ok (.return_, 1) := by decide +kernel
theorem dX5_copy_0 : decode cX5_copy 0 = .ok (.aload_n 0, 1) := by decide +kernel
theorem dX5_copy_1 : decode cX5_copy 1 = .ok (.aload_n 1, 1) := by decide +kernel
theorem dX5_copy_2 : decode cX5_copy 2 = .ok (.getfield 31, 3) := by decide +kernel
theorem dX5_copy_5 : decode cX5_copy 5 = .ok (.putfield 31, 3) := by decide +kernel
theorem dX5_copy_8 : decode cX5_copy 8 = .ok (.aload_n 0, 1) := by decide +kernel
theorem dX5_copy_9 : decode cX5_copy 9 = .ok (.aload_n 1, 1) := by decide +kernel
theorem dX5_copy_10 : decode cX5_copy 10 = .ok (.getfield 35, 3) := by decide +kernel
theorem dX5_copy_13 : decode cX5_copy 13 = .ok (.putfield 35, 3) := by decide +kernel
theorem dX5_copy_16 : decode cX5_copy 16 = .ok (.aload_n 1, 1) := by decide +kernel
theorem dX5_copy_17 : decode cX5_copy 17 = .ok (.getfield 9, 3) := by decide +kernel
theorem dX5_copy_20 : decode cX5_copy 20 = .ok (.iconst 0, 1) := by decide +kernel
theorem dX5_copy_21 : decode cX5_copy 21 = .ok (.aload_n 0, 1) := by decide +kernel
theorem dX5_copy_22 : decode cX5_copy 22 = .ok (.getfield 9, 3) := by decide +kernel
theorem dX5_copy_25 : decode cX5_copy 25 = .ok (.iconst 0, 1) := by decide +kernel
theorem dX5_copy_26 : decode cX5_copy 26 = .ok (.bipush 9, 2) := by decide +kernel
theorem dX5_copy_28 : decode cX5_copy 28 = .ok (.invokestatic 38, 3) := by decide +kernel
theorem dX5_copy_31 : decode cX5_copy 31 = .ok (.aload_n 1, 1) := by decide +kernel
theorem dX5_copy_32 : decode cX5_copy 32 = .ok (.getfield 15, 3) := by decide +kernel
theorem dX5_copy_35 : decode cX5_copy 35 = .ok (.iconst 0, 1) := by decide +kernel
theorem dX5_copy_36 : decode cX5_copy 36 = .ok (.aload_n 0, 1) := by decide +kernel
theorem dX5_copy_37 : decode cX5_copy 37 = .ok (.getfield 15, 3) := by decide +kernel
theorem dX5_copy_40 : decode cX5_copy 40 = .ok (.iconst 0, 1) := by decide +kernel
theorem dX5_copy_41 : decode cX5_copy 41 = .ok (.bipush 9, 2) := by decide +kernel
theorem dX5_copy_43 : decode cX5_copy 43 = .ok (.invokestatic 38, 3) := by decide +kernel
theorem dX5_copy_46 : decode cX5_copy 46 = .ok (.aload_n 1, 1) := by decide +kernel
theorem dX5_copy_47 : decode cX5_copy 47 = .ok (.getfield 18, 3) := by decide +kernel
theorem dX5_copy_50 : decode cX5_copy 50 = .ok (.iconst 0, 1) := by decide +kernel
theorem dX5_copy_51 : decode cX5_copy 51 = .ok (.aload_n 0, 1) := by decide +kernel
theorem dX5_copy_52 : decode cX5_copy 52 = .ok (.getfield 18, 3) := by decide +kernel
theorem dX5_copy_55 : decode cX5_copy 55 = .ok (.iconst 0, 1) := by decide +kernel
theorem dX5_copy_56 : decode cX5_copy 56 = .ok (.bipush 9, 2) := by decide +kernel
theorem dX5_copy_58 : decode cX5_copy 58 = .ok (.invokestatic 38, 3) := by decide +kernel
theorem dX5_copy_61 : decode cX5_copy 61 = .ok (.aload_n 1, 1) := by decide +kernel
theorem dX5_copy_62 : decode cX5_copy 62 = .ok (.getfield 21, 3) := by decide +kernel
theorem dX5_copy_65 : decode cX5_copy 65 = .ok (.iconst 0, 1) := by decide +kernel
theorem dX5_copy_66 : decode cX5_copy 66 = .ok (.aload_n 0, 1) := by decide +kernel
theorem dX5_copy_67 : decode cX5_copy 67 = .ok (.getfield 21, 3) := by decide +kernel
theorem dX5_copy_70 : decode cX5_copy 70 = .ok (.iconst 0, 1) := by decide +kernel
theorem dX5_copy_71 : decode cX5_copy 71 = .ok (.bipush 9, 2) := by decide +kernel
theorem dX5_copy_73 : decode cX5_copy 73 = .ok (.invokestatic 38, 3) := by decide +kernel
theorem dX5_copy_76 : decode cX5_copy 76 = .ok (.aload_n 1, 1) := by decide +kernel
theorem dX5_copy_77 : decode cX5_copy 77 = .ok (.getfield 24, 3) := by decide +kernel
theorem dX5_copy_80 : decode cX5_copy 80 = .ok (.iconst 0, 1) := by decide +kernel
theorem dX5_copy_81 : decode cX5_copy 81 = .ok (.aload_n 0, 1) := by decide +kernel
theorem dX5_copy_82 : decode cX5_copy 82 = .ok (.getfield 24, 3) := by decide +kernel
theorem dX5_copy_85 : decode cX5_copy 85 = .ok (.iconst 0, 1) := by decide +kernel
theorem dX5_copy_86 : decode cX5_copy 86 = .ok (.bipush 9, 2) := by decide +kernel
theorem dX5_copy_88 : decode cX5_copy 88 = .ok (.invokestatic 38, 3) := by decide +kernel
theorem dX5_copy_91 : decode cX5_copy 91 = .ok (.return_, 1) := by decide +kernel
theorem dX5_hasGoer_0 : decode cX5_hasGoer 0 = .ok (.iload_n 1, 1) := by decide +kernel
theorem dX5_hasGoer_1 : decode cX5_hasGoer 1 = .ok (.ifCond .lt 15, 3) := by decide +kernel
theorem dX5_hasGoer_4 : decode cX5_hasGoer 4 = .ok (.iload_n 1, 1) := by decide +kernel
theorem dX5_hasGoer_5 : decode cX5_hasGoer 5 = .ok (.aload_n 0, 1) := by decide +kernel
theorem dX5_hasGoer_6 : decode cX5_hasGoer 6 = .ok (.getfield 35, 3) := by decide +kernel
theorem dX5_hasGoer_9 : decode cX5_hasGoer 9 = .ok (.if_icmp .ge 7, 3) := by decide +kernel
theorem dX5_hasGoer_12 : decode cX5_hasGoer 12 = .ok (.iconst 1, 1) := by decide +kernel
theorem dX5_hasGoer_13 : decode cX5_hasGoer 13 = .ok (.goto 4, 3) := by decide +kernel
theorem dX5_hasGoer_16 : decode cX5_hasGoer 16 = .ok (.iconst 0, 1) := by decide +kernel
theorem dX5_hasGoer_17 : decode cX5_hasGoer 17 = .ok (.ireturn, 1) := by decide +kernel
theorem dX5_bulkOf_0 : decode cX5_bulkOf 0 = .ok (.aload_n 0, 1) := by decide +kernel
theorem dX5_bulkOf_1 : decode cX5_bulkOf 1 = .ok (.iload_n 1, 1) := by decide +kernel
theorem dX5_bulkOf_2 : decode cX5_bulkOf 2 = .ok (.invokevirtual 44, 3) := by decide +kernel
theorem dX5_bulkOf_5 : decode cX5_bulkOf 5 = .ok (.ifCond .eq 19, 3) := by decide +kernel
theorem dX5_bulkOf_8 : decode cX5_bulkOf 8 = .ok (.aload_n 0, 1) := by decide +kernel
theorem dX5_bulkOf_9 : decode cX5_bulkOf 9 = .ok (.getfield 27, 3) := by decide +kernel
theorem dX5_bulkOf_12 : decode cX5_bulkOf 12 = .ok (.aload_n 0, 1) := by decide +kernel
theorem dX5_bulkOf_13 : decode cX5_bulkOf 13 = .ok (.getfield 9, 3) := by decide +kernel
theorem dX5_bulkOf_16 : decode cX5_bulkOf 16 = .ok (.iload_n 1, 1) := by decide +kernel
theorem dX5_bulkOf_17 : decode cX5_bulkOf 17 = .ok (.iaload, 1) := by decide +kernel
theorem dX5_bulkOf_18 : decode cX5_bulkOf 18 = .ok (.invokevirtual 48, 3) := by decide +kernel
theorem dX5_bulkOf_21 : decode cX5_bulkOf 21 = .ok (.goto 4, 3) := by decide +kernel
theorem dX5_bulkOf_24 : decode cX5_bulkOf 24 = .ok (.iconst 0, 1) := by decide +kernel
theorem dX5_bulkOf_25 : decode cX5_bulkOf 25 = .ok (.ireturn, 1) := by decide +kernel
theorem dX5_pushOf_0 : decode cX5_pushOf 0 = .ok (.aload_n 0, 1) := by decide +kernel
theorem dX5_pushOf_1 : decode cX5_pushOf 1 = .ok (.iload_n 1, 1) := by decide +kernel
theorem dX5_pushOf_2 : decode cX5_pushOf 2 = .ok (.invokevirtual 44, 3) := by decide +kernel
theorem dX5_pushOf_5 : decode cX5_pushOf 5 = .ok (.ifCond .eq 19, 3) := by decide +kernel
theorem dX5_pushOf_8 : decode cX5_pushOf 8 = .ok (.aload_n 0, 1) := by decide +kernel
theorem dX5_pushOf_9 : decode cX5_pushOf 9 = .ok (.getfield 27, 3) := by decide +kernel
theorem dX5_pushOf_12 : decode cX5_pushOf 12 = .ok (.aload_n 0, 1) := by decide +kernel
theorem dX5_pushOf_13 : decode cX5_pushOf 13 = .ok (.getfield 9, 3) := by decide +kernel
theorem dX5_pushOf_16 : decode cX5_pushOf 16 = .ok (.iload_n 1, 1) := by decide +kernel
theorem dX5_pushOf_17 : decode cX5_pushOf 17 = .ok (.iaload, 1) := by decide +kernel
theorem dX5_pushOf_18 : decode cX5_pushOf 18 = .ok (.invokevirtual 54, 3) := by decide +kernel
theorem dX5_pushOf_21 : decode cX5_pushOf 21 = .ok (.goto 4, 3) := by decide +kernel
theorem dX5_pushOf_24 : decode cX5_pushOf 24 = .ok (.iconst 0, 1) := by decide +kernel
theorem dX5_pushOf_25 : decode cX5_pushOf 25 = .ok (.ireturn, 1) := by decide +kernel
theorem dX5_howManyOfSort_0 : decode cX5_howManyOfSort 0 = .ok (.iconst 0, 1) := by decide +kernel
theorem dX5_howManyOfSort_1 : decode cX5_howManyOfSort 1 = .ok (.istore_n 2, 1) := by decide +kernel
theorem dX5_howManyOfSort_2 : decode cX5_howManyOfSort 2 = .ok (.iconst 0, 1) := by decide +kernel
theorem dX5_howManyOfSort_3 : decode cX5_howManyOfSort 3 = .ok (.istore_n 3, 1) := by decide +kernel
theorem dX5_howManyOfSort_4 : decode cX5_howManyOfSort 4 = .ok (.iload_n 3, 1) := by decide +kernel
theorem dX5_howManyOfSort_5 : decode cX5_howManyOfSort 5 = .ok (.aload_n 0, 1) := by decide +kernel
theorem dX5_howManyOfSort_6 : decode cX5_howManyOfSort 6 = .ok (.getfield 35, 3) := by decide +kernel
theorem dX5_howManyOfSort_9 : decode cX5_howManyOfSort 9 = .ok (.if_icmp .ge 22, 3) := by decide +kernel
theorem dX5_howManyOfSort_12 : decode cX5_howManyOfSort 12 = .ok (.aload_n 0, 1) := by decide +kernel
theorem dX5_howManyOfSort_13 : decode cX5_howManyOfSort 13 = .ok (.getfield 9, 3) := by decide +kernel
theorem dX5_howManyOfSort_16 : decode cX5_howManyOfSort 16 = .ok (.iload_n 3, 1) := by decide +kernel
theorem dX5_howManyOfSort_17 : decode cX5_howManyOfSort 17 = .ok (.iaload, 1) := by decide +kernel
theorem dX5_howManyOfSort_18 : decode cX5_howManyOfSort 18 = .ok (.iload_n 1, 1) := by decide +kernel
theorem dX5_howManyOfSort_19 : decode cX5_howManyOfSort 19 = .ok (.if_icmp .ne 6, 3) := by decide +kernel
theorem dX5_howManyOfSort_22 : decode cX5_howManyOfSort 22 = .ok (.iinc 2 1, 3) := by decide +kernel
theorem dX5_howManyOfSort_25 : decode cX5_howManyOfSort 25 = .ok (.iinc 3 1, 3) := by decide +kernel
theorem dX5_howManyOfSort_28 : decode cX5_howManyOfSort 28 = .ok (.goto (-24), 3) := by decide +kernel
theorem dX5_howManyOfSort_31 : decode cX5_howManyOfSort 31 = .ok (.iload_n 2, 1) := by decide +kernel
theorem dX5_howManyOfSort_32 : decode cX5_howManyOfSort 32 = .ok (.ireturn, 1) := by decide +kernel
theorem dX5_whoIs_0 : decode cX5_whoIs 0 = .ok (.iconst 0, 1) := by decide +kernel
theorem dX5_whoIs_1 : decode cX5_whoIs 1 = .ok (.istore_n 2, 1) := by decide +kernel
theorem dX5_whoIs_2 : decode cX5_whoIs 2 = .ok (.iconst 0, 1) := by decide +kernel
theorem dX5_whoIs_3 : decode cX5_whoIs 3 = .ok (.istore_n 3, 1) := by decide +kernel
theorem dX5_whoIs_4 : decode cX5_whoIs 4 = .ok (.iload_n 3, 1) := by decide +kernel
theorem dX5_whoIs_5 : decode cX5_whoIs 5 = .ok (.aload_n 0, 1) := by decide +kernel
theorem dX5_whoIs_6 : decode cX5_whoIs 6 = .ok (.getfield 35, 3) := by decide +kernel
theorem dX5_whoIs_9 : decode cX5_whoIs 9 = .ok (.if_icmp .ge 25, 3) := by decide +kernel
theorem dX5_whoIs_12 : decode cX5_whoIs 12 = .ok (.aload_n 0, 1) := by decide +kernel
theorem dX5_whoIs_13 : decode cX5_whoIs 13 = .ok (.getfield 18, 3) := by decide +kernel
theorem dX5_whoIs_16 : decode cX5_whoIs 16 = .ok (.iload_n 3, 1) := by decide +kernel
theorem dX5_whoIs_17 : decode cX5_whoIs 17 = .ok (.iaload, 1) := by decide +kernel
theorem dX5_whoIs_18 : decode cX5_whoIs 18 = .ok (.iload_n 1, 1) := by decide +kernel
theorem dX5_whoIs_19 : decode cX5_whoIs 19 = .ok (.if_icmp .ne 9, 3) := by decide +kernel
theorem dX5_whoIs_22 : decode cX5_whoIs 22 = .ok (.iload_n 2, 1) := by decide +kernel
theorem dX5_whoIs_23 : decode cX5_whoIs 23 = .ok (.iconst 1, 1) := by decide +kernel
theorem dX5_whoIs_24 : decode cX5_whoIs 24 = .ok (.iload_n 3, 1) := by decide +kernel
theorem dX5_whoIs_25 : decode cX5_whoIs 25 = .ok (.ishl, 1) := by decide +kernel
theorem dX5_whoIs_26 : decode cX5_whoIs 26 = .ok (.ior, 1) := by decide +kernel
theorem dX5_whoIs_27 : decode cX5_whoIs 27 = .ok (.istore_n 2, 1) := by decide +kernel
theorem dX5_whoIs_28 : decode cX5_whoIs 28 = .ok (.iinc 3 1, 3) := by decide +kernel
theorem dX5_whoIs_31 : decode cX5_whoIs 31 = .ok (.goto (-27), 3) := by decide +kernel
theorem dX5_whoIs_34 : decode cX5_whoIs 34 = .ok (.iload_n 2, 1) := by decide +kernel
theorem dX5_whoIs_35 : decode cX5_whoIs 35 = .ok (.ireturn, 1) := by decide +kernel
theorem dX5_howManyAre_0 : decode cX5_howManyAre 0 = .ok (.aload_n 0, 1) := by decide +kernel
theorem dX5_howManyAre_1 : decode cX5_howManyAre 1 = .ok (.iload_n 1, 1) := by decide +kernel
theorem dX5_howManyAre_2 : decode cX5_howManyAre 2 = .ok (.invokevirtual 57, 3) := by decide +kernel
theorem dX5_howManyAre_5 : decode cX5_howManyAre 5 = .ok (.invokestatic 60, 3) := by decide +kernel
theorem dX5_howManyAre_8 : decode cX5_howManyAre 8 = .ok (.ireturn, 1) := by decide +kernel
theorem dX5_whoIsInRoomAt_0 : decode cX5_whoIsInRoomAt 0 = .ok (.iconst 0, 1) := by decide +kernel
theorem dX5_whoIsInRoomAt_1 : decode cX5_whoIsInRoomAt 1 = .ok (.istore_n 2, 1) := by decide +kernel
theorem dX5_whoIsInRoomAt_2 : decode cX5_whoIsInRoomAt 2 = .ok (.iconst 0, 1) := by decide +kernel
theorem dX5_whoIsInRoomAt_3 : decode cX5_whoIsInRoomAt 3 = .ok (.istore_n 3, 1) := by decide +kernel
theorem dX5_whoIsInRoomAt_4 : decode cX5_whoIsInRoomAt 4 = .ok (.iload_n 3, 1) := by decide +kernel
theorem dX5_whoIsInRoomAt_5 : decode cX5_whoIsInRoomAt 5 = .ok (.aload_n 0, 1) := by decide +kernel
theorem dX5_whoIsInRoomAt_6 : decode cX5_whoIsInRoomAt 6 = .ok (.getfield 35, 3) := by decide +kernel
theorem dX5_whoIsInRoomAt_9 : decode cX5_whoIsInRoomAt 9 = .ok (.if_icmp .ge 35, 3) := by decide +kernel
theorem dX5_whoIsInRoomAt_12 : decode cX5_whoIsInRoomAt 12 = .ok (.aload_n 0, 1) := by decide +kernel
theorem dX5_whoIsInRoomAt_13 : decode cX5_whoIsInRoomAt 13 = .ok (.getfield 18, 3) := by decide +kernel
theorem dX5_whoIsInRoomAt_16 : decode cX5_whoIsInRoomAt 16 = .ok (.iload_n 3, 1) := by decide +kernel
theorem dX5_whoIsInRoomAt_17 : decode cX5_whoIsInRoomAt 17 = .ok (.iaload, 1) := by decide +kernel
theorem dX5_whoIsInRoomAt_18 : decode cX5_whoIsInRoomAt 18 = .ok (.iconst 1, 1) := by decide +kernel
theorem dX5_whoIsInRoomAt_19 : decode cX5_whoIsInRoomAt 19 = .ok (.if_icmp .ne 19, 3) := by decide +kernel
theorem dX5_whoIsInRoomAt_22 : decode cX5_whoIsInRoomAt 22 = .ok (.aload_n 0, 1) := by decide +kernel
theorem dX5_whoIsInRoomAt_23 : decode cX5_whoIsInRoomAt 23 = .ok (.getfield 21, 3) := by decide +kernel
theorem dX5_whoIsInRoomAt_26 : decode cX5_whoIsInRoomAt 26 = .ok (.iload_n 3, 1) := by decide +kernel
theorem dX5_whoIsInRoomAt_27 : decode cX5_whoIsInRoomAt 27 = .ok (.iaload, 1) := by decide +kernel
theorem dX5_whoIsInRoomAt_28 : decode cX5_whoIsInRoomAt 28 = .ok (.iload_n 1, 1) := by decide +kernel
theorem dX5_whoIsInRoomAt_29 : decode cX5_whoIsInRoomAt 29 = .ok (.if_icmp .ne 9, 3) := by decide +kernel
theorem dX5_whoIsInRoomAt_32 : decode cX5_whoIsInRoomAt 32 = .ok (.iload_n 2, 1) := by decide +kernel
theorem dX5_whoIsInRoomAt_33 : decode cX5_whoIsInRoomAt 33 = .ok (.iconst 1, 1) := by decide +kernel
theorem dX5_whoIsInRoomAt_34 : decode cX5_whoIsInRoomAt 34 = .ok (.iload_n 3, 1) := by decide +kernel
theorem dX5_whoIsInRoomAt_35 : decode cX5_whoIsInRoomAt 35 = .ok (.ishl, 1) := by decide +kernel
theorem dX5_whoIsInRoomAt_36 : decode cX5_whoIsInRoomAt 36 = .ok (.ior, 1) := by decide +kernel
theorem dX5_whoIsInRoomAt_37 : decode cX5_whoIsInRoomAt 37 = .ok (.istore_n 2, 1) := by decide +kernel
theorem dX5_whoIsInRoomAt_38 : decode cX5_whoIsInRoomAt 38 = .ok (.iinc 3 1, 3) := by decide +kernel
theorem dX5_whoIsInRoomAt_41 : decode cX5_whoIsInRoomAt 41 = .ok (.goto (-37), 3) := by decide +kernel
theorem dX5_whoIsInRoomAt_44 : decode cX5_whoIsInRoomAt 44 = .ok (.iload_n 2, 1) := by decide +kernel
theorem dX5_whoIsInRoomAt_45 : decode cX5_whoIsInRoomAt 45 = .ok (.ireturn, 1) := by decide +kernel
theorem dX5_bulkInRoomAt_0 : decode cX5_bulkInRoomAt 0 = .ok (.iconst 0, 1) := by decide +kernel
theorem dX5_bulkInRoomAt_1 : decode cX5_bulkInRoomAt 1 = .ok (.istore_n 2, 1) := by decide +kernel
theorem dX5_bulkInRoomAt_2 : decode cX5_bulkInRoomAt 2 = .ok (.iconst 0, 1) := by decide +kernel
theorem dX5_bulkInRoomAt_3 : decode cX5_bulkInRoomAt 3 = .ok (.istore_n 3, 1) := by decide +kernel
theorem dX5_bulkInRoomAt_4 : decode cX5_bulkInRoomAt 4 = .ok (.iload_n 3, 1) := by decide +kernel
theorem dX5_bulkInRoomAt_5 : decode cX5_bulkInRoomAt 5 = .ok (.aload_n 0, 1) := by decide +kernel
theorem dX5_bulkInRoomAt_6 : decode cX5_bulkInRoomAt 6 = .ok (.getfield 35, 3) := by decide +kernel
theorem dX5_bulkInRoomAt_9 : decode cX5_bulkInRoomAt 9 = .ok (.if_icmp .ge 45, 3) := by decide +kernel
theorem dX5_bulkInRoomAt_12 : decode cX5_bulkInRoomAt 12 = .ok (.aload_n 0, 1) := by decide +kernel
theorem dX5_bulkInRoomAt_13 : decode cX5_bulkInRoomAt 13 = .ok (.getfield 18, 3) := by decide +kernel
theorem dX5_bulkInRoomAt_16 : decode cX5_bulkInRoomAt 16 = .ok (.iload_n 3, 1) := by decide +kernel
theorem dX5_bulkInRoomAt_17 : decode cX5_bulkInRoomAt 17 = .ok (.iaload, 1) := by decide +kernel
theorem dX5_bulkInRoomAt_18 : decode cX5_bulkInRoomAt 18 = .ok (.iconst 1, 1) := by decide +kernel
theorem dX5_bulkInRoomAt_19 : decode cX5_bulkInRoomAt 19 = .ok (.if_icmp .ne 29, 3) := by decide +kernel
theorem dX5_bulkInRoomAt_22 : decode cX5_bulkInRoomAt 22 = .ok (.aload_n 0, 1) := by decide +kernel
theorem dX5_bulkInRoomAt_23 : decode cX5_bulkInRoomAt 23 = .ok (.getfield 21, 3) := by decide +kernel
theorem dX5_bulkInRoomAt_26 : decode cX5_bulkInRoomAt 26 = .ok (.iload_n 3, 1) := by decide +kernel
theorem dX5_bulkInRoomAt_27 : decode cX5_bulkInRoomAt 27 = .ok (.iaload, 1) := by decide +kernel
theorem dX5_bulkInRoomAt_28 : decode cX5_bulkInRoomAt 28 = .ok (.iload_n 1, 1) := by decide +kernel
theorem dX5_bulkInRoomAt_29 : decode cX5_bulkInRoomAt 29 = .ok (.if_icmp .ne 19, 3) := by decide +kernel
theorem dX5_bulkInRoomAt_32 : decode cX5_bulkInRoomAt 32 = .ok (.iload_n 2, 1) := by decide +kernel
theorem dX5_bulkInRoomAt_33 : decode cX5_bulkInRoomAt 33 = .ok (.aload_n 0, 1) := by decide +kernel
theorem dX5_bulkInRoomAt_34 : decode cX5_bulkInRoomAt 34 = .ok (.getfield 27, 3) := by decide +kernel
theorem dX5_bulkInRoomAt_37 : decode cX5_bulkInRoomAt 37 = .ok (.aload_n 0, 1) := by decide +kernel
theorem dX5_bulkInRoomAt_38 : decode cX5_bulkInRoomAt 38 = .ok (.getfield 9, 3) := by decide +kernel
theorem dX5_bulkInRoomAt_41 : decode cX5_bulkInRoomAt 41 = .ok (.iload_n 3, 1) := by decide +kernel
theorem dX5_bulkInRoomAt_42 : decode cX5_bulkInRoomAt 42 = .ok (.iaload, 1) := by decide +kernel
theorem dX5_bulkInRoomAt_43 : decode cX5_bulkInRoomAt 43 = .ok (.invokevirtual 48, 3) := by decide +kernel
theorem dX5_bulkInRoomAt_46 : decode cX5_bulkInRoomAt 46 = .ok (.iadd, 1) := by decide +kernel
theorem dX5_bulkInRoomAt_47 : decode cX5_bulkInRoomAt 47 = .ok (.istore_n 2, 1) := by decide +kernel
theorem dX5_bulkInRoomAt_48 : decode cX5_bulkInRoomAt 48 = .ok (.iinc 3 1, 3) := by decide +kernel
theorem dX5_bulkInRoomAt_51 : decode cX5_bulkInRoomAt 51 = .ok (.goto (-47), 3) := by decide +kernel
theorem dX5_bulkInRoomAt_54 : decode cX5_bulkInRoomAt 54 = .ok (.iload_n 2, 1) := by decide +kernel
theorem dX5_bulkInRoomAt_55 : decode cX5_bulkInRoomAt 55 = .ok (.ireturn, 1) := by decide +kernel
theorem dX5_load_0 : decode cX5_load 0 = .ok (.iconst 0, 1) := by decide +kernel
theorem dX5_load_1 : decode cX5_load 1 = .ok (.istore_n 1, 1) := by decide +kernel
theorem dX5_load_2 : decode cX5_load 2 = .ok (.iconst 0, 1) := by decide +kernel
theorem dX5_load_3 : decode cX5_load 3 = .ok (.istore_n 2, 1) := by decide +kernel
theorem dX5_load_4 : decode cX5_load 4 = .ok (.iload_n 2, 1) := by decide +kernel
theorem dX5_load_5 : decode cX5_load 5 = .ok (.aload_n 0, 1) := by decide +kernel
theorem dX5_load_6 : decode cX5_load 6 = .ok (.getfield 35, 3) := by decide +kernel
theorem dX5_load_9 : decode cX5_load 9 = .ok (.if_icmp .ge 35, 3) := by decide +kernel
theorem dX5_load_12 : decode cX5_load 12 = .ok (.aload_n 0, 1) := by decide +kernel
theorem dX5_load_13 : decode cX5_load 13 = .ok (.getfield 18, 3) := by decide +kernel
theorem dX5_load_16 : decode cX5_load 16 = .ok (.iload_n 2, 1) := by decide +kernel
theorem dX5_load_17 : decode cX5_load 17 = .ok (.iaload, 1) := by decide +kernel
theorem dX5_load_18 : decode cX5_load 18 = .ok (.iconst 1, 1) := by decide +kernel
theorem dX5_load_19 : decode cX5_load 19 = .ok (.if_icmp .ne 19, 3) := by decide +kernel
theorem dX5_load_22 : decode cX5_load 22 = .ok (.iload_n 1, 1) := by decide +kernel
theorem dX5_load_23 : decode cX5_load 23 = .ok (.aload_n 0, 1) := by decide +kernel
theorem dX5_load_24 : decode cX5_load 24 = .ok (.getfield 27, 3) := by decide +kernel
theorem dX5_load_27 : decode cX5_load 27 = .ok (.aload_n 0, 1) := by decide +kernel
theorem dX5_load_28 : decode cX5_load 28 = .ok (.getfield 9, 3) := by decide +kernel
theorem dX5_load_31 : decode cX5_load 31 = .ok (.iload_n 2, 1) := by decide +kernel
theorem dX5_load_32 : decode cX5_load 32 = .ok (.iaload, 1) := by decide +kernel
theorem dX5_load_33 : decode cX5_load 33 = .ok (.invokevirtual 54, 3) := by decide +kernel
theorem dX5_load_36 : decode cX5_load 36 = .ok (.iadd, 1) := by decide +kernel
theorem dX5_load_37 : decode cX5_load 37 = .ok (.istore_n 1, 1) := by decide +kernel
theorem dX5_load_38 : decode cX5_load 38 = .ok (.iinc 2 1, 3) := by decide +kernel
theorem dX5_load_41 : decode cX5_load 41 = .ok (.goto (-37), 3) := by decide +kernel
theorem dX5_load_44 : decode cX5_load 44 = .ok (.iload_n 1, 1) := by decide +kernel
theorem dX5_load_45 : decode cX5_load 45 = .ok (.ireturn, 1) := by decide +kernel
theorem dX5_drag_0 : decode cX5_drag 0 = .ok (.aload_n 0, 1) := by decide +kernel
theorem dX5_drag_1 : decode cX5_drag 1 = .ok (.getfield 27, 3) := by decide +kernel
theorem dX5_drag_4 : decode cX5_drag 4 = .ok (.getfield 65, 3) := by decide +kernel
theorem dX5_drag_7 : decode cX5_drag 7 = .ok (.aload_n 0, 1) := by decide +kernel
theorem dX5_drag_8 : decode cX5_drag 8 = .ok (.iconst 1, 1) := by decide +kernel
theorem dX5_drag_9 : decode cX5_drag 9 = .ok (.invokevirtual 57, 3) := by decide +kernel
theorem dX5_drag_12 : decode cX5_drag 12 = .ok (.invokestatic 60, 3) := by decide +kernel
theorem dX5_drag_15 : decode cX5_drag 15 = .ok (.iadd, 1) := by decide +kernel
theorem dX5_drag_16 : decode cX5_drag 16 = .ok (.ireturn, 1) := by decide +kernel
theorem dX5_sticks_0 : decode cX5_sticks 0 = .ok (.aload_n 0, 1) := by decide +kernel
theorem dX5_sticks_1 : decode cX5_sticks 1 = .ok (.iconst 1, 1) := by decide +kernel
theorem dX5_sticks_2 : decode cX5_sticks 2 = .ok (.invokevirtual 57, 3) := by decide +kernel
theorem dX5_sticks_5 : decode cX5_sticks 5 = .ok (.ifCond .eq 14, 3) := by decide +kernel
theorem dX5_sticks_8 : decode cX5_sticks 8 = .ok (.aload_n 0, 1) := by decide +kernel
theorem dX5_sticks_9 : decode cX5_sticks 9 = .ok (.invokevirtual 68, 3) := by decide +kernel
theorem dX5_sticks_12 : decode cX5_sticks 12 = .ok (.aload_n 0, 1) := by decide +kernel
theorem dX5_sticks_13 : decode cX5_sticks 13 = .ok (.invokevirtual 72, 3) := by decide +kernel
theorem dX5_sticks_16 : decode cX5_sticks 16 = .ok (.if_icmp .ge 7, 3) := by decide +kernel
theorem dX5_sticks_19 : decode cX5_sticks 19 = .ok (.iconst 1, 1) := by decide +kernel
theorem dX5_sticks_20 : decode cX5_sticks 20 = .ok (.goto 4, 3) := by decide +kernel
theorem dX5_sticks_23 : decode cX5_sticks 23 = .ok (.iconst 0, 1) := by decide +kernel
theorem dX5_sticks_24 : decode cX5_sticks 24 = .ok (.ireturn, 1) := by decide +kernel
theorem dX5_firstOn_0 : decode cX5_firstOn 0 = .ok (.iconst (-1), 1) := by decide +kernel
theorem dX5_firstOn_1 : decode cX5_firstOn 1 = .ok (.istore_n 2, 1) := by decide +kernel
theorem dX5_firstOn_2 : decode cX5_firstOn 2 = .ok (.iconst 0, 1) := by decide +kernel
theorem dX5_firstOn_3 : decode cX5_firstOn 3 = .ok (.istore_n 3, 1) := by decide +kernel
theorem dX5_firstOn_4 : decode cX5_firstOn 4 = .ok (.iload_n 3, 1) := by decide +kernel
theorem dX5_firstOn_5 : decode cX5_firstOn 5 = .ok (.aload_n 0, 1) := by decide +kernel
theorem dX5_firstOn_6 : decode cX5_firstOn 6 = .ok (.getfield 35, 3) := by decide +kernel
theorem dX5_firstOn_9 : decode cX5_firstOn 9 = .ok (.if_icmp .ge 62, 3) := by decide +kernel
theorem dX5_firstOn_12 : decode cX5_firstOn 12 = .ok (.aload_n 0, 1) := by decide +kernel
theorem dX5_firstOn_13 : decode cX5_firstOn 13 = .ok (.getfield 18, 3) := by decide +kernel
theorem dX5_firstOn_16 : decode cX5_firstOn 16 = .ok (.iload_n 3, 1) := by decide +kernel
theorem dX5_firstOn_17 : decode cX5_firstOn 17 = .ok (.iaload, 1) := by decide +kernel
theorem dX5_firstOn_18 : decode cX5_firstOn 18 = .ok (.ifCond .ne 17, 3) := by decide +kernel
theorem dX5_firstOn_21 : decode cX5_firstOn 21 = .ok (.aload_n 0, 1) := by decide +kernel
theorem dX5_firstOn_22 : decode cX5_firstOn 22 = .ok (.getfield 15, 3) := by decide +kernel
theorem dX5_firstOn_25 : decode cX5_firstOn 25 = .ok (.iload_n 3, 1) := by decide +kernel
theorem dX5_firstOn_26 : decode cX5_firstOn 26 = .ok (.iaload, 1) := by decide +kernel
theorem dX5_firstOn_27 : decode cX5_firstOn 27 = .ok (.iload_n 1, 1) := by decide +kernel
theorem dX5_firstOn_28 : decode cX5_firstOn 28 = .ok (.if_icmp .ne 7, 3) := by decide +kernel
theorem dX5_firstOn_31 : decode cX5_firstOn 31 = .ok (.iconst 1, 1) := by decide +kernel
theorem dX5_firstOn_32 : decode cX5_firstOn 32 = .ok (.goto 4, 3) := by decide +kernel
theorem dX5_firstOn_35 : decode cX5_firstOn 35 = .ok (.iconst 0, 1) := by decide +kernel
theorem dX5_firstOn_36 : decode cX5_firstOn 36 = .ok (.istore 4, 2) := by decide +kernel
theorem dX5_firstOn_38 : decode cX5_firstOn 38 = .ok (.iload 4, 2) := by decide +kernel
theorem dX5_firstOn_40 : decode cX5_firstOn 40 = .ok (.ifCond .eq 25, 3) := by decide +kernel
theorem dX5_firstOn_43 : decode cX5_firstOn 43 = .ok (.iload_n 2, 1) := by decide +kernel
theorem dX5_firstOn_44 : decode cX5_firstOn 44 = .ok (.iconst (-1), 1) := by decide +kernel
theorem dX5_firstOn_45 : decode cX5_firstOn 45 = .ok (.if_icmp .eq 18, 3) := by decide +kernel
theorem dX5_firstOn_48 : decode cX5_firstOn 48 = .ok (.aload_n 0, 1) := by decide +kernel
theorem dX5_firstOn_49 : decode cX5_firstOn 49 = .ok (.getfield 24, 3) := by decide +kernel
theorem dX5_firstOn_52 : decode cX5_firstOn 52 = .ok (.iload_n 3, 1) := by decide +kernel
theorem dX5_firstOn_53 : decode cX5_firstOn 53 = .ok (.iaload, 1) := by decide +kernel
theorem dX5_firstOn_54 : decode cX5_firstOn 54 = .ok (.aload_n 0, 1) := by decide +kernel
theorem dX5_firstOn_55 : decode cX5_firstOn 55 = .ok (.getfield 24, 3) := by decide +kernel
theorem dX5_firstOn_58 : decode cX5_firstOn 58 = .ok (.iload_n 2, 1) := by decide +kernel
theorem dX5_firstOn_59 : decode cX5_firstOn 59 = .ok (.iaload, 1) := by decide +kernel
theorem dX5_firstOn_60 : decode cX5_firstOn 60 = .ok (.if_icmp .ge 5, 3) := by decide +kernel
theorem dX5_firstOn_63 : decode cX5_firstOn 63 = .ok (.iload_n 3, 1) := by decide +kernel
theorem dX5_firstOn_64 : decode cX5_firstOn 64 = .ok (.istore_n 2, 1) := by decide +kernel
theorem dX5_firstOn_65 : decode cX5_firstOn 65 = .ok (.iinc 3 1, 3) := by decide +kernel
theorem dX5_firstOn_68 : decode cX5_firstOn 68 = .ok (.goto (-64), 3) := by decide +kernel
theorem dX5_firstOn_71 : decode cX5_firstOn 71 = .ok (.iload_n 2, 1) := by decide +kernel
theorem dX5_firstOn_72 : decode cX5_firstOn 72 = .ok (.ireturn, 1) := by decide +kernel
theorem dX5_howManyAheadOf_0 : decode cX5_howManyAheadOf 0 = .ok (.aload_n 0, 1) := by decide +kernel
theorem dX5_howManyAheadOf_1 : decode cX5_howManyAheadOf 1 = .ok (.iload_n 1, 1) := by decide +kernel
theorem dX5_howManyAheadOf_2 : decode cX5_howManyAheadOf 2 = .ok (.invokevirtual 44, 3) := by decide +kernel
theorem dX5_howManyAheadOf_5 : decode cX5_howManyAheadOf 5 = .ok (.ifCond .ne 5, 3) := by decide +kernel
theorem dX5_howManyAheadOf_8 : decode cX5_howManyAheadOf 8 = .ok (.iconst 0, 1) := by decide +kernel
theorem dX5_howManyAheadOf_9 : decode cX5_howManyAheadOf 9 = .ok (.ireturn, 1) := by decide +kernel
theorem dX5_howManyAheadOf_10 : decode cX5_howManyAheadOf 10 = .ok (.iconst 0, 1) := by decide +kernel
theorem dX5_howManyAheadOf_11 : decode cX5_howManyAheadOf 11 = .ok (.istore_n 2, 1) := by decide +kernel
theorem dX5_howManyAheadOf_12 : decode cX5_howManyAheadOf 12 = .ok (.iconst 0, 1) := by decide +kernel
theorem dX5_howManyAheadOf_13 : decode cX5_howManyAheadOf 13 = .ok (.istore_n 3, 1) := by decide +kernel
theorem dX5_howManyAheadOf_14 : decode cX5_howManyAheadOf 14 = .ok (.iload_n 3, 1) := by decide +kernel
theorem dX5_howManyAheadOf_15 : decode cX5_howManyAheadOf 15 = .ok (.aload_n 0, 1) := by decide +kernel
theorem dX5_howManyAheadOf_16 : decode cX5_howManyAheadOf 16 = .ok (.getfield 35, 3) := by decide +kernel
theorem dX5_howManyAheadOf_19 : decode cX5_howManyAheadOf 19 = .ok (.if_icmp .ge 63, 3) := by decide +kernel
theorem dX5_howManyAheadOf_22 : decode cX5_howManyAheadOf 22 = .ok (.aload_n 0, 1) := by decide +kernel
theorem dX5_howManyAheadOf_23 : decode cX5_howManyAheadOf 23 = .ok (.getfield 18, 3) := by decide +kernel
theorem dX5_howManyAheadOf_26 : decode cX5_howManyAheadOf 26 = .ok (.iload_n 3, 1) := by decide +kernel
theorem dX5_howManyAheadOf_27 : decode cX5_howManyAheadOf 27 = .ok (.iaload, 1) := by decide +kernel
theorem dX5_howManyAheadOf_28 : decode cX5_howManyAheadOf 28 = .ok (.ifCond .ne 22, 3) := by decide +kernel
theorem dX5_howManyAheadOf_31 : decode cX5_howManyAheadOf 31 = .ok (.aload_n 0, 1) := by decide +kernel
theorem dX5_howManyAheadOf_32 : decode cX5_howManyAheadOf 32 = .ok (.getfield 15, 3) := by decide +kernel
theorem dX5_howManyAheadOf_35 : decode cX5_howManyAheadOf 35 = .ok (.iload_n 3, 1) := by decide +kernel
theorem dX5_howManyAheadOf_36 : decode cX5_howManyAheadOf 36 = .ok (.iaload, 1) := by decide +kernel
theorem dX5_howManyAheadOf_37 : decode cX5_howManyAheadOf 37 = .ok (.aload_n 0, 1) := by decide +kernel
theorem dX5_howManyAheadOf_38 : decode cX5_howManyAheadOf 38 = .ok (.getfield 15, 3) := by decide +kernel
theorem dX5_howManyAheadOf_41 : decode cX5_howManyAheadOf 41 = .ok (.iload_n 1, 1) := by decide +kernel
theorem dX5_howManyAheadOf_42 : decode cX5_howManyAheadOf 42 = .ok (.iaload, 1) := by decide +kernel
theorem dX5_howManyAheadOf_43 : decode cX5_howManyAheadOf 43 = .ok (.if_icmp .ne 7, 3) := by decide +kernel
theorem dX5_howManyAheadOf_46 : decode cX5_howManyAheadOf 46 = .ok (.iconst 1, 1) := by decide +kernel
theorem dX5_howManyAheadOf_47 : decode cX5_howManyAheadOf 47 = .ok (.goto 4, 3) := by decide +kernel
theorem dX5_howManyAheadOf_50 : decode cX5_howManyAheadOf 50 = .ok (.iconst 0, 1) := by decide +kernel
theorem dX5_howManyAheadOf_51 : decode cX5_howManyAheadOf 51 = .ok (.istore 4, 2) := by decide +kernel
theorem dX5_howManyAheadOf_53 : decode cX5_howManyAheadOf 53 = .ok (.iload 4, 2) := by decide +kernel
theorem dX5_howManyAheadOf_55 : decode cX5_howManyAheadOf 55 = .ok (.ifCond .eq 21, 3) := by decide +kernel
theorem dX5_howManyAheadOf_58 : decode cX5_howManyAheadOf 58 = .ok (.aload_n 0, 1) := by decide +kernel
theorem dX5_howManyAheadOf_59 : decode cX5_howManyAheadOf 59 = .ok (.getfield 24, 3) := by decide +kernel
theorem dX5_howManyAheadOf_62 : decode cX5_howManyAheadOf 62 = .ok (.iload_n 3, 1) := by decide +kernel
theorem dX5_howManyAheadOf_63 : decode cX5_howManyAheadOf 63 = .ok (.iaload, 1) := by decide +kernel
theorem dX5_howManyAheadOf_64 : decode cX5_howManyAheadOf 64 = .ok (.aload_n 0, 1) := by decide +kernel
theorem dX5_howManyAheadOf_65 : decode cX5_howManyAheadOf 65 = .ok (.getfield 24, 3) := by decide +kernel
theorem dX5_howManyAheadOf_68 : decode cX5_howManyAheadOf 68 = .ok (.iload_n 1, 1) := by decide +kernel
theorem dX5_howManyAheadOf_69 : decode cX5_howManyAheadOf 69 = .ok (.iaload, 1) := by decide +kernel
theorem dX5_howManyAheadOf_70 : decode cX5_howManyAheadOf 70 = .ok (.if_icmp .ge 6, 3) := by decide +kernel
theorem dX5_howManyAheadOf_73 : decode cX5_howManyAheadOf 73 = .ok (.iinc 2 1, 3) := by decide +kernel
theorem dX5_howManyAheadOf_76 : decode cX5_howManyAheadOf 76 = .ok (.iinc 3 1, 3) := by decide +kernel
theorem dX5_howManyAheadOf_79 : decode cX5_howManyAheadOf 79 = .ok (.goto (-65), 3) := by decide +kernel
theorem dX5_howManyAheadOf_82 : decode cX5_howManyAheadOf 82 = .ok (.iload_n 2, 1) := by decide +kernel
theorem dX5_howManyAheadOf_83 : decode cX5_howManyAheadOf 83 = .ok (.ireturn, 1) := by decide +kernel
theorem dX5_letCome_0 : decode cX5_letCome 0 = .ok (.aload_n 0, 1) := by decide +kernel
theorem dX5_letCome_1 : decode cX5_letCome 1 = .ok (.getfield 35, 3) := by decide +kernel
theorem dX5_letCome_4 : decode cX5_letCome 4 = .ok (.bipush 9, 2) := by decide +kernel
theorem dX5_letCome_6 : decode cX5_letCome 6 = .ok (.if_icmp .lt 5, 3) := by decide +kernel
theorem dX5_letCome_9 : decode cX5_letCome 9 = .ok (.iconst (-1), 1) := by decide +kernel
theorem dX5_letCome_10 : decode cX5_letCome 10 = .ok (.ireturn, 1) := by decide +kernel
theorem dX5_letCome_11 : decode cX5_letCome 11 = .ok (.aload_n 0, 1) := by decide +kernel
theorem dX5_letCome_12 : decode cX5_letCome 12 = .ok (.getfield 35, 3) := by decide +kernel
theorem dX5_letCome_15 : decode cX5_letCome 15 = .ok (.istore_n 3, 1) := by decide +kernel
theorem dX5_letCome_16 : decode cX5_letCome 16 = .ok (.aload_n 0, 1) := by decide +kernel
theorem dX5_letCome_17 : decode cX5_letCome 17 = .ok (.dup, 1) := by decide +kernel
theorem dX5_letCome_18 : decode cX5_letCome 18 = .ok (.getfield 35, 3) := by decide +kernel
theorem dX5_letCome_21 : decode cX5_letCome 21 = .ok (.iconst 1, 1) := by decide +kernel
theorem dX5_letCome_22 : decode cX5_letCome 22 = .ok (.iadd, 1) := by decide +kernel
theorem dX5_letCome_23 : decode cX5_letCome 23 = .ok (.putfield 35, 3) := by decide +kernel
theorem dX5_letCome_26 : decode cX5_letCome 26 = .ok (.aload_n 0, 1) := by decide +kernel
theorem dX5_letCome_27 : decode cX5_letCome 27 = .ok (.getfield 9, 3) := by decide +kernel
theorem dX5_letCome_30 : decode cX5_letCome 30 = .ok (.iload_n 3, 1) := by decide +kernel
theorem dX5_letCome_31 : decode cX5_letCome 31 = .ok (.iload_n 1, 1) := by decide +kernel
theorem dX5_letCome_32 : decode cX5_letCome 32 = .ok (.iastore, 1) := by decide +kernel
theorem dX5_letCome_33 : decode cX5_letCome 33 = .ok (.aload_n 0, 1) := by decide +kernel
theorem dX5_letCome_34 : decode cX5_letCome 34 = .ok (.getfield 15, 3) := by decide +kernel
theorem dX5_letCome_37 : decode cX5_letCome 37 = .ok (.iload_n 3, 1) := by decide +kernel
theorem dX5_letCome_38 : decode cX5_letCome 38 = .ok (.iload_n 2, 1) := by decide +kernel
theorem dX5_letCome_39 : decode cX5_letCome 39 = .ok (.iastore, 1) := by decide +kernel
theorem dX5_letCome_40 : decode cX5_letCome 40 = .ok (.aload_n 0, 1) := by decide +kernel
theorem dX5_letCome_41 : decode cX5_letCome 41 = .ok (.getfield 18, 3) := by decide +kernel
theorem dX5_letCome_44 : decode cX5_letCome 44 = .ok (.iload_n 3, 1) := by decide +kernel
theorem dX5_letCome_45 : decode cX5_letCome 45 = .ok (.iconst 0, 1) := by decide +kernel
theorem dX5_letCome_46 : decode cX5_letCome 46 = .ok (.iastore, 1) := by decide +kernel
theorem dX5_letCome_47 : decode cX5_letCome 47 = .ok (.aload_n 0, 1) := by decide +kernel
theorem dX5_letCome_48 : decode cX5_letCome 48 = .ok (.getfield 21, 3) := by decide +kernel
theorem dX5_letCome_51 : decode cX5_letCome 51 = .ok (.iload_n 3, 1) := by decide +kernel
theorem dX5_letCome_52 : decode cX5_letCome 52 = .ok (.iconst 0, 1) := by decide +kernel
theorem dX5_letCome_53 : decode cX5_letCome 53 = .ok (.iastore, 1) := by decide +kernel
theorem dX5_letCome_54 : decode cX5_letCome 54 = .ok (.aload_n 0, 1) := by decide +kernel
theorem dX5_letCome_55 : decode cX5_letCome 55 = .ok (.getfield 24, 3) := by decide +kernel
theorem dX5_letCome_58 : decode cX5_letCome 58 = .ok (.iload_n 3, 1) := by decide +kernel
theorem dX5_letCome_59 : decode cX5_letCome 59 = .ok (.iload_n 3, 1) := by decide +kernel
theorem dX5_letCome_60 : decode cX5_letCome 60 = .ok (.iastore, 1) := by decide +kernel
theorem dX5_letCome_61 : decode cX5_letCome 61 = .ok (.aload_n 0, 1) := by decide +kernel
theorem dX5_letCome_62 : decode cX5_letCome 62 = .ok (.invokevirtual 75, 3) := by decide +kernel
theorem dX5_letCome_65 : decode cX5_letCome 65 = .ok (.iload_n 3, 1) := by decide +kernel
theorem dX5_letCome_66 : decode cX5_letCome 66 = .ok (.ireturn, 1) := by decide +kernel
theorem dX5_giveUp_0 : decode cX5_giveUp 0 = .ok (.aload_n 0, 1) := by decide +kernel
theorem dX5_giveUp_1 : decode cX5_giveUp 1 = .ok (.iload_n 1, 1) := by decide +kernel
theorem dX5_giveUp_2 : decode cX5_giveUp 2 = .ok (.invokevirtual 44, 3) := by decide +kernel
theorem dX5_giveUp_5 : decode cX5_giveUp 5 = .ok (.ifCond .eq 23, 3) := by decide +kernel
theorem dX5_giveUp_8 : decode cX5_giveUp 8 = .ok (.aload_n 0, 1) := by decide +kernel
theorem dX5_giveUp_9 : decode cX5_giveUp 9 = .ok (.getfield 18, 3) := by decide +kernel
theorem dX5_giveUp_12 : decode cX5_giveUp 12 = .ok (.iload_n 1, 1) := by decide +kernel
theorem dX5_giveUp_13 : decode cX5_giveUp 13 = .ok (.iaload, 1) := by decide +kernel
theorem dX5_giveUp_14 : decode cX5_giveUp 14 = .ok (.ifCond .ne 14, 3) := by decide +kernel
theorem dX5_giveUp_17 : decode cX5_giveUp 17 = .ok (.aload_n 0, 1) := by decide +kernel
theorem dX5_giveUp_18 : decode cX5_giveUp 18 = .ok (.getfield 18, 3) := by decide +kernel
theorem dX5_giveUp_21 : decode cX5_giveUp 21 = .ok (.iload_n 1, 1) := by decide +kernel
theorem dX5_giveUp_22 : decode cX5_giveUp 22 = .ok (.iconst 3, 1) := by decide +kernel
theorem dX5_giveUp_23 : decode cX5_giveUp 23 = .ok (.iastore, 1) := by decide +kernel
theorem dX5_giveUp_24 : decode cX5_giveUp 24 = .ok (.aload_n 0, 1) := by decide +kernel
theorem dX5_giveUp_25 : decode cX5_giveUp 25 = .ok (.invokevirtual 75, 3) := by decide +kernel
theorem dX5_giveUp_28 : decode cX5_giveUp 28 = .ok (.return_, 1) := by decide +kernel
theorem dX5_letAhead_0 : decode cX5_letAhead 0 = .ok (.aload_n 0, 1) := by decide +kernel
theorem dX5_letAhead_1 : decode cX5_letAhead 1 = .ok (.iload_n 1, 1) := by decide +kernel
theorem dX5_letAhead_2 : decode cX5_letAhead 2 = .ok (.invokevirtual 44, 3) := by decide +kernel
theorem dX5_letAhead_5 : decode cX5_letAhead 5 = .ok (.ifCond .eq 12, 3) := by decide +kernel
theorem dX5_letAhead_8 : decode cX5_letAhead 8 = .ok (.aload_n 0, 1) := by decide +kernel
theorem dX5_letAhead_9 : decode cX5_letAhead 9 = .ok (.getfield 18, 3) := by decide +kernel
theorem dX5_letAhead_12 : decode cX5_letAhead 12 = .ok (.iload_n 1, 1) := by decide +kernel
theorem dX5_letAhead_13 : decode cX5_letAhead 13 = .ok (.iaload, 1) := by decide +kernel
theorem dX5_letAhead_14 : decode cX5_letAhead 14 = .ok (.ifCond .eq 4, 3) := by decide +kernel
theorem dX5_letAhead_17 : decode cX5_letAhead 17 = .ok (.return_, 1) := by decide +kernel
theorem dX5_letAhead_18 : decode cX5_letAhead 18 = .ok (.aload_n 0, 1) := by decide +kernel
theorem dX5_letAhead_19 : decode cX5_letAhead 19 = .ok (.aload_n 0, 1) := by decide +kernel
theorem dX5_letAhead_20 : decode cX5_letAhead 20 = .ok (.getfield 15, 3) := by decide +kernel
theorem dX5_letAhead_23 : decode cX5_letAhead 23 = .ok (.iload_n 1, 1) := by decide +kernel
theorem dX5_letAhead_24 : decode cX5_letAhead 24 = .ok (.iaload, 1) := by decide +kernel
theorem dX5_letAhead_25 : decode cX5_letAhead 25 = .ok (.invokevirtual 78, 3) := by decide +kernel
theorem dX5_letAhead_28 : decode cX5_letAhead 28 = .ok (.istore_n 2, 1) := by decide +kernel
theorem dX5_letAhead_29 : decode cX5_letAhead 29 = .ok (.iload_n 2, 1) := by decide +kernel
theorem dX5_letAhead_30 : decode cX5_letAhead 30 = .ok (.iconst (-1), 1) := by decide +kernel
theorem dX5_letAhead_31 : decode cX5_letAhead 31 = .ok (.if_icmp .eq 26, 3) := by decide +kernel
theorem dX5_letAhead_34 : decode cX5_letAhead 34 = .ok (.iload_n 2, 1) := by decide +kernel
theorem dX5_letAhead_35 : decode cX5_letAhead 35 = .ok (.iload_n 1, 1) := by decide +kernel
theorem dX5_letAhead_36 : decode cX5_letAhead 36 = .ok (.if_icmp .eq 21, 3) := by decide +kernel
theorem dX5_letAhead_39 : decode cX5_letAhead 39 = .ok (.aload_n 0, 1) := by decide +kernel
theorem dX5_letAhead_40 : decode cX5_letAhead 40 = .ok (.getfield 24, 3) := by decide +kernel
theorem dX5_letAhead_43 : decode cX5_letAhead 43 = .ok (.iload_n 1, 1) := by decide +kernel
theorem dX5_letAhead_44 : decode cX5_letAhead 44 = .ok (.aload_n 0, 1) := by decide +kernel
theorem dX5_letAhead_45 : decode cX5_letAhead 45 = .ok (.getfield 24, 3) := by decide +kernel
theorem dX5_letAhead_48 : decode cX5_letAhead 48 = .ok (.iload_n 2, 1) := by decide +kernel
theorem dX5_letAhead_49 : decode cX5_letAhead 49 = .ok (.iaload, 1) := by decide +kernel
theorem dX5_letAhead_50 : decode cX5_letAhead 50 = .ok (.iconst 1, 1) := by decide +kernel
theorem dX5_letAhead_51 : decode cX5_letAhead 51 = .ok (.isub, 1) := by decide +kernel
theorem dX5_letAhead_52 : decode cX5_letAhead 52 = .ok (.iastore, 1) := by decide +kernel
theorem dX5_letAhead_53 : decode cX5_letAhead 53 = .ok (.aload_n 0, 1) := by decide +kernel
theorem dX5_letAhead_54 : decode cX5_letAhead 54 = .ok (.invokevirtual 75, 3) := by decide +kernel
theorem dX5_letAhead_57 : decode cX5_letAhead 57 = .ok (.return_, 1) := by decide +kernel
theorem dX5_turn_0 : decode cX5_turn 0 = .ok (.aload_n 0, 1) := by decide +kernel
theorem dX5_turn_1 : decode cX5_turn 1 = .ok (.invokevirtual 81, 3) := by decide +kernel
theorem dX5_turn_4 : decode cX5_turn 4 = .ok (.istore_n 1, 1) := by decide +kernel
theorem dX5_turn_5 : decode cX5_turn 5 = .ok (.aload_n 0, 1) := by decide +kernel
theorem dX5_turn_6 : decode cX5_turn 6 = .ok (.dup, 1) := by decide +kernel
theorem dX5_turn_7 : decode cX5_turn 7 = .ok (.getfield 31, 3) := by decide +kernel
theorem dX5_turn_10 : decode cX5_turn 10 = .ok (.iconst 1, 1) := by decide +kernel
theorem dX5_turn_11 : decode cX5_turn 11 = .ok (.iadd, 1) := by decide +kernel
theorem dX5_turn_12 : decode cX5_turn 12 = .ok (.putfield 31, 3) := by decide +kernel
theorem dX5_turn_15 : decode cX5_turn 15 = .ok (.iload_n 1, 1) := by decide +kernel
theorem dX5_turn_16 : decode cX5_turn 16 = .ok (.ifCond .eq 5, 3) := by decide +kernel
theorem dX5_turn_19 : decode cX5_turn 19 = .ok (.iconst 0, 1) := by decide +kernel
theorem dX5_turn_20 : decode cX5_turn 20 = .ok (.ireturn, 1) := by decide +kernel
theorem dX5_turn_21 : decode cX5_turn 21 = .ok (.iconst 0, 1) := by decide +kernel
theorem dX5_turn_22 : decode cX5_turn 22 = .ok (.istore_n 2, 1) := by decide +kernel
theorem dX5_turn_23 : decode cX5_turn 23 = .ok (.iconst 0, 1) := by decide +kernel
theorem dX5_turn_24 : decode cX5_turn 24 = .ok (.istore_n 3, 1) := by decide +kernel
theorem dX5_turn_25 : decode cX5_turn 25 = .ok (.iload_n 3, 1) := by decide +kernel
theorem dX5_turn_26 : decode cX5_turn 26 = .ok (.aload_n 0, 1) := by decide +kernel
theorem dX5_turn_27 : decode cX5_turn 27 = .ok (.getfield 35, 3) := by decide +kernel
theorem dX5_turn_30 : decode cX5_turn 30 = .ok (.if_icmp .ge 30, 3) := by decide +kernel
theorem dX5_turn_33 : decode cX5_turn 33 = .ok (.aload_n 0, 1) := by decide +kernel
theorem dX5_turn_34 : decode cX5_turn 34 = .ok (.getfield 18, 3) := by decide +kernel
theorem dX5_turn_37 : decode cX5_turn 37 = .ok (.iload_n 3, 1) := by decide +kernel
theorem dX5_turn_38 : decode cX5_turn 38 = .ok (.iaload, 1) := by decide +kernel
theorem dX5_turn_39 : decode cX5_turn 39 = .ok (.iconst 1, 1) := by decide +kernel
theorem dX5_turn_40 : decode cX5_turn 40 = .ok (.if_icmp .ne 14, 3) := by decide +kernel
theorem dX5_turn_43 : decode cX5_turn 43 = .ok (.aload_n 0, 1) := by decide +kernel
theorem dX5_turn_44 : decode cX5_turn 44 = .ok (.iload_n 3, 1) := by decide +kernel
theorem dX5_turn_45 : decode cX5_turn 45 = .ok (.invokevirtual 85, 3) := by decide +kernel
theorem dX5_turn_48 : decode cX5_turn 48 = .ok (.ifCond .eq 6, 3) := by decide +kernel
theorem dX5_turn_51 : decode cX5_turn 51 = .ok (.iinc 2 1, 3) := by decide +kernel
theorem dX5_turn_54 : decode cX5_turn 54 = .ok (.iinc 3 1, 3) := by decide +kernel
theorem dX5_turn_57 : decode cX5_turn 57 = .ok (.goto (-32), 3) := by decide +kernel
theorem dX5_turn_60 : decode cX5_turn 60 = .ok (.aload_n 0, 1) := by decide +kernel
theorem dX5_turn_61 : decode cX5_turn 61 = .ok (.invokevirtual 75, 3) := by decide +kernel
theorem dX5_turn_64 : decode cX5_turn 64 = .ok (.iload_n 2, 1) := by decide +kernel
theorem dX5_turn_65 : decode cX5_turn 65 = .ok (.ireturn, 1) := by decide +kernel
theorem dX5_carry_0 : decode cX5_carry 0 = .ok (.aload_n 0, 1) := by decide +kernel
theorem dX5_carry_1 : decode cX5_carry 1 = .ok (.getfield 21, 3) := by decide +kernel
theorem dX5_carry_4 : decode cX5_carry 4 = .ok (.iload_n 1, 1) := by decide +kernel
theorem dX5_carry_5 : decode cX5_carry 5 = .ok (.aload_n 0, 1) := by decide +kernel
theorem dX5_carry_6 : decode cX5_carry 6 = .ok (.getfield 27, 3) := by decide +kernel
theorem dX5_carry_9 : decode cX5_carry 9 = .ok (.aload_n 0, 1) := by decide +kernel
theorem dX5_carry_10 : decode cX5_carry 10 = .ok (.getfield 21, 3) := by decide +kernel
theorem dX5_carry_13 : decode cX5_carry 13 = .ok (.iload_n 1, 1) := by decide +kernel
theorem dX5_carry_14 : decode cX5_carry 14 = .ok (.iaload, 1) := by decide +kernel
theorem dX5_carry_15 : decode cX5_carry 15 = .ok (.invokevirtual 88, 3) := by decide +kernel
theorem dX5_carry_18 : decode cX5_carry 18 = .ok (.iastore, 1) := by decide +kernel
theorem dX5_carry_19 : decode cX5_carry 19 = .ok (.aload_n 0, 1) := by decide +kernel
theorem dX5_carry_20 : decode cX5_carry 20 = .ok (.getfield 21, 3) := by decide +kernel
theorem dX5_carry_23 : decode cX5_carry 23 = .ok (.iload_n 1, 1) := by decide +kernel
theorem dX5_carry_24 : decode cX5_carry 24 = .ok (.iaload, 1) := by decide +kernel
theorem dX5_carry_25 : decode cX5_carry 25 = .ok (.aload_n 0, 1) := by decide +kernel
theorem dX5_carry_26 : decode cX5_carry 26 = .ok (.getfield 27, 3) := by decide +kernel
theorem dX5_carry_29 : decode cX5_carry 29 = .ok (.iconst 1, 1) := by decide +kernel
theorem dX5_carry_30 : decode cX5_carry 30 = .ok (.aload_n 0, 1) := by decide +kernel
theorem dX5_carry_31 : decode cX5_carry 31 = .ok (.getfield 15, 3) := by decide +kernel
theorem dX5_carry_34 : decode cX5_carry 34 = .ok (.iload_n 1, 1) := by decide +kernel
theorem dX5_carry_35 : decode cX5_carry 35 = .ok (.iaload, 1) := by decide +kernel
theorem dX5_carry_36 : decode cX5_carry 36 = .ok (.isub, 1) := by decide +kernel
theorem dX5_carry_37 : decode cX5_carry 37 = .ok (.invokevirtual 91, 3) := by decide +kernel
theorem dX5_carry_40 : decode cX5_carry 40 = .ok (.if_icmp .ne 7, 3) := by decide +kernel
theorem dX5_carry_43 : decode cX5_carry 43 = .ok (.iconst 1, 1) := by decide +kernel
theorem dX5_carry_44 : decode cX5_carry 44 = .ok (.goto 4, 3) := by decide +kernel
theorem dX5_carry_47 : decode cX5_carry 47 = .ok (.iconst 0, 1) := by decide +kernel
theorem dX5_carry_48 : decode cX5_carry 48 = .ok (.istore_n 2, 1) := by decide +kernel
theorem dX5_carry_49 : decode cX5_carry 49 = .ok (.iload_n 2, 1) := by decide +kernel
theorem dX5_carry_50 : decode cX5_carry 50 = .ok (.ifCond .eq 10, 3) := by decide +kernel
theorem dX5_carry_53 : decode cX5_carry 53 = .ok (.aload_n 0, 1) := by decide +kernel
theorem dX5_carry_54 : decode cX5_carry 54 = .ok (.getfield 18, 3) := by decide +kernel
theorem dX5_carry_57 : decode cX5_carry 57 = .ok (.iload_n 1, 1) := by decide +kernel
theorem dX5_carry_58 : decode cX5_carry 58 = .ok (.iconst 2, 1) := by decide +kernel
theorem dX5_carry_59 : decode cX5_carry 59 = .ok (.iastore, 1) := by decide +kernel
theorem dX5_carry_60 : decode cX5_carry 60 = .ok (.iload_n 2, 1) := by decide +kernel
theorem dX5_carry_61 : decode cX5_carry 61 = .ok (.ireturn, 1) := by decide +kernel
theorem dX5_fill_0 : decode cX5_fill 0 = .ok (.iconst 0, 1) := by decide +kernel
theorem dX5_fill_1 : decode cX5_fill 1 = .ok (.istore_n 1, 1) := by decide +kernel
theorem dX5_fill_2 : decode cX5_fill 2 = .ok (.iload_n 1, 1) := by decide +kernel
theorem dX5_fill_3 : decode cX5_fill 3 = .ok (.iconst 1, 1) := by decide +kernel
theorem dX5_fill_4 : decode cX5_fill 4 = .ok (.if_icmp .gt 110, 3) := by decide +kernel
theorem dX5_fill_7 : decode cX5_fill 7 = .ok (.aload_n 0, 1) := by decide +kernel
theorem dX5_fill_8 : decode cX5_fill 8 = .ok (.getfield 27, 3) := by decide +kernel
theorem dX5_fill_11 : decode cX5_fill 11 = .ok (.iload_n 1, 1) := by decide +kernel
theorem dX5_fill_12 : decode cX5_fill 12 = .ok (.invokevirtual 91, 3) := by decide +kernel
theorem dX5_fill_15 : decode cX5_fill 15 = .ok (.istore_n 2, 1) := by decide +kernel
theorem dX5_fill_16 : decode cX5_fill 16 = .ok (.aload_n 0, 1) := by decide +kernel
theorem dX5_fill_17 : decode cX5_fill 17 = .ok (.getfield 27, 3) := by decide +kernel
theorem dX5_fill_20 : decode cX5_fill 20 = .ok (.getfield 94, 3) := by decide +kernel
theorem dX5_fill_23 : decode cX5_fill 23 = .ok (.aload_n 0, 1) := by decide +kernel
theorem dX5_fill_24 : decode cX5_fill 24 = .ok (.iload_n 2, 1) := by decide +kernel
theorem dX5_fill_25 : decode cX5_fill 25 = .ok (.invokevirtual 97, 3) := by decide +kernel
theorem dX5_fill_28 : decode cX5_fill 28 = .ok (.isub, 1) := by decide +kernel
theorem dX5_fill_29 : decode cX5_fill 29 = .ok (.istore_n 3, 1) := by decide +kernel
theorem dX5_fill_30 : decode cX5_fill 30 = .ok (.aload_n 0, 1) := by decide +kernel
theorem dX5_fill_31 : decode cX5_fill 31 = .ok (.iload_n 1, 1) := by decide +kernel
theorem dX5_fill_32 : decode cX5_fill 32 = .ok (.invokevirtual 78, 3) := by decide +kernel
theorem dX5_fill_35 : decode cX5_fill 35 = .ok (.istore 4, 2) := by decide +kernel
theorem dX5_fill_37 : decode cX5_fill 37 = .ok (.iconst 0, 1) := by decide +kernel
theorem dX5_fill_38 : decode cX5_fill 38 = .ok (.istore 5, 2) := by decide +kernel
theorem dX5_fill_40 : decode cX5_fill 40 = .ok (.iload 5, 2) := by decide +kernel
theorem dX5_fill_42 : decode cX5_fill 42 = .ok (.aload_n 0, 1) := by decide +kernel
theorem dX5_fill_43 : decode cX5_fill 43 = .ok (.getfield 35, 3) := by decide +kernel
theorem dX5_fill_46 : decode cX5_fill 46 = .ok (.if_icmp .ge 62, 3) := by decide +kernel
theorem dX5_fill_49 : decode cX5_fill 49 = .ok (.iload 4, 2) := by decide +kernel
theorem dX5_fill_51 : decode cX5_fill 51 = .ok (.iconst (-1), 1) := by decide +kernel
theorem dX5_fill_52 : decode cX5_fill 52 = .ok (.if_icmp .eq 56, 3) := by decide +kernel
theorem dX5_fill_55 : decode cX5_fill 55 = .ok (.iload_n 3, 1) := by decide +kernel
theorem dX5_fill_56 : decode cX5_fill 56 = .ok (.aload_n 0, 1) := by decide +kernel
theorem dX5_fill_57 : decode cX5_fill 57 = .ok (.getfield 27, 3) := by decide +kernel
theorem dX5_fill_60 : decode cX5_fill 60 = .ok (.aload_n 0, 1) := by decide +kernel
theorem dX5_fill_61 : decode cX5_fill 61 = .ok (.getfield 9, 3) := by decide +kernel
theorem dX5_fill_64 : decode cX5_fill 64 = .ok (.iload 4, 2) := by decide +kernel
theorem dX5_fill_66 : decode cX5_fill 66 = .ok (.iaload, 1) := by decide +kernel
theorem dX5_fill_67 : decode cX5_fill 67 = .ok (.invokevirtual 48, 3) := by decide +kernel
theorem dX5_fill_70 : decode cX5_fill 70 = .ok (.isub, 1) := by decide +kernel
theorem dX5_fill_71 : decode cX5_fill 71 = .ok (.istore_n 3, 1) := by decide +kernel
theorem dX5_fill_72 : decode cX5_fill 72 = .ok (.iload_n 3, 1) := by decide +kernel
theorem dX5_fill_73 : decode cX5_fill 73 = .ok (.ifCond .ge 6, 3) := by decide +kernel
theorem dX5_fill_76 : decode cX5_fill 76 = .ok (.goto 32, 3) := by decide +kernel
theorem dX5_fill_79 : decode cX5_fill 79 = .ok (.aload_n 0, 1) := by decide +kernel
theorem dX5_fill_80 : decode cX5_fill 80 = .ok (.getfield 18, 3) := by decide +kernel
theorem dX5_fill_83 : decode cX5_fill 83 = .ok (.iload 4, 2) := by decide +kernel
theorem dX5_fill_85 : decode cX5_fill 85 = .ok (.iconst 1, 1) := by decide +kernel
theorem dX5_fill_86 : decode cX5_fill 86 = .ok (.iastore, 1) := by decide +kernel
theorem dX5_fill_87 : decode cX5_fill 87 = .ok (.aload_n 0, 1) := by decide +kernel
theorem dX5_fill_88 : decode cX5_fill 88 = .ok (.getfield 21, 3) := by decide +kernel
theorem dX5_fill_91 : decode cX5_fill 91 = .ok (.iload 4, 2) := by decide +kernel
theorem dX5_fill_93 : decode cX5_fill 93 = .ok (.iload_n 2, 1) := by decide +kernel
theorem dX5_fill_94 : decode cX5_fill 94 = .ok (.iastore, 1) := by decide +kernel
theorem dX5_fill_95 : decode cX5_fill 95 = .ok (.aload_n 0, 1) := by decide +kernel
theorem dX5_fill_96 : decode cX5_fill 96 = .ok (.iload_n 1, 1) := by decide +kernel
theorem dX5_fill_97 : decode cX5_fill 97 = .ok (.invokevirtual 78, 3) := by decide +kernel
theorem dX5_fill_100 : decode cX5_fill 100 = .ok (.istore 4, 2) := by decide +kernel
theorem dX5_fill_102 : decode cX5_fill 102 = .ok (.iinc 5 1, 3) := by decide +kernel
theorem dX5_fill_105 : decode cX5_fill 105 = .ok (.goto (-65), 3) := by decide +kernel
theorem dX5_fill_108 : decode cX5_fill 108 = .ok (.iinc 1 1, 3) := by decide +kernel
theorem dX5_fill_111 : decode cX5_fill 111 = .ok (.goto (-109), 3) := by decide +kernel
theorem dX5_fill_114 : decode cX5_fill 114 = .ok (.return_, 1) := by decide +kernel
theorem dX5_runUntilThrough_0 : decode cX5_runUntilThrough 0 = .ok (.iconst 0, 1) := by decide +kernel
theorem dX5_runUntilThrough_1 : decode cX5_runUntilThrough 1 = .ok (.istore_n 2, 1) := by decide +kernel
theorem dX5_runUntilThrough_2 : decode cX5_runUntilThrough 2 = .ok (.iload_n 2, 1) := by decide +kernel
theorem dX5_runUntilThrough_3 : decode cX5_runUntilThrough 3 = .ok (.bipush 60, 2) := by decide +kernel
theorem dX5_runUntilThrough_5 : decode cX5_runUntilThrough 5 = .ok (.if_icmp .gt 44, 3) := by decide +kernel
theorem dX5_runUntilThrough_8 : decode cX5_runUntilThrough 8 = .ok (.aload_n 0, 1) := by decide +kernel
theorem dX5_runUntilThrough_9 : decode cX5_runUntilThrough 9 = .ok (.iload_n 1, 1) := by decide +kernel
theorem dX5_runUntilThrough_10 : decode cX5_runUntilThrough 10 = .ok (.invokevirtual 44, 3) := by decide +kernel
theorem dX5_runUntilThrough_13 : decode cX5_runUntilThrough 13 = .ok (.ifCond .eq 36, 3) := by decide +kernel
theorem dX5_runUntilThrough_16 : decode cX5_runUntilThrough 16 = .ok (.aload_n 0, 1) := by decide +kernel
theorem dX5_runUntilThrough_17 : decode cX5_runUntilThrough 17 = .ok (.getfield 18, 3) := by decide +kernel
theorem dX5_runUntilThrough_20 : decode cX5_runUntilThrough 20 = .ok (.iload_n 1, 1) := by decide +kernel
theorem dX5_runUntilThrough_21 : decode cX5_runUntilThrough 21 = .ok (.iaload, 1) := by decide +kernel
theorem dX5_runUntilThrough_22 : decode cX5_runUntilThrough 22 = .ok (.iconst 2, 1) := by decide +kernel
theorem dX5_runUntilThrough_23 : decode cX5_runUntilThrough 23 = .ok (.if_icmp .ne 5, 3) := by decide +kernel
theorem dX5_runUntilThrough_26 : decode cX5_runUntilThrough 26 = .ok (.iload_n 2, 1) := by decide +kernel
theorem dX5_runUntilThrough_27 : decode cX5_runUntilThrough 27 = .ok (.ireturn, 1) := by decide +kernel
theorem dX5_runUntilThrough_28 : decode cX5_runUntilThrough 28 = .ok (.aload_n 0, 1) := by decide +kernel
theorem dX5_runUntilThrough_29 : decode cX5_runUntilThrough 29 = .ok (.invokevirtual 81, 3) := by decide +kernel
theorem dX5_runUntilThrough_32 : decode cX5_runUntilThrough 32 = .ok (.ifCond .eq 6, 3) := by decide +kernel
theorem dX5_runUntilThrough_35 : decode cX5_runUntilThrough 35 = .ok (.bipush 61, 2) := by decide +kernel
theorem dX5_runUntilThrough_37 : decode cX5_runUntilThrough 37 = .ok (.ireturn, 1) := by decide +kernel
theorem dX5_runUntilThrough_38 : decode cX5_runUntilThrough 38 = .ok (.aload_n 0, 1) := by decide +kernel
theorem dX5_runUntilThrough_39 : decode cX5_runUntilThrough 39 = .ok (.invokevirtual 100, 3) := by decide +kernel
theorem dX5_runUntilThrough_42 : decode cX5_runUntilThrough 42 = .ok (.pop, 1) := by decide +kernel
theorem dX5_runUntilThrough_43 : decode cX5_runUntilThrough 43 = .ok (.iinc 2 1, 3) := by decide +kernel
theorem dX5_runUntilThrough_46 : decode cX5_runUntilThrough 46 = .ok (.goto (-44), 3) := by decide +kernel
theorem dX5_runUntilThrough_49 : decode cX5_runUntilThrough 49 = .ok (.bipush 61, 2) := by decide +kernel
theorem dX5_runUntilThrough_51 : decode cX5_runUntilThrough 51 = .ok (.ireturn, 1) := by decide +kernel
theorem dX5_runUntilItSticks_0 : decode cX5_runUntilItSticks 0 = .ok (.iconst 0, 1) := by decide +kernel
theorem dX5_runUntilItSticks_1 : decode cX5_runUntilItSticks 1 = .ok (.istore_n 1, 1) := by decide +kernel
theorem dX5_runUntilItSticks_2 : decode cX5_runUntilItSticks 2 = .ok (.iload_n 1, 1) := by decide +kernel
theorem dX5_runUntilItSticks_3 : decode cX5_runUntilItSticks 3 = .ok (.bipush 60, 2) := by decide +kernel
theorem dX5_runUntilItSticks_5 : decode cX5_runUntilItSticks 5 = .ok (.if_icmp .gt 23, 3) := by decide +kernel
theorem dX5_runUntilItSticks_8 : decode cX5_runUntilItSticks 8 = .ok (.aload_n 0, 1) := by decide +kernel
theorem dX5_runUntilItSticks_9 : decode cX5_runUntilItSticks 9 = .ok (.invokevirtual 81, 3) := by decide +kernel
theorem dX5_runUntilItSticks_12 : decode cX5_runUntilItSticks 12 = .ok (.ifCond .eq 5, 3) := by decide +kernel
theorem dX5_runUntilItSticks_15 : decode cX5_runUntilItSticks 15 = .ok (.iload_n 1, 1) := by decide +kernel
theorem dX5_runUntilItSticks_16 : decode cX5_runUntilItSticks 16 = .ok (.ireturn, 1) := by decide +kernel
theorem dX5_runUntilItSticks_17 : decode cX5_runUntilItSticks 17 = .ok (.aload_n 0, 1) := by decide +kernel
theorem dX5_runUntilItSticks_18 : decode cX5_runUntilItSticks 18 = .ok (.invokevirtual 100, 3) := by decide +kernel
theorem dX5_runUntilItSticks_21 : decode cX5_runUntilItSticks 21 = .ok (.pop, 1) := by decide +kernel
theorem dX5_runUntilItSticks_22 : decode cX5_runUntilItSticks 22 = .ok (.iinc 1 1, 3) := by decide +kernel
theorem dX5_runUntilItSticks_25 : decode cX5_runUntilItSticks 25 = .ok (.goto (-23), 3) := by decide +kernel
theorem dX5_runUntilItSticks_28 : decode cX5_runUntilItSticks 28 = .ok (.bipush 61, 2) := by decide +kernel
theorem dX5_runUntilItSticks_30 : decode cX5_runUntilItSticks 30 = .ok (.ireturn, 1) := by decide +kernel
theorem dX5_runUntilEmpty_0 : decode cX5_runUntilEmpty 0 = .ok (.iconst 0, 1) := by decide +kernel
theorem dX5_runUntilEmpty_1 : decode cX5_runUntilEmpty 1 = .ok (.istore_n 1, 1) := by decide +kernel
theorem dX5_runUntilEmpty_2 : decode cX5_runUntilEmpty 2 = .ok (.iload_n 1, 1) := by decide +kernel
theorem dX5_runUntilEmpty_3 : decode cX5_runUntilEmpty 3 = .ok (.bipush 60, 2) := by decide +kernel
theorem dX5_runUntilEmpty_5 : decode cX5_runUntilEmpty 5 = .ok (.if_icmp .gt 42, 3) := by decide +kernel
theorem dX5_runUntilEmpty_8 : decode cX5_runUntilEmpty 8 = .ok (.aload_n 0, 1) := by decide +kernel
theorem dX5_runUntilEmpty_9 : decode cX5_runUntilEmpty 9 = .ok (.iconst 0, 1) := by decide +kernel
theorem dX5_runUntilEmpty_10 : decode cX5_runUntilEmpty 10 = .ok (.invokevirtual 57, 3) := by decide +kernel
theorem dX5_runUntilEmpty_13 : decode cX5_runUntilEmpty 13 = .ok (.ifCond .ne 13, 3) := by decide +kernel
theorem dX5_runUntilEmpty_16 : decode cX5_runUntilEmpty 16 = .ok (.aload_n 0, 1) := by decide +kernel
theorem dX5_runUntilEmpty_17 : decode cX5_runUntilEmpty 17 = .ok (.iconst 1, 1) := by decide +kernel
theorem dX5_runUntilEmpty_18 : decode cX5_runUntilEmpty 18 = .ok (.invokevirtual 57, 3) := by decide +kernel
theorem dX5_runUntilEmpty_21 : decode cX5_runUntilEmpty 21 = .ok (.ifCond .ne 5, 3) := by decide +kernel
theorem dX5_runUntilEmpty_24 : decode cX5_runUntilEmpty 24 = .ok (.iload_n 1, 1) := by decide +kernel
theorem dX5_runUntilEmpty_25 : decode cX5_runUntilEmpty 25 = .ok (.ireturn, 1) := by decide +kernel
theorem dX5_runUntilEmpty_26 : decode cX5_runUntilEmpty 26 = .ok (.aload_n 0, 1) := by decide +kernel
theorem dX5_runUntilEmpty_27 : decode cX5_runUntilEmpty 27 = .ok (.invokevirtual 81, 3) := by decide +kernel
theorem dX5_runUntilEmpty_30 : decode cX5_runUntilEmpty 30 = .ok (.ifCond .eq 6, 3) := by decide +kernel
theorem dX5_runUntilEmpty_33 : decode cX5_runUntilEmpty 33 = .ok (.bipush 61, 2) := by decide +kernel
theorem dX5_runUntilEmpty_35 : decode cX5_runUntilEmpty 35 = .ok (.ireturn, 1) := by decide +kernel
theorem dX5_runUntilEmpty_36 : decode cX5_runUntilEmpty 36 = .ok (.aload_n 0, 1) := by decide +kernel
theorem dX5_runUntilEmpty_37 : decode cX5_runUntilEmpty 37 = .ok (.invokevirtual 100, 3) := by decide +kernel
theorem dX5_runUntilEmpty_40 : decode cX5_runUntilEmpty 40 = .ok (.pop, 1) := by decide +kernel
theorem dX5_runUntilEmpty_41 : decode cX5_runUntilEmpty 41 = .ok (.iinc 1 1, 3) := by decide +kernel
theorem dX5_runUntilEmpty_44 : decode cX5_runUntilEmpty 44 = .ok (.goto (-42), 3) := by decide +kernel
theorem dX5_runUntilEmpty_47 : decode cX5_runUntilEmpty 47 = .ok (.bipush 61, 2) := by decide +kernel
theorem dX5_runUntilEmpty_49 : decode cX5_runUntilEmpty 49 = .ok (.ireturn, 1) := by decide +kernel
theorem dX6_init_0 : decode cX6_init 0 = .ok (.aload_n 0, 1) := by decide +kernel
theorem dX6_init_1 : decode cX6_init 1 = .ok (.invokespecial 3, 3) := by decide +kernel
theorem dX6_init_4 : decode cX6_init 4 = .ok (.aload_n 0, 1) := by decide +kernel
theorem dX6_init_5 : decode cX6_init 5 = .ok (.bipush 10, 2) := by decide +kernel
theorem dX6_init_7 : decode cX6_init 7 = .ok (.anewarray 9, 3) := by decide +kernel
theorem dX6_init_10 : decode cX6_init 10 = .ok (.putfield 11, 3) := by decide +kernel
theorem dX6_init_13 : decode cX6_init 13 = .ok (.iconst 0, 1) := by decide +kernel
theorem dX6_init_14 : decode cX6_init 14 = .ok (.istore_n 2, 1) := by decide +kernel
theorem dX6_init_15 : decode cX6_init 15 = .ok (.iload_n 2, 1) := by decide +kernel
theorem dX6_init_16 : decode cX6_init 16 = .ok (.bipush 10, 2) := by decide +kernel
theorem dX6_init_18 : decode cX6_init 18 = .ok (.if_icmp .ge 23, 3) := by decide +kernel
theorem dX6_init_21 : decode cX6_init 21 = .ok (.aload_n 0, 1) := by decide +kernel
theorem dX6_init_22 : decode cX6_init 22 = .ok (.getfield 11, 3) := by decide +kernel
theorem dX6_init_25 : decode cX6_init 25 = .ok (.iload_n 2, 1) := by decide +kernel
theorem dX6_init_26 : decode cX6_init 26 = .ok (.new 9, 3) := by decide +kernel
theorem dX6_init_29 : decode cX6_init 29 = .ok (.dup, 1) := by decide +kernel
theorem dX6_init_30 : decode cX6_init 30 = .ok (.aload_n 1, 1) := by decide +kernel
theorem dX6_init_31 : decode cX6_init 31 = .ok (.invokespecial 17, 3) := by decide +kernel
theorem dX6_init_34 : decode cX6_init 34 = .ok (.aastore, 1) := by decide +kernel
theorem dX6_init_35 : decode cX6_init 35 = .ok (.iinc 2 1, 3) := by decide +kernel
theorem dX6_init_38 : decode cX6_init 38 = .ok (.goto (-23), 3) := by decide +kernel
theorem dX6_init_41 : decode cX6_init 41 = .ok (.return_, 1) := by decide +kernel
theorem dX6_remember_0 : decode cX6_remember 0 = .ok (.aload_n 0, 1) := by decide +kernel
theorem dX6_remember_1 : decode cX6_remember 1 = .ok (.getfield 11, 3) := by decide +kernel
theorem dX6_remember_4 : decode cX6_remember 4 = .ok (.aload_n 0, 1) := by decide +kernel
theorem dX6_remember_5 : decode cX6_remember 5 = .ok (.getfield 20, 3) := by decide +kernel
theorem dX6_remember_8 : decode cX6_remember 8 = .ok (.aload_n 0, 1) := by decide +kernel
theorem dX6_remember_9 : decode cX6_remember 9 = .ok (.getfield 24, 3) := by decide +kernel
theorem dX6_remember_12 : decode cX6_remember 12 = .ok (.iadd, 1) := by decide +kernel
theorem dX6_remember_13 : decode cX6_remember 13 = .ok (.bipush 10, 2) := by decide +kernel
theorem dX6_remember_15 : decode cX6_remember 15 = .ok (.irem, 1) := by decide +kernel
theorem dX6_remember_16 : decode cX6_remember 16 = .ok (.aaload, 1) := by decide +kernel
theorem dX6_remember_17 : decode cX6_remember 17 = .ok (.aload_n 1, 1) := by decide +kernel
theorem dX6_remember_18 : decode cX6_remember 18 = .ok (.invokevirtual 27, 3) := by decide +kernel
theorem dX6_remember_21 : decode cX6_remember 21 = .ok (.aload_n 0, 1) := by decide +kernel
theorem dX6_remember_22 : decode cX6_remember 22 = .ok (.getfield 24, 3) := by decide +kernel
theorem dX6_remember_25 : decode cX6_remember 25 = .ok (.bipush 10, 2) := by decide +kernel
theorem dX6_remember_27 : decode cX6_remember 27 = .ok (.if_icmp .ge 16, 3) := by decide +kernel
theorem dX6_remember_30 : decode cX6_remember 30 = .ok (.aload_n 0, 1) := by decide +kernel
theorem dX6_remember_31 : decode cX6_remember 31 = .ok (.dup, 1) := by decide +kernel
theorem dX6_remember_32 : decode cX6_remember 32 = .ok (.getfield 24, 3) := by decide +kernel
theorem dX6_remember_35 : decode cX6_remember 35 = .ok (.iconst 1, 1) := by decide +kernel
theorem dX6_remember_36 : decode cX6_remember 36 = .ok (.iadd, 1) := by decide +kernel
theorem dX6_remember_37 : decode cX6_remember 37 = .ok (.putfield 24, 3) := by decide +kernel
theorem dX6_remember_40 : decode cX6_remember 40 = .ok (.goto 16, 3) := by decide +kernel
theorem dX6_remember_43 : decode cX6_remember 43 = .ok (.aload_n 0, 1) := by decide +kernel
theorem dX6_remember_44 : decode cX6_remember 44 = .ok (.aload_n 0, 1) := by decide +kernel
theorem dX6_remember_45 : decode cX6_remember 45 = .ok (.getfield 20, 3) := by decide +kernel
theorem dX6_remember_48 : decode cX6_remember 48 = .ok (.iconst 1, 1) := by decide +kernel
theorem dX6_remember_49 : decode cX6_remember 49 = .ok (.iadd, 1) := by decide +kernel
theorem dX6_remember_50 : decode cX6_remember 50 = .ok (.bipush 10, 2) := by decide +kernel
theorem dX6_remember_52 : decode cX6_remember 52 = .ok (.irem, 1) := by decide +kernel
theorem dX6_remember_53 : decode cX6_remember 53 = .ok (.putfield 20, 3) := by decide +kernel
theorem dX6_remember_56 : decode cX6_remember 56 = .ok (.return_, 1) := by decide +kernel
theorem dX6_recall_0 : decode cX6_recall 0 = .ok (.aload_n 0, 1) := by decide +kernel
theorem dX6_recall_1 : decode cX6_recall 1 = .ok (.getfield 24, 3) := by decide +kernel
theorem dX6_recall_4 : decode cX6_recall 4 = .ok (.ifCond .le 34, 3) := by decide +kernel
theorem dX6_recall_7 : decode cX6_recall 7 = .ok (.aload_n 0, 1) := by decide +kernel
theorem dX6_recall_8 : decode cX6_recall 8 = .ok (.dup, 1) := by decide +kernel
theorem dX6_recall_9 : decode cX6_recall 9 = .ok (.getfield 24, 3) := by decide +kernel
theorem dX6_recall_12 : decode cX6_recall 12 = .ok (.iconst 1, 1) := by decide +kernel
theorem dX6_recall_13 : decode cX6_recall 13 = .ok (.isub, 1) := by decide +kernel
theorem dX6_recall_14 : decode cX6_recall 14 = .ok (.putfield 24, 3) := by decide +kernel
theorem dX6_recall_17 : decode cX6_recall 17 = .ok (.aload_n 1, 1) := by decide +kernel
theorem dX6_recall_18 : decode cX6_recall 18 = .ok (.aload_n 0, 1) := by decide +kernel
theorem dX6_recall_19 : decode cX6_recall 19 = .ok (.getfield 11, 3) := by decide +kernel
theorem dX6_recall_22 : decode cX6_recall 22 = .ok (.aload_n 0, 1) := by decide +kernel
theorem dX6_recall_23 : decode cX6_recall 23 = .ok (.getfield 20, 3) := by decide +kernel
theorem dX6_recall_26 : decode cX6_recall 26 = .ok (.aload_n 0, 1) := by decide +kernel
theorem dX6_recall_27 : decode cX6_recall 27 = .ok (.getfield 24, 3) := by decide +kernel
theorem dX6_recall_30 : decode cX6_recall 30 = .ok (.iadd, 1) := by decide +kernel
theorem dX6_recall_31 : decode cX6_recall 31 = .ok (.bipush 10, 2) := by decide +kernel
theorem dX6_recall_33 : decode cX6_recall 33 = .ok (.irem, 1) := by decide +kernel
theorem dX6_recall_34 : decode cX6_recall 34 = .ok (.aaload, 1) := by decide +kernel
theorem dX6_recall_35 : decode cX6_recall 35 = .ok (.invokevirtual 27, 3) := by decide +kernel
theorem dX6_recall_38 : decode cX6_recall 38 = .ok (.return_, 1) := by decide +kernel
theorem dX7_init_0 : decode cX7_init 0 = .ok (.aload_n 0, 1) := by decide +kernel
theorem dX7_init_1 : decode cX7_init 1 = .ok (.invokespecial 3, 3) := by decide +kernel
theorem dX7_init_4 : decode cX7_init 4 = .ok (.aload_n 0, 1) := by decide +kernel
theorem dX7_init_5 : decode cX7_init 5 = .ok (.bipush 6, 2) := by decide +kernel
theorem dX7_init_7 : decode cX7_init 7 = .ok (.newarray .int, 2) := by decide +kernel
theorem dX7_init_9 : decode cX7_init 9 = .ok (.putfield 9, 3) := by decide +kernel
theorem dX7_init_12 : decode cX7_init 12 = .ok (.aload_n 0, 1) := by decide +kernel
theorem dX7_init_13 : decode cX7_init 13 = .ok (.bipush 6, 2) := by decide +kernel
theorem dX7_init_15 : decode cX7_init 15 = .ok (.newarray .int, 2) := by decide +kernel
theorem dX7_init_17 : decode cX7_init 17 = .ok (.putfield 15, 3) := by decide +kernel
theorem dX7_init_20 : decode cX7_init 20 = .ok (.aload_n 0, 1) := by decide +kernel
theorem dX7_init_21 : decode cX7_init 21 = .ok (.invokevirtual 18, 3) := by decide +kernel
theorem dX7_init_24 : decode cX7_init 24 = .ok (.return_, 1) := by decide +kernel
theorem dX7_setFirst_0 : decode cX7_setFirst 0 = .ok (.aload_n 0, 1) := by decide +kernel
theorem dX7_setFirst_1 : decode cX7_setFirst 1 = .ok (.iconst 4, 1) := by decide +kernel
theorem dX7_setFirst_2 : decode cX7_setFirst 2 = .ok (.putfield 21, 3) := by decide +kernel
theorem dX7_setFirst_5 : decode cX7_setFirst 5 = .ok (.aload_n 0, 1) := by decide +kernel
theorem dX7_setFirst_6 : decode cX7_setFirst 6 = .ok (.iconst 2, 1) := by decide +kernel
theorem dX7_setFirst_7 : decode cX7_setFirst 7 = .ok (.putfield 25, 3) := by decide +kernel
theorem dX7_setFirst_10 : decode cX7_setFirst 10 = .ok (.aload_n 0, 1) := by decide +kernel
theorem dX7_setFirst_11 : decode cX7_setFirst 11 = .ok (.iconst 3, 1) := by decide +kernel
theorem dX7_setFirst_12 : decode cX7_setFirst 12 = .ok (.putfield 28, 3) := by decide +kernel
theorem dX7_setFirst_15 : decode cX7_setFirst 15 = .ok (.aload_n 0, 1) := by decide +kernel
theorem dX7_setFirst_16 : decode cX7_setFirst 16 = .ok (.iconst 0, 1) := by decide +kernel
theorem dX7_setFirst_17 : decode cX7_setFirst 17 = .ok (.putfield 31, 3) := by decide +kernel
theorem dX7_setFirst_20 : decode cX7_setFirst 20 = .ok (.return_, 1) := by decide +kernel
theorem dX7_copy_0 : decode cX7_copy 0 = .ok (.aload_n 0, 1) := by decide +kernel
theorem dX7_copy_1 : decode cX7_copy 1 = .ok (.aload_n 1, 1) := by decide +kernel
theorem dX7_copy_2 : decode cX7_copy 2 = .ok (.getfield 21, 3) := by decide +kernel
theorem dX7_copy_5 : decode cX7_copy 5 = .ok (.putfield 21, 3) := by decide +kernel
theorem dX7_copy_8 : decode cX7_copy 8 = .ok (.aload_n 0, 1) := by decide +kernel
theorem dX7_copy_9 : decode cX7_copy 9 = .ok (.aload_n 1, 1) := by decide +kernel
theorem dX7_copy_10 : decode cX7_copy 10 = .ok (.getfield 25, 3) := by decide +kernel
theorem dX7_copy_13 : decode cX7_copy 13 = .ok (.putfield 25, 3) := by decide +kernel
theorem dX7_copy_16 : decode cX7_copy 16 = .ok (.aload_n 0, 1) := by decide +kernel
theorem dX7_copy_17 : decode cX7_copy 17 = .ok (.aload_n 1, 1) := by decide +kernel
theorem dX7_copy_18 : decode cX7_copy 18 = .ok (.getfield 28, 3) := by decide +kernel
theorem dX7_copy_21 : decode cX7_copy 21 = .ok (.putfield 28, 3) := by decide +kernel
theorem dX7_copy_24 : decode cX7_copy 24 = .ok (.aload_n 0, 1) := by decide +kernel
theorem dX7_copy_25 : decode cX7_copy 25 = .ok (.aload_n 1, 1) := by decide +kernel
theorem dX7_copy_26 : decode cX7_copy 26 = .ok (.getfield 31, 3) := by decide +kernel
theorem dX7_copy_29 : decode cX7_copy 29 = .ok (.putfield 31, 3) := by decide +kernel
theorem dX7_copy_32 : decode cX7_copy 32 = .ok (.aload_n 1, 1) := by decide +kernel
theorem dX7_copy_33 : decode cX7_copy 33 = .ok (.getfield 9, 3) := by decide +kernel
theorem dX7_copy_36 : decode cX7_copy 36 = .ok (.iconst 0, 1) := by decide +kernel
theorem dX7_copy_37 : decode cX7_copy 37 = .ok (.aload_n 0, 1) := by decide +kernel
theorem dX7_copy_38 : decode cX7_copy 38 = .ok (.getfield 9, 3) := by decide +kernel
theorem dX7_copy_41 : decode cX7_copy 41 = .ok (.iconst 0, 1) := by decide +kernel
theorem dX7_copy_42 : decode cX7_copy 42 = .ok (.bipush 6, 2) := by decide +kernel
theorem dX7_copy_44 : decode cX7_copy 44 = .ok (.invokestatic 34, 3) := by decide +kernel
theorem dX7_copy_47 : decode cX7_copy 47 = .ok (.aload_n 1, 1) := by decide +kernel
theorem dX7_copy_48 : decode cX7_copy 48 = .ok (.getfield 15, 3) := by decide +kernel
theorem dX7_copy_51 : decode cX7_copy 51 = .ok (.iconst 0, 1) := by decide +kernel
theorem dX7_copy_52 : decode cX7_copy 52 = .ok (.aload_n 0, 1) := by decide +kernel
theorem dX7_copy_53 : decode cX7_copy 53 = .ok (.getfield 15, 3) := by decide +kernel
theorem dX7_copy_56 : decode cX7_copy 56 = .ok (.iconst 0, 1) := by decide +kernel
theorem dX7_copy_57 : decode cX7_copy 57 = .ok (.bipush 6, 2) := by decide +kernel
theorem dX7_copy_59 : decode cX7_copy 59 = .ok (.invokestatic 34, 3) := by decide +kernel
theorem dX7_copy_62 : decode cX7_copy 62 = .ok (.return_, 1) := by decide +kernel
theorem dX7_addSort_0 : decode cX7_addSort 0 = .ok (.aload_n 0, 1) := by decide +kernel
theorem dX7_addSort_1 : decode cX7_addSort 1 = .ok (.getfield 31, 3) := by decide +kernel
end
section
theorem dX7_addSort_4 : decode cX7_addSort 4 = .ok (.bipush 6, 2) := by decide +kernel
theorem dX7_addSort_6 : decode cX7_addSort 6 = .ok (.if_icmp .ge 33, 3) := by decide +kernel
theorem dX7_addSort_9 : decode cX7_addSort 9 = .ok (.aload_n 0, 1) := by decide +kernel
theorem dX7_addSort_10 : decode cX7_addSort 10 = .ok (.getfield 9, 3) := by decide +kernel
theorem dX7_addSort_13 : decode cX7_addSort 13 = .ok (.aload_n 0, 1) := by decide +kernel
theorem dX7_addSort_14 : decode cX7_addSort 14 = .ok (.getfield 31, 3) := by decide +kernel
theorem dX7_addSort_17 : decode cX7_addSort 17 = .ok (.iload_n 1, 1) := by decide +kernel
theorem dX7_addSort_18 : decode cX7_addSort 18 = .ok (.iastore, 1) := by decide +kernel
theorem dX7_addSort_19 : decode cX7_addSort 19 = .ok (.aload_n 0, 1) := by decide +kernel
theorem dX7_addSort_20 : decode cX7_addSort 20 = .ok (.getfield 15, 3) := by decide +kernel
theorem dX7_addSort_23 : decode cX7_addSort 23 = .ok (.aload_n 0, 1) := by decide +kernel
theorem dX7_addSort_24 : decode cX7_addSort 24 = .ok (.getfield 31, 3) := by decide +kernel
theorem dX7_addSort_27 : decode cX7_addSort 27 = .ok (.iload_n 2, 1) := by decide +kernel
theorem dX7_addSort_28 : decode cX7_addSort 28 = .ok (.iastore, 1) := by decide +kernel
theorem dX7_addSort_29 : decode cX7_addSort 29 = .ok (.aload_n 0, 1) := by decide +kernel
theorem dX7_addSort_30 : decode cX7_addSort 30 = .ok (.dup, 1) := by decide +kernel
theorem dX7_addSort_31 : decode cX7_addSort 31 = .ok (.getfield 31, 3) := by decide +kernel
theorem dX7_addSort_34 : decode cX7_addSort 34 = .ok (.iconst 1, 1) := by decide +kernel
theorem dX7_addSort_35 : decode cX7_addSort 35 = .ok (.iadd, 1) := by decide +kernel
theorem dX7_addSort_36 : decode cX7_addSort 36 = .ok (.putfield 31, 3) := by decide +kernel
theorem dX7_addSort_39 : decode cX7_addSort 39 = .ok (.return_, 1) := by decide +kernel
theorem dX7_hasSort_0 : decode cX7_hasSort 0 = .ok (.iload_n 1, 1) := by decide +kernel
theorem dX7_hasSort_1 : decode cX7_hasSort 1 = .ok (.ifCond .lt 15, 3) := by decide +kernel
theorem dX7_hasSort_4 : decode cX7_hasSort 4 = .ok (.iload_n 1, 1) := by decide +kernel
theorem dX7_hasSort_5 : decode cX7_hasSort 5 = .ok (.aload_n 0, 1) := by decide +kernel
theorem dX7_hasSort_6 : decode cX7_hasSort 6 = .ok (.getfield 31, 3) := by decide +kernel
theorem dX7_hasSort_9 : decode cX7_hasSort 9 = .ok (.if_icmp .ge 7, 3) := by decide +kernel
theorem dX7_hasSort_12 : decode cX7_hasSort 12 = .ok (.iconst 1, 1) := by decide +kernel
theorem dX7_hasSort_13 : decode cX7_hasSort 13 = .ok (.goto 4, 3) := by decide +kernel
theorem dX7_hasSort_16 : decode cX7_hasSort 16 = .ok (.iconst 0, 1) := by decide +kernel
theorem dX7_hasSort_17 : decode cX7_hasSort 17 = .ok (.ireturn, 1) := by decide +kernel
theorem dX7_bulkOf_0 : decode cX7_bulkOf 0 = .ok (.iload_n 1, 1) := by decide +kernel
theorem dX7_bulkOf_1 : decode cX7_bulkOf 1 = .ok (.ifCond .lt 20, 3) := by decide +kernel
theorem dX7_bulkOf_4 : decode cX7_bulkOf 4 = .ok (.iload_n 1, 1) := by decide +kernel
theorem dX7_bulkOf_5 : decode cX7_bulkOf 5 = .ok (.aload_n 0, 1) := by decide +kernel
theorem dX7_bulkOf_6 : decode cX7_bulkOf 6 = .ok (.getfield 31, 3) := by decide +kernel
theorem dX7_bulkOf_9 : decode cX7_bulkOf 9 = .ok (.if_icmp .ge 12, 3) := by decide +kernel
theorem dX7_bulkOf_12 : decode cX7_bulkOf 12 = .ok (.aload_n 0, 1) := by decide +kernel
theorem dX7_bulkOf_13 : decode cX7_bulkOf 13 = .ok (.getfield 9, 3) := by decide +kernel
theorem dX7_bulkOf_16 : decode cX7_bulkOf 16 = .ok (.iload_n 1, 1) := by decide +kernel
theorem dX7_bulkOf_17 : decode cX7_bulkOf 17 = .ok (.iaload, 1) := by decide +kernel
theorem dX7_bulkOf_18 : decode cX7_bulkOf 18 = .ok (.goto 4, 3) := by decide +kernel
theorem dX7_bulkOf_21 : decode cX7_bulkOf 21 = .ok (.iconst 0, 1) := by decide +kernel
theorem dX7_bulkOf_22 : decode cX7_bulkOf 22 = .ok (.ireturn, 1) := by decide +kernel
theorem dX7_pushOf_0 : decode cX7_pushOf 0 = .ok (.iload_n 1, 1) := by decide +kernel
theorem dX7_pushOf_1 : decode cX7_pushOf 1 = .ok (.ifCond .lt 20, 3) := by decide +kernel
theorem dX7_pushOf_4 : decode cX7_pushOf 4 = .ok (.iload_n 1, 1) := by decide +kernel
theorem dX7_pushOf_5 : decode cX7_pushOf 5 = .ok (.aload_n 0, 1) := by decide +kernel
theorem dX7_pushOf_6 : decode cX7_pushOf 6 = .ok (.getfield 31, 3) := by decide +kernel
theorem dX7_pushOf_9 : decode cX7_pushOf 9 = .ok (.if_icmp .ge 12, 3) := by decide +kernel
theorem dX7_pushOf_12 : decode cX7_pushOf 12 = .ok (.aload_n 0, 1) := by decide +kernel
theorem dX7_pushOf_13 : decode cX7_pushOf 13 = .ok (.getfield 15, 3) := by decide +kernel
theorem dX7_pushOf_16 : decode cX7_pushOf 16 = .ok (.iload_n 1, 1) := by decide +kernel
theorem dX7_pushOf_17 : decode cX7_pushOf 17 = .ok (.iaload, 1) := by decide +kernel
theorem dX7_pushOf_18 : decode cX7_pushOf 18 = .ok (.goto 4, 3) := by decide +kernel
theorem dX7_pushOf_21 : decode cX7_pushOf 21 = .ok (.iconst 0, 1) := by decide +kernel
theorem dX7_pushOf_22 : decode cX7_pushOf 22 = .ok (.ireturn, 1) := by decide +kernel
theorem dX7_isAtMost_0 : decode cX7_isAtMost 0 = .ok (.iload_n 2, 1) := by decide +kernel
theorem dX7_isAtMost_1 : decode cX7_isAtMost 1 = .ok (.ifCond .ne 11, 3) := by decide +kernel
theorem dX7_isAtMost_4 : decode cX7_isAtMost 4 = .ok (.aload_n 0, 1) := by decide +kernel
theorem dX7_isAtMost_5 : decode cX7_isAtMost 5 = .ok (.iload_n 1, 1) := by decide +kernel
theorem dX7_isAtMost_6 : decode cX7_isAtMost 6 = .ok (.invokevirtual 40, 3) := by decide +kernel
theorem dX7_isAtMost_9 : decode cX7_isAtMost 9 = .ok (.goto 8, 3) := by decide +kernel
theorem dX7_isAtMost_12 : decode cX7_isAtMost 12 = .ok (.aload_n 0, 1) := by decide +kernel
theorem dX7_isAtMost_13 : decode cX7_isAtMost 13 = .ok (.iload_n 1, 1) := by decide +kernel
theorem dX7_isAtMost_14 : decode cX7_isAtMost 14 = .ok (.invokevirtual 44, 3) := by decide +kernel
theorem dX7_isAtMost_17 : decode cX7_isAtMost 17 = .ok (.iload_n 3, 1) := by decide +kernel
theorem dX7_isAtMost_18 : decode cX7_isAtMost 18 = .ok (.if_icmp .gt 7, 3) := by decide +kernel
theorem dX7_isAtMost_21 : decode cX7_isAtMost 21 = .ok (.iconst 1, 1) := by decide +kernel
theorem dX7_isAtMost_22 : decode cX7_isAtMost 22 = .ok (.goto 4, 3) := by decide +kernel
theorem dX7_isAtMost_25 : decode cX7_isAtMost 25 = .ok (.iconst 0, 1) := by decide +kernel
theorem dX7_isAtMost_26 : decode cX7_isAtMost 26 = .ok (.ireturn, 1) := by decide +kernel
theorem dX7_howManyAtMost_0 : decode cX7_howManyAtMost 0 = .ok (.iconst 0, 1) := by decide +kernel
theorem dX7_howManyAtMost_1 : decode cX7_howManyAtMost 1 = .ok (.istore 4, 2) := by decide +kernel
theorem dX7_howManyAtMost_3 : decode cX7_howManyAtMost 3 = .ok (.iconst 0, 1) := by decide +kernel
theorem dX7_howManyAtMost_4 : decode cX7_howManyAtMost 4 = .ok (.istore 5, 2) := by decide +kernel
theorem dX7_howManyAtMost_6 : decode cX7_howManyAtMost 6 = .ok (.iload 5, 2) := by decide +kernel
theorem dX7_howManyAtMost_8 : decode cX7_howManyAtMost 8 = .ok (.aload_n 0, 1) := by decide +kernel
theorem dX7_howManyAtMost_9 : decode cX7_howManyAtMost 9 = .ok (.getfield 31, 3) := by decide +kernel
theorem dX7_howManyAtMost_12 : decode cX7_howManyAtMost 12 = .ok (.if_icmp .ge 33, 3) := by decide +kernel
theorem dX7_howManyAtMost_15 : decode cX7_howManyAtMost 15 = .ok (.iload_n 1, 1) := by decide +kernel
theorem dX7_howManyAtMost_16 : decode cX7_howManyAtMost 16 = .ok (.iload 5, 2) := by decide +kernel
theorem dX7_howManyAtMost_18 : decode cX7_howManyAtMost 18 = .ok (.ishr, 1) := by decide +kernel
theorem dX7_howManyAtMost_19 : decode cX7_howManyAtMost 19 = .ok (.iconst 1, 1) := by decide +kernel
theorem dX7_howManyAtMost_20 : decode cX7_howManyAtMost 20 = .ok (.iand, 1) := by decide +kernel
theorem dX7_howManyAtMost_21 : decode cX7_howManyAtMost 21 = .ok (.iconst 1, 1) := by decide +kernel
theorem dX7_howManyAtMost_22 : decode cX7_howManyAtMost 22 = .ok (.if_icmp .ne 17, 3) := by decide +kernel
theorem dX7_howManyAtMost_25 : decode cX7_howManyAtMost 25 = .ok (.aload_n 0, 1) := by decide +kernel
theorem dX7_howManyAtMost_26 : decode cX7_howManyAtMost 26 = .ok (.iload 5, 2) := by decide +kernel
theorem dX7_howManyAtMost_28 : decode cX7_howManyAtMost 28 = .ok (.iload_n 2, 1) := by decide +kernel
theorem dX7_howManyAtMost_29 : decode cX7_howManyAtMost 29 = .ok (.iload_n 3, 1) := by decide +kernel
theorem dX7_howManyAtMost_30 : decode cX7_howManyAtMost 30 = .ok (.invokevirtual 47, 3) := by decide +kernel
theorem dX7_howManyAtMost_33 : decode cX7_howManyAtMost 33 = .ok (.ifCond .eq 6, 3) := by decide +kernel
theorem dX7_howManyAtMost_36 : decode cX7_howManyAtMost 36 = .ok (.iinc 4 1, 3) := by decide +kernel
theorem dX7_howManyAtMost_39 : decode cX7_howManyAtMost 39 = .ok (.iinc 5 1, 3) := by decide +kernel
theorem dX7_howManyAtMost_42 : decode cX7_howManyAtMost 42 = .ok (.goto (-36), 3) := by decide +kernel
theorem dX7_howManyAtMost_45 : decode cX7_howManyAtMost 45 = .ok (.iload 4, 2) := by decide +kernel
theorem dX7_howManyAtMost_47 : decode cX7_howManyAtMost 47 = .ok (.ireturn, 1) := by decide +kernel
theorem dX7_placeOfSide_0 : decode cX7_placeOfSide 0 = .ok (.iload_n 1, 1) := by decide +kernel
theorem dX7_placeOfSide_1 : decode cX7_placeOfSide 1 = .ok (.ifCond .ne 7, 3) := by decide +kernel
theorem dX7_placeOfSide_4 : decode cX7_placeOfSide 4 = .ok (.iconst 0, 1) := by decide +kernel
theorem dX7_placeOfSide_5 : decode cX7_placeOfSide 5 = .ok (.goto 9, 3) := by decide +kernel
theorem dX7_placeOfSide_8 : decode cX7_placeOfSide 8 = .ok (.aload_n 0, 1) := by decide +kernel
theorem dX7_placeOfSide_9 : decode cX7_placeOfSide 9 = .ok (.getfield 21, 3) := by decide +kernel
theorem dX7_placeOfSide_12 : decode cX7_placeOfSide 12 = .ok (.iconst 2, 1) := by decide +kernel
theorem dX7_placeOfSide_13 : decode cX7_placeOfSide 13 = .ok (.idiv, 1) := by decide +kernel
theorem dX7_placeOfSide_14 : decode cX7_placeOfSide 14 = .ok (.ireturn, 1) := by decide +kernel
theorem dX7_placeBehind_0 : decode cX7_placeBehind 0 = .ok (.iload_n 1, 1) := by decide +kernel
theorem dX7_placeBehind_1 : decode cX7_placeBehind 1 = .ok (.iconst 1, 1) := by decide +kernel
theorem dX7_placeBehind_2 : decode cX7_placeBehind 2 = .ok (.iadd, 1) := by decide +kernel
theorem dX7_placeBehind_3 : decode cX7_placeBehind 3 = .ok (.aload_n 0, 1) := by decide +kernel
theorem dX7_placeBehind_4 : decode cX7_placeBehind 4 = .ok (.getfield 21, 3) := by decide +kernel
theorem dX7_placeBehind_7 : decode cX7_placeBehind 7 = .ok (.if_icmp .ge 9, 3) := by decide +kernel
theorem dX7_placeBehind_10 : decode cX7_placeBehind 10 = .ok (.iload_n 1, 1) := by decide +kernel
theorem dX7_placeBehind_11 : decode cX7_placeBehind 11 = .ok (.iconst 1, 1) := by decide +kernel
theorem dX7_placeBehind_12 : decode cX7_placeBehind 12 = .ok (.iadd, 1) := by decide +kernel
theorem dX7_placeBehind_13 : decode cX7_placeBehind 13 = .ok (.goto 4, 3) := by decide +kernel
theorem dX7_placeBehind_16 : decode cX7_placeBehind 16 = .ok (.iconst 0, 1) := by decide +kernel
theorem dX7_placeBehind_17 : decode cX7_placeBehind 17 = .ok (.ireturn, 1) := by decide +kernel
theorem dX8_init_0 : decode cX8_init 0 = .ok (.aload_n 0, 1) := by decide +kernel
theorem dX8_init_1 : decode cX8_init 1 = .ok (.invokespecial 3, 3) := by decide +kernel
theorem dX8_init_4 : decode cX8_init 4 = .ok (.aload_n 0, 1) := by decide +kernel
theorem dX8_init_5 : decode cX8_init 5 = .ok (.bipush 6, 2) := by decide +kernel
theorem dX8_init_7 : decode cX8_init 7 = .ok (.newarray .int, 2) := by decide +kernel
theorem dX8_init_9 : decode cX8_init 9 = .ok (.putfield 9, 3) := by decide +kernel
theorem dX8_init_12 : decode cX8_init 12 = .ok (.aload_n 0, 1) := by decide +kernel
theorem dX8_init_13 : decode cX8_init 13 = .ok (.bipush 6, 2) := by decide +kernel
theorem dX8_init_15 : decode cX8_init 15 = .ok (.newarray .int, 2) := by decide +kernel
theorem dX8_init_17 : decode cX8_init 17 = .ok (.putfield 15, 3) := by decide +kernel
theorem dX8_init_20 : decode cX8_init 20 = .ok (.aload_n 0, 1) := by decide +kernel
theorem dX8_init_21 : decode cX8_init 21 = .ok (.bipush 6, 2) := by decide +kernel
theorem dX8_init_23 : decode cX8_init 23 = .ok (.newarray .int, 2) := by decide +kernel
theorem dX8_init_25 : decode cX8_init 25 = .ok (.putfield 18, 3) := by decide +kernel
theorem dX8_init_28 : decode cX8_init 28 = .ok (.aload_n 0, 1) := by decide +kernel
theorem dX8_init_29 : decode cX8_init 29 = .ok (.aload_n 1, 1) := by decide +kernel
theorem dX8_init_30 : decode cX8_init 30 = .ok (.putfield 21, 3) := by decide +kernel
theorem dX8_init_33 : decode cX8_init 33 = .ok (.return_, 1) := by decide +kernel
theorem dX8_add_0 : decode cX8_add 0 = .ok (.aload_n 0, 1) := by decide +kernel
theorem dX8_add_1 : decode cX8_add 1 = .ok (.getfield 25, 3) := by decide +kernel
theorem dX8_add_4 : decode cX8_add 4 = .ok (.bipush 6, 2) := by decide +kernel
theorem dX8_add_6 : decode cX8_add 6 = .ok (.if_icmp .lt 5, 3) := by decide +kernel
theorem dX8_add_9 : decode cX8_add 9 = .ok (.iconst 0, 1) := by decide +kernel
theorem dX8_add_10 : decode cX8_add 10 = .ok (.ireturn, 1) := by decide +kernel
theorem dX8_add_11 : decode cX8_add 11 = .ok (.aload_n 0, 1) := by decide +kernel
theorem dX8_add_12 : decode cX8_add 12 = .ok (.getfield 9, 3) := by decide +kernel
theorem dX8_add_15 : decode cX8_add 15 = .ok (.aload_n 0, 1) := by decide +kernel
theorem dX8_add_16 : decode cX8_add 16 = .ok (.getfield 25, 3) := by decide +kernel
theorem dX8_add_19 : decode cX8_add 19 = .ok (.iload_n 1, 1) := by decide +kernel
theorem dX8_add_20 : decode cX8_add 20 = .ok (.iastore, 1) := by decide +kernel
theorem dX8_add_21 : decode cX8_add 21 = .ok (.aload_n 0, 1) := by decide +kernel
theorem dX8_add_22 : decode cX8_add 22 = .ok (.getfield 15, 3) := by decide +kernel
theorem dX8_add_25 : decode cX8_add 25 = .ok (.aload_n 0, 1) := by decide +kernel
theorem dX8_add_26 : decode cX8_add 26 = .ok (.getfield 25, 3) := by decide +kernel
theorem dX8_add_29 : decode cX8_add 29 = .ok (.iload_n 2, 1) := by decide +kernel
theorem dX8_add_30 : decode cX8_add 30 = .ok (.iastore, 1) := by decide +kernel
theorem dX8_add_31 : decode cX8_add 31 = .ok (.aload_n 0, 1) := by decide +kernel
theorem dX8_add_32 : decode cX8_add 32 = .ok (.getfield 18, 3) := by decide +kernel
theorem dX8_add_35 : decode cX8_add 35 = .ok (.aload_n 0, 1) := by decide +kernel
theorem dX8_add_36 : decode cX8_add 36 = .ok (.getfield 25, 3) := by decide +kernel
theorem dX8_add_39 : decode cX8_add 39 = .ok (.iload_n 3, 1) := by decide +kernel
theorem dX8_add_40 : decode cX8_add 40 = .ok (.iastore, 1) := by decide +kernel
theorem dX8_add_41 : decode cX8_add 41 = .ok (.aload_n 0, 1) := by decide +kernel
theorem dX8_add_42 : decode cX8_add 42 = .ok (.dup, 1) := by decide +kernel
theorem dX8_add_43 : decode cX8_add 43 = .ok (.getfield 25, 3) := by decide +kernel
theorem dX8_add_46 : decode cX8_add 46 = .ok (.iconst 1, 1) := by decide +kernel
theorem dX8_add_47 : decode cX8_add 47 = .ok (.iadd, 1) := by decide +kernel
theorem dX8_add_48 : decode cX8_add 48 = .ok (.putfield 25, 3) := by decide +kernel
theorem dX8_add_51 : decode cX8_add 51 = .ok (.iconst 1, 1) := by decide +kernel
theorem dX8_add_52 : decode cX8_add 52 = .ok (.ireturn, 1) := by decide +kernel
theorem dX8_possibleSorts_0 : decode cX8_possibleSorts 0 = .ok (.iconst 0, 1) := by decide +kernel
theorem dX8_possibleSorts_1 : decode cX8_possibleSorts 1 = .ok (.istore_n 1, 1) := by decide +kernel
theorem dX8_possibleSorts_2 : decode cX8_possibleSorts 2 = .ok (.iconst 0, 1) := by decide +kernel
theorem dX8_possibleSorts_3 : decode cX8_possibleSorts 3 = .ok (.istore_n 2, 1) := by decide +kernel
theorem dX8_possibleSorts_4 : decode cX8_possibleSorts 4 = .ok (.iload_n 2, 1) := by decide +kernel
theorem dX8_possibleSorts_5 : decode cX8_possibleSorts 5 = .ok (.aload_n 0, 1) := by decide +kernel
theorem dX8_possibleSorts_6 : decode cX8_possibleSorts 6 = .ok (.getfield 21, 3) := by decide +kernel
theorem dX8_possibleSorts_9 : decode cX8_possibleSorts 9 = .ok (.getfield 29, 3) := by decide +kernel
theorem dX8_possibleSorts_12 : decode cX8_possibleSorts 12 = .ok (.if_icmp .ge 23, 3) := by decide +kernel
theorem dX8_possibleSorts_15 : decode cX8_possibleSorts 15 = .ok (.aload_n 0, 1) := by decide +kernel
theorem dX8_possibleSorts_16 : decode cX8_possibleSorts 16 = .ok (.iload_n 2, 1) := by decide +kernel
theorem dX8_possibleSorts_17 : decode cX8_possibleSorts 17 = .ok (.invokevirtual 34, 3) := by decide +kernel
theorem dX8_possibleSorts_20 : decode cX8_possibleSorts 20 = .ok (.ifCond .eq 9, 3) := by decide +kernel
theorem dX8_possibleSorts_23 : decode cX8_possibleSorts 23 = .ok (.iload_n 1, 1) := by decide +kernel
theorem dX8_possibleSorts_24 : decode cX8_possibleSorts 24 = .ok (.iconst 1, 1) := by decide +kernel
theorem dX8_possibleSorts_25 : decode cX8_possibleSorts 25 = .ok (.iload_n 2, 1) := by decide +kernel
theorem dX8_possibleSorts_26 : decode cX8_possibleSorts 26 = .ok (.ishl, 1) := by decide +kernel
theorem dX8_possibleSorts_27 : decode cX8_possibleSorts 27 = .ok (.ior, 1) := by decide +kernel
theorem dX8_possibleSorts_28 : decode cX8_possibleSorts 28 = .ok (.istore_n 1, 1) := by decide +kernel
theorem dX8_possibleSorts_29 : decode cX8_possibleSorts 29 = .ok (.iinc 2 1, 3) := by decide +kernel
theorem dX8_possibleSorts_32 : decode cX8_possibleSorts 32 = .ok (.goto (-28), 3) := by decide +kernel
theorem dX8_possibleSorts_35 : decode cX8_possibleSorts 35 = .ok (.iload_n 1, 1) := by decide +kernel
theorem dX8_possibleSorts_36 : decode cX8_possibleSorts 36 = .ok (.ireturn, 1) := by decide +kernel
theorem dX8_allIsSoOf_0 : decode cX8_allIsSoOf 0 = .ok (.iconst 0, 1) := by decide +kernel
theorem dX8_allIsSoOf_1 : decode cX8_allIsSoOf 1 = .ok (.istore_n 2, 1) := by decide +kernel
theorem dX8_allIsSoOf_2 : decode cX8_allIsSoOf 2 = .ok (.iload_n 2, 1) := by decide +kernel
theorem dX8_allIsSoOf_3 : decode cX8_allIsSoOf 3 = .ok (.aload_n 0, 1) := by decide +kernel
theorem dX8_allIsSoOf_4 : decode cX8_allIsSoOf 4 = .ok (.getfield 25, 3) := by decide +kernel
theorem dX8_allIsSoOf_7 : decode cX8_allIsSoOf 7 = .ok (.if_icmp .ge 49, 3) := by decide +kernel
theorem dX8_allIsSoOf_10 : decode cX8_allIsSoOf 10 = .ok (.aload_n 0, 1) := by decide +kernel
theorem dX8_allIsSoOf_11 : decode cX8_allIsSoOf 11 = .ok (.getfield 21, 3) := by decide +kernel
theorem dX8_allIsSoOf_14 : decode cX8_allIsSoOf 14 = .ok (.iload_n 1, 1) := by decide +kernel
theorem dX8_allIsSoOf_15 : decode cX8_allIsSoOf 15 = .ok (.aload_n 0, 1) := by decide +kernel
theorem dX8_allIsSoOf_16 : decode cX8_allIsSoOf 16 = .ok (.getfield 9, 3) := by decide +kernel
theorem dX8_allIsSoOf_19 : decode cX8_allIsSoOf 19 = .ok (.iload_n 2, 1) := by decide +kernel
theorem dX8_allIsSoOf_20 : decode cX8_allIsSoOf 20 = .ok (.iaload, 1) := by decide +kernel
theorem dX8_allIsSoOf_21 : decode cX8_allIsSoOf 21 = .ok (.aload_n 0, 1) := by decide +kernel
theorem dX8_allIsSoOf_22 : decode cX8_allIsSoOf 22 = .ok (.getfield 15, 3) := by decide +kernel
theorem dX8_allIsSoOf_25 : decode cX8_allIsSoOf 25 = .ok (.iload_n 2, 1) := by decide +kernel
theorem dX8_allIsSoOf_26 : decode cX8_allIsSoOf 26 = .ok (.iaload, 1) := by decide +kernel
theorem dX8_allIsSoOf_27 : decode cX8_allIsSoOf 27 = .ok (.invokevirtual 38, 3) := by decide +kernel
theorem dX8_allIsSoOf_30 : decode cX8_allIsSoOf 30 = .ok (.aload_n 0, 1) := by decide +kernel
theorem dX8_allIsSoOf_31 : decode cX8_allIsSoOf 31 = .ok (.getfield 18, 3) := by decide +kernel
theorem dX8_allIsSoOf_34 : decode cX8_allIsSoOf 34 = .ok (.iload_n 2, 1) := by decide +kernel
theorem dX8_allIsSoOf_35 : decode cX8_allIsSoOf 35 = .ok (.iaload, 1) := by decide +kernel
theorem dX8_allIsSoOf_36 : decode cX8_allIsSoOf 36 = .ok (.iconst 1, 1) := by decide +kernel
theorem dX8_allIsSoOf_37 : decode cX8_allIsSoOf 37 = .ok (.if_icmp .ne 7, 3) := by decide +kernel
theorem dX8_allIsSoOf_40 : decode cX8_allIsSoOf 40 = .ok (.iconst 1, 1) := by decide +kernel
theorem dX8_allIsSoOf_41 : decode cX8_allIsSoOf 41 = .ok (.goto 4, 3) := by decide +kernel
theorem dX8_allIsSoOf_44 : decode cX8_allIsSoOf 44 = .ok (.iconst 0, 1) := by decide +kernel
theorem dX8_allIsSoOf_45 : decode cX8_allIsSoOf 45 = .ok (.if_icmp .eq 5, 3) := by decide +kernel
theorem dX8_allIsSoOf_48 : decode cX8_allIsSoOf 48 = .ok (.iconst 0, 1) := by decide +kernel
theorem dX8_allIsSoOf_49 : decode cX8_allIsSoOf 49 = .ok (.ireturn, 1) := by decide +kernel
theorem dX8_allIsSoOf_50 : decode cX8_allIsSoOf 50 = .ok (.iinc 2 1, 3) := by decide +kernel
theorem dX8_allIsSoOf_53 : decode cX8_allIsSoOf 53 = .ok (.goto (-51), 3) := by decide +kernel
theorem dX8_allIsSoOf_56 : decode cX8_allIsSoOf 56 = .ok (.iconst 1, 1) := by decide +kernel
theorem dX8_allIsSoOf_57 : decode cX8_allIsSoOf 57 = .ok (.ireturn, 1) := by decide +kernel
theorem dX9_init_0 : decode cX9_init 0 = .ok (.aload_n 0, 1) := by decide +kernel
theorem dX9_init_1 : decode cX9_init 1 = .ok (.invokespecial 1, 3) := by decide +kernel
theorem dX9_init_4 : decode cX9_init 4 = .ok (.return_, 1) := by decide +kernel
theorem dX9_worth_0 : decode cX9_worth 0 = .ok (.aload_n 0, 1) := by decide +kernel
theorem dX9_worth_1 : decode cX9_worth 1 = .ok (.dup, 1) := by decide +kernel
theorem dX9_worth_2 : decode cX9_worth 2 = .ok (.getfield 7, 3) := by decide +kernel
theorem dX9_worth_5 : decode cX9_worth 5 = .ok (.ldc2_w 13, 3) := by decide +kernel
theorem dX9_worth_8 : decode cX9_worth 8 = .ok (.ladd, 1) := by decide +kernel
theorem dX9_worth_9 : decode cX9_worth 9 = .ok (.putfield 7, 3) := by decide +kernel
theorem dX9_worth_12 : decode cX9_worth 12 = .ok (.aload_n 0, 1) := by decide +kernel
theorem dX9_worth_13 : decode cX9_worth 13 = .ok (.aload_n 1, 1) := by decide +kernel
theorem dX9_worth_14 : decode cX9_worth 14 = .ok (.iload_n 2, 1) := by decide +kernel
theorem dX9_worth_15 : decode cX9_worth 15 = .ok (.invokespecial 15, 3) := by decide +kernel
theorem dX9_worth_18 : decode cX9_worth 18 = .ok (.aload_n 1, 1) := by decide +kernel
theorem dX9_worth_19 : decode cX9_worth 19 = .ok (.getfield 19, 3) := by decide +kernel
theorem dX9_worth_22 : decode cX9_worth 22 = .ok (.iadd, 1) := by decide +kernel
theorem dX9_worth_23 : decode cX9_worth 23 = .ok (.ireturn, 1) := by decide +kernel
theorem dX10_init_0 : decode cX10_init 0 = .ok (.aload_n 0, 1) := by decide +kernel
theorem dX10_init_1 : decode cX10_init 1 = .ok (.invokespecial 3, 3) := by decide +kernel
theorem dX10_init_4 : decode cX10_init 4 = .ok (.aload_n 0, 1) := by decide +kernel
theorem dX10_init_5 : decode cX10_init 5 = .ok (.bipush 100, 2) := by decide +kernel
theorem dX10_init_7 : decode cX10_init 7 = .ok (.newarray .int, 2) := by decide +kernel
theorem dX10_init_9 : decode cX10_init 9 = .ok (.putfield 9, 3) := by decide +kernel
theorem dX10_init_12 : decode cX10_init 12 = .ok (.return_, 1) := by decide +kernel
theorem dX10_add_0 : decode cX10_add 0 = .ok (.aload_n 0, 1) := by decide +kernel
theorem dX10_add_1 : decode cX10_add 1 = .ok (.getfield 15, 3) := by decide +kernel
theorem dX10_add_4 : decode cX10_add 4 = .ok (.bipush 100, 2) := by decide +kernel
theorem dX10_add_6 : decode cX10_add 6 = .ok (.if_icmp .lt 5, 3) := by decide +kernel
theorem dX10_add_9 : decode cX10_add 9 = .ok (.iconst 0, 1) := by decide +kernel
theorem dX10_add_10 : decode cX10_add 10 = .ok (.ireturn, 1) := by decide +kernel
theorem dX10_add_11 : decode cX10_add 11 = .ok (.aload_n 0, 1) := by decide +kernel
theorem dX10_add_12 : decode cX10_add 12 = .ok (.getfield 9, 3) := by decide +kernel
theorem dX10_add_15 : decode cX10_add 15 = .ok (.aload_n 0, 1) := by decide +kernel
theorem dX10_add_16 : decode cX10_add 16 = .ok (.getfield 15, 3) := by decide +kernel
theorem dX10_add_19 : decode cX10_add 19 = .ok (.iload_n 1, 1) := by decide +kernel
theorem dX10_add_20 : decode cX10_add 20 = .ok (.iastore, 1) := by decide +kernel
theorem dX10_add_21 : decode cX10_add 21 = .ok (.aload_n 0, 1) := by decide +kernel
theorem dX10_add_22 : decode cX10_add 22 = .ok (.dup, 1) := by decide +kernel
theorem dX10_add_23 : decode cX10_add 23 = .ok (.getfield 15, 3) := by decide +kernel
theorem dX10_add_26 : decode cX10_add 26 = .ok (.iconst 1, 1) := by decide +kernel
theorem dX10_add_27 : decode cX10_add 27 = .ok (.iadd, 1) := by decide +kernel
theorem dX10_add_28 : decode cX10_add 28 = .ok (.putfield 15, 3) := by decide +kernel
theorem dX10_add_31 : decode cX10_add 31 = .ok (.iconst 1, 1) := by decide +kernel
theorem dX10_add_32 : decode cX10_add 32 = .ok (.ireturn, 1) := by decide +kernel
theorem dX10_tellTo_0 : decode cX10_tellTo 0 = .ok (.aload_n 1, 1) := by decide +kernel
theorem dX10_tellTo_1 : decode cX10_tellTo 1 = .ok (.invokevirtual 19, 3) := by decide +kernel
theorem dX10_tellTo_4 : decode cX10_tellTo 4 = .ok (.aload_n 0, 1) := by decide +kernel
theorem dX10_tellTo_5 : decode cX10_tellTo 5 = .ok (.iconst 0, 1) := by decide +kernel
theorem dX10_tellTo_6 : decode cX10_tellTo 6 = .ok (.putfield 24, 3) := by decide +kernel
theorem dX10_tellTo_9 : decode cX10_tellTo 9 = .ok (.aload_n 0, 1) := by decide +kernel
theorem dX10_tellTo_10 : decode cX10_tellTo 10 = .ok (.iconst 0, 1) := by decide +kernel
theorem dX10_tellTo_11 : decode cX10_tellTo 11 = .ok (.putfield 28, 3) := by decide +kernel
theorem dX10_tellTo_14 : decode cX10_tellTo 14 = .ok (.iconst 0, 1) := by decide +kernel
theorem dX10_tellTo_15 : decode cX10_tellTo 15 = .ok (.istore_n 2, 1) := by decide +kernel
theorem dX10_tellTo_16 : decode cX10_tellTo 16 = .ok (.iload_n 2, 1) := by decide +kernel
theorem dX10_tellTo_17 : decode cX10_tellTo 17 = .ok (.bipush 100, 2) := by decide +kernel
theorem dX10_tellTo_19 : decode cX10_tellTo 19 = .ok (.if_icmp .gt 35, 3) := by decide +kernel
theorem dX10_tellTo_22 : decode cX10_tellTo 22 = .ok (.aload_n 0, 1) := by decide +kernel
theorem dX10_tellTo_23 : decode cX10_tellTo 23 = .ok (.invokevirtual 31, 3) := by decide +kernel
theorem dX10_tellTo_26 : decode cX10_tellTo 26 = .ok (.aload_n 0, 1) := by decide +kernel
theorem dX10_tellTo_27 : decode cX10_tellTo 27 = .ok (.getfield 34, 3) := by decide +kernel
theorem dX10_tellTo_30 : decode cX10_tellTo 30 = .ok (.iconst (-1), 1) := by decide +kernel
theorem dX10_tellTo_31 : decode cX10_tellTo 31 = .ok (.if_icmp .ne 5, 3) := by decide +kernel
theorem dX10_tellTo_34 : decode cX10_tellTo 34 = .ok (.iload_n 2, 1) := by decide +kernel
theorem dX10_tellTo_35 : decode cX10_tellTo 35 = .ok (.ireturn, 1) := by decide +kernel
theorem dX10_tellTo_36 : decode cX10_tellTo 36 = .ok (.aload_n 0, 1) := by decide +kernel
theorem dX10_tellTo_37 : decode cX10_tellTo 37 = .ok (.aload_n 1, 1) := by decide +kernel
theorem dX10_tellTo_38 : decode cX10_tellTo 38 = .ok (.iload_n 2, 1) := by decide +kernel
theorem dX10_tellTo_39 : decode cX10_tellTo 39 = .ok (.invokevirtual 37, 3) := by decide +kernel
theorem dX10_tellTo_42 : decode cX10_tellTo 42 = .ok (.ifCond .ne 6, 3) := by decide +kernel
theorem dX10_tellTo_45 : decode cX10_tellTo 45 = .ok (.goto 9, 3) := by decide +kernel
theorem dX10_tellTo_48 : decode cX10_tellTo 48 = .ok (.iinc 2 1, 3) := by decide +kernel
theorem dX10_tellTo_51 : decode cX10_tellTo 51 = .ok (.goto (-35), 3) := by decide +kernel
theorem dX10_tellTo_54 : decode cX10_tellTo 54 = .ok (.bipush (-10), 2) := by decide +kernel
theorem dX10_tellTo_56 : decode cX10_tellTo 56 = .ok (.aload_n 0, 1) := by decide +kernel
theorem dX10_tellTo_57 : decode cX10_tellTo 57 = .ok (.getfield 41, 3) := by decide +kernel
theorem dX10_tellTo_60 : decode cX10_tellTo 60 = .ok (.isub, 1) := by decide +kernel
theorem dX10_tellTo_61 : decode cX10_tellTo 61 = .ok (.ireturn, 1) := by decide +kernel
theorem dX10_readItem_0 : decode cX10_readItem 0 = .ok (.aload_n 0, 1) := by decide +kernel
theorem dX10_readItem_1 : decode cX10_readItem 1 = .ok (.getfield 34, 3) := by decide +kernel
theorem dX10_readItem_4 : decode cX10_readItem 4 = .ok (.lookupswitch 98 #[(104, 54), (114, 36), (115, 75)], 36) := by decide +kernel
theorem dX10_readItem_40 : decode cX10_readItem 40 = .ok (.iload_n 2, 1) := by decide +kernel
theorem dX10_readItem_41 : decode cX10_readItem 41 = .ok (.ifCond .ne 15, 3) := by decide +kernel
theorem dX10_readItem_44 : decode cX10_readItem 44 = .ok (.aload_n 0, 1) := by decide +kernel
theorem dX10_readItem_45 : decode cX10_readItem 45 = .ok (.aload_n 1, 1) := by decide +kernel
theorem dX10_readItem_46 : decode cX10_readItem 46 = .ok (.invokevirtual 44, 3) := by decide +kernel
theorem dX10_readItem_49 : decode cX10_readItem 49 = .ok (.ifCond .eq 7, 3) := by decide +kernel
theorem dX10_readItem_52 : decode cX10_readItem 52 = .ok (.iconst 1, 1) := by decide +kernel
theorem dX10_readItem_53 : decode cX10_readItem 53 = .ok (.goto 4, 3) := by decide +kernel
theorem dX10_readItem_56 : decode cX10_readItem 56 = .ok (.iconst 0, 1) := by decide +kernel
theorem dX10_readItem_57 : decode cX10_readItem 57 = .ok (.ireturn, 1) := by decide +kernel
theorem dX10_readItem_58 : decode cX10_readItem 58 = .ok (.aload_n 0, 1) := by decide +kernel
theorem dX10_readItem_59 : decode cX10_readItem 59 = .ok (.getfield 24, 3) := by decide +kernel
theorem dX10_readItem_62 : decode cX10_readItem 62 = .ok (.ifCond .ne 15, 3) := by decide +kernel
theorem dX10_readItem_65 : decode cX10_readItem 65 = .ok (.aload_n 0, 1) := by decide +kernel
theorem dX10_readItem_66 : decode cX10_readItem 66 = .ok (.aload_n 1, 1) := by decide +kernel
theorem dX10_readItem_67 : decode cX10_readItem 67 = .ok (.invokevirtual 48, 3) := by decide +kernel
theorem dX10_readItem_70 : decode cX10_readItem 70 = .ok (.ifCond .eq 7, 3) := by decide +kernel
theorem dX10_readItem_73 : decode cX10_readItem 73 = .ok (.iconst 1, 1) := by decide +kernel
theorem dX10_readItem_74 : decode cX10_readItem 74 = .ok (.goto 4, 3) := by decide +kernel
theorem dX10_readItem_77 : decode cX10_readItem 77 = .ok (.iconst 0, 1) := by decide +kernel
theorem dX10_readItem_78 : decode cX10_readItem 78 = .ok (.ireturn, 1) := by decide +kernel
theorem dX10_readItem_79 : decode cX10_readItem 79 = .ok (.aload_n 1, 1) := by decide +kernel
theorem dX10_readItem_80 : decode cX10_readItem 80 = .ok (.getfield 51, 3) := by decide +kernel
theorem dX10_readItem_83 : decode cX10_readItem 83 = .ok (.bipush 6, 2) := by decide +kernel
theorem dX10_readItem_85 : decode cX10_readItem 85 = .ok (.if_icmp .ge 15, 3) := by decide +kernel
theorem dX10_readItem_88 : decode cX10_readItem 88 = .ok (.aload_n 0, 1) := by decide +kernel
theorem dX10_readItem_89 : decode cX10_readItem 89 = .ok (.aload_n 1, 1) := by decide +kernel
theorem dX10_readItem_90 : decode cX10_readItem 90 = .ok (.invokevirtual 54, 3) := by decide +kernel
theorem dX10_readItem_93 : decode cX10_readItem 93 = .ok (.ifCond .eq 7, 3) := by decide +kernel
theorem dX10_readItem_96 : decode cX10_readItem 96 = .ok (.iconst 1, 1) := by decide +kernel
theorem dX10_readItem_97 : decode cX10_readItem 97 = .ok (.goto 4, 3) := by decide +kernel
theorem dX10_readItem_100 : decode cX10_readItem 100 = .ok (.iconst 0, 1) := by decide +kernel
theorem dX10_readItem_101 : decode cX10_readItem 101 = .ok (.ireturn, 1) := by decide +kernel
theorem dX10_readItem_102 : decode cX10_readItem 102 = .ok (.iconst 0, 1) := by decide +kernel
theorem dX10_readItem_103 : decode cX10_readItem 103 = .ok (.ireturn, 1) := by decide +kernel
theorem dX10_readRooms_0 : decode cX10_readRooms 0 = .ok (.aload_n 0, 1) := by decide +kernel
theorem dX10_readRooms_1 : decode cX10_readRooms 1 = .ok (.iconst 3, 1) := by decide +kernel
theorem dX10_readRooms_2 : decode cX10_readRooms 2 = .ok (.bipush 6, 2) := by decide +kernel
theorem dX10_readRooms_4 : decode cX10_readRooms 4 = .ok (.invokevirtual 57, 3) := by decide +kernel
theorem dX10_readRooms_7 : decode cX10_readRooms 7 = .ok (.ifCond .ne 5, 3) := by decide +kernel
theorem dX10_readRooms_10 : decode cX10_readRooms 10 = .ok (.iconst 0, 1) := by decide +kernel
theorem dX10_readRooms_11 : decode cX10_readRooms 11 = .ok (.ireturn, 1) := by decide +kernel
theorem dX10_readRooms_12 : decode cX10_readRooms 12 = .ok (.aload_n 1, 1) := by decide +kernel
theorem dX10_readRooms_13 : decode cX10_readRooms 13 = .ok (.aload_n 0, 1) := by decide +kernel
theorem dX10_readRooms_14 : decode cX10_readRooms 14 = .ok (.getfield 61, 3) := by decide +kernel
theorem dX10_readRooms_17 : decode cX10_readRooms 17 = .ok (.putfield 64, 3) := by decide +kernel
theorem dX10_readRooms_20 : decode cX10_readRooms 20 = .ok (.aload_n 0, 1) := by decide +kernel
theorem dX10_readRooms_21 : decode cX10_readRooms 21 = .ok (.iconst 1, 1) := by decide +kernel
theorem dX10_readRooms_22 : decode cX10_readRooms 22 = .ok (.iconst 5, 1) := by decide +kernel
theorem dX10_readRooms_23 : decode cX10_readRooms 23 = .ok (.invokevirtual 57, 3) := by decide +kernel
theorem dX10_readRooms_26 : decode cX10_readRooms 26 = .ok (.ifCond .ne 5, 3) := by decide +kernel
theorem dX10_readRooms_29 : decode cX10_readRooms 29 = .ok (.iconst 0, 1) := by decide +kernel
theorem dX10_readRooms_30 : decode cX10_readRooms 30 = .ok (.ireturn, 1) := by decide +kernel
theorem dX10_readRooms_31 : decode cX10_readRooms 31 = .ok (.aload_n 1, 1) := by decide +kernel
theorem dX10_readRooms_32 : decode cX10_readRooms 32 = .ok (.aload_n 0, 1) := by decide +kernel
theorem dX10_readRooms_33 : decode cX10_readRooms 33 = .ok (.getfield 61, 3) := by decide +kernel
theorem dX10_readRooms_36 : decode cX10_readRooms 36 = .ok (.putfield 67, 3) := by decide +kernel
theorem dX10_readRooms_39 : decode cX10_readRooms 39 = .ok (.aload_n 0, 1) := by decide +kernel
theorem dX10_readRooms_40 : decode cX10_readRooms 40 = .ok (.invokevirtual 70, 3) := by decide +kernel
theorem dX10_readRooms_43 : decode cX10_readRooms 43 = .ok (.ireturn, 1) := by decide +kernel
theorem dX10_readHard_0 : decode cX10_readHard 0 = .ok (.aload_n 0, 1) := by decide +kernel
theorem dX10_readHard_1 : decode cX10_readHard 1 = .ok (.iconst 0, 1) := by decide +kernel
theorem dX10_readHard_2 : decode cX10_readHard 2 = .ok (.bipush 20, 2) := by decide +kernel
theorem dX10_readHard_4 : decode cX10_readHard 4 = .ok (.invokevirtual 57, 3) := by decide +kernel
theorem dX10_readHard_7 : decode cX10_readHard 7 = .ok (.ifCond .ne 5, 3) := by decide +kernel
theorem dX10_readHard_10 : decode cX10_readHard 10 = .ok (.iconst 0, 1) := by decide +kernel
theorem dX10_readHard_11 : decode cX10_readHard 11 = .ok (.ireturn, 1) := by decide +kernel
theorem dX10_readHard_12 : decode cX10_readHard 12 = .ok (.aload_n 1, 1) := by decide +kernel
theorem dX10_readHard_13 : decode cX10_readHard 13 = .ok (.aload_n 0, 1) := by decide +kernel
theorem dX10_readHard_14 : decode cX10_readHard 14 = .ok (.getfield 61, 3) := by decide +kernel
theorem dX10_readHard_17 : decode cX10_readHard 17 = .ok (.putfield 74, 3) := by decide +kernel
theorem dX10_readHard_20 : decode cX10_readHard 20 = .ok (.aload_n 0, 1) := by decide +kernel
theorem dX10_readHard_21 : decode cX10_readHard 21 = .ok (.iconst 1, 1) := by decide +kernel
theorem dX10_readHard_22 : decode cX10_readHard 22 = .ok (.putfield 24, 3) := by decide +kernel
theorem dX10_readHard_25 : decode cX10_readHard 25 = .ok (.aload_n 0, 1) := by decide +kernel
theorem dX10_readHard_26 : decode cX10_readHard 26 = .ok (.invokevirtual 70, 3) := by decide +kernel
theorem dX10_readHard_29 : decode cX10_readHard 29 = .ok (.ireturn, 1) := by decide +kernel
theorem dX10_readSort_0 : decode cX10_readSort 0 = .ok (.aload_n 0, 1) := by decide +kernel
theorem dX10_readSort_1 : decode cX10_readSort 1 = .ok (.iconst 1, 1) := by decide +kernel
theorem dX10_readSort_2 : decode cX10_readSort 2 = .ok (.aload_n 1, 1) := by decide +kernel
theorem dX10_readSort_3 : decode cX10_readSort 3 = .ok (.getfield 67, 3) := by decide +kernel
theorem dX10_readSort_6 : decode cX10_readSort 6 = .ok (.invokevirtual 57, 3) := by decide +kernel
theorem dX10_readSort_9 : decode cX10_readSort 9 = .ok (.ifCond .ne 5, 3) := by decide +kernel
theorem dX10_readSort_12 : decode cX10_readSort 12 = .ok (.iconst 0, 1) := by decide +kernel
theorem dX10_readSort_13 : decode cX10_readSort 13 = .ok (.ireturn, 1) := by decide +kernel
theorem dX10_readSort_14 : decode cX10_readSort 14 = .ok (.aload_n 0, 1) := by decide +kernel
theorem dX10_readSort_15 : decode cX10_readSort 15 = .ok (.getfield 61, 3) := by decide +kernel
theorem dX10_readSort_18 : decode cX10_readSort 18 = .ok (.istore_n 2, 1) := by decide +kernel
theorem dX10_readSort_19 : decode cX10_readSort 19 = .ok (.aload_n 0, 1) := by decide +kernel
theorem dX10_readSort_20 : decode cX10_readSort 20 = .ok (.iconst 0, 1) := by decide +kernel
theorem dX10_readSort_21 : decode cX10_readSort 21 = .ok (.bipush 9, 2) := by decide +kernel
theorem dX10_readSort_23 : decode cX10_readSort 23 = .ok (.invokevirtual 57, 3) := by decide +kernel
theorem dX10_readSort_26 : decode cX10_readSort 26 = .ok (.ifCond .ne 5, 3) := by decide +kernel
theorem dX10_readSort_29 : decode cX10_readSort 29 = .ok (.iconst 0, 1) := by decide +kernel
theorem dX10_readSort_30 : decode cX10_readSort 30 = .ok (.ireturn, 1) := by decide +kernel
theorem dX10_readSort_31 : decode cX10_readSort 31 = .ok (.aload_n 1, 1) := by decide +kernel
theorem dX10_readSort_32 : decode cX10_readSort 32 = .ok (.iload_n 2, 1) := by decide +kernel
theorem dX10_readSort_33 : decode cX10_readSort 33 = .ok (.aload_n 0, 1) := by decide +kernel
theorem dX10_readSort_34 : decode cX10_readSort 34 = .ok (.getfield 61, 3) := by decide +kernel
theorem dX10_readSort_37 : decode cX10_readSort 37 = .ok (.invokevirtual 77, 3) := by decide +kernel
theorem dX10_readSort_40 : decode cX10_readSort 40 = .ok (.aload_n 0, 1) := by decide +kernel
theorem dX10_readSort_41 : decode cX10_readSort 41 = .ok (.invokevirtual 70, 3) := by decide +kernel
theorem dX10_readSort_44 : decode cX10_readSort 44 = .ok (.ireturn, 1) := by decide +kernel
theorem dX10_readNumber_0 : decode cX10_readNumber 0 = .ok (.aload_n 0, 1) := by decide +kernel
theorem dX10_readNumber_1 : decode cX10_readNumber 1 = .ok (.invokevirtual 31, 3) := by decide +kernel
theorem dX10_readNumber_4 : decode cX10_readNumber 4 = .ok (.aload_n 0, 1) := by decide +kernel
theorem dX10_readNumber_5 : decode cX10_readNumber 5 = .ok (.getfield 34, 3) := by decide +kernel
theorem dX10_readNumber_8 : decode cX10_readNumber 8 = .ok (.bipush (-2), 2) := by decide +kernel
theorem dX10_readNumber_10 : decode cX10_readNumber 10 = .ok (.if_icmp .ne 23, 3) := by decide +kernel
theorem dX10_readNumber_13 : decode cX10_readNumber 13 = .ok (.aload_n 0, 1) := by decide +kernel
theorem dX10_readNumber_14 : decode cX10_readNumber 14 = .ok (.getfield 61, 3) := by decide +kernel
theorem dX10_readNumber_17 : decode cX10_readNumber 17 = .ok (.iload_n 1, 1) := by decide +kernel
theorem dX10_readNumber_18 : decode cX10_readNumber 18 = .ok (.if_icmp .lt 15, 3) := by decide +kernel
theorem dX10_readNumber_21 : decode cX10_readNumber 21 = .ok (.aload_n 0, 1) := by decide +kernel
theorem dX10_readNumber_22 : decode cX10_readNumber 22 = .ok (.getfield 61, 3) := by decide +kernel
theorem dX10_readNumber_25 : decode cX10_readNumber 25 = .ok (.iload_n 2, 1) := by decide +kernel
theorem dX10_readNumber_26 : decode cX10_readNumber 26 = .ok (.if_icmp .gt 7, 3) := by decide +kernel
theorem dX10_readNumber_29 : decode cX10_readNumber 29 = .ok (.iconst 1, 1) := by decide +kernel
theorem dX10_readNumber_30 : decode cX10_readNumber 30 = .ok (.goto 4, 3) := by decide +kernel
theorem dX10_readNumber_33 : decode cX10_readNumber 33 = .ok (.iconst 0, 1) := by decide +kernel
theorem dX10_readNumber_34 : decode cX10_readNumber 34 = .ok (.ireturn, 1) := by decide +kernel
theorem dX10_readSemicolon_0 : decode cX10_readSemicolon 0 = .ok (.aload_n 0, 1) := by decide +kernel
theorem dX10_readSemicolon_1 : decode cX10_readSemicolon 1 = .ok (.invokevirtual 31, 3) := by decide +kernel
theorem dX10_readSemicolon_4 : decode cX10_readSemicolon 4 = .ok (.aload_n 0, 1) := by decide +kernel
theorem dX10_readSemicolon_5 : decode cX10_readSemicolon 5 = .ok (.getfield 34, 3) := by decide +kernel
theorem dX10_readSemicolon_8 : decode cX10_readSemicolon 8 = .ok (.bipush 59, 2) := by decide +kernel
theorem dX10_readSemicolon_10 : decode cX10_readSemicolon 10 = .ok (.if_icmp .ne 7, 3) := by decide +kernel
theorem dX10_readSemicolon_13 : decode cX10_readSemicolon 13 = .ok (.iconst 1, 1) := by decide +kernel
theorem dX10_readSemicolon_14 : decode cX10_readSemicolon 14 = .ok (.goto 4, 3) := by decide +kernel
theorem dX10_readSemicolon_17 : decode cX10_readSemicolon 17 = .ok (.iconst 0, 1) := by decide +kernel
theorem dX10_readSemicolon_18 : decode cX10_readSemicolon 18 = .ok (.ireturn, 1) := by decide +kernel
theorem dX10_readToken_0 : decode cX10_readToken 0 = .ok (.aload_n 0, 1) := by decide +kernel
theorem dX10_readToken_1 : decode cX10_readToken 1 = .ok (.getfield 28, 3) := by decide +kernel
theorem dX10_readToken_4 : decode cX10_readToken 4 = .ok (.aload_n 0, 1) := by decide +kernel
theorem dX10_readToken_5 : decode cX10_readToken 5 = .ok (.getfield 15, 3) := by decide +kernel
theorem dX10_readToken_8 : decode cX10_readToken 8 = .ok (.if_icmp .ge 30, 3) := by decide +kernel
theorem dX10_readToken_11 : decode cX10_readToken 11 = .ok (.aload_n 0, 1) := by decide +kernel
theorem dX10_readToken_12 : decode cX10_readToken 12 = .ok (.getfield 9, 3) := by decide +kernel
theorem dX10_readToken_15 : decode cX10_readToken 15 = .ok (.aload_n 0, 1) := by decide +kernel
theorem dX10_readToken_16 : decode cX10_readToken 16 = .ok (.getfield 28, 3) := by decide +kernel
theorem dX10_readToken_19 : decode cX10_readToken 19 = .ok (.iaload, 1) := by decide +kernel
theorem dX10_readToken_20 : decode cX10_readToken 20 = .ok (.bipush 32, 2) := by decide +kernel
theorem dX10_readToken_22 : decode cX10_readToken 22 = .ok (.if_icmp .ne 16, 3) := by decide +kernel
theorem dX10_readToken_25 : decode cX10_readToken 25 = .ok (.aload_n 0, 1) := by decide +kernel
theorem dX10_readToken_26 : decode cX10_readToken 26 = .ok (.dup, 1) := by decide +kernel
theorem dX10_readToken_27 : decode cX10_readToken 27 = .ok (.getfield 28, 3) := by decide +kernel
theorem dX10_readToken_30 : decode cX10_readToken 30 = .ok (.iconst 1, 1) := by decide +kernel
theorem dX10_readToken_31 : decode cX10_readToken 31 = .ok (.iadd, 1) := by decide +kernel
theorem dX10_readToken_32 : decode cX10_readToken 32 = .ok (.putfield 28, 3) := by decide +kernel
theorem dX10_readToken_35 : decode cX10_readToken 35 = .ok (.goto (-35), 3) := by decide +kernel
theorem dX10_readToken_38 : decode cX10_readToken 38 = .ok (.aload_n 0, 1) := by decide +kernel
theorem dX10_readToken_39 : decode cX10_readToken 39 = .ok (.aload_n 0, 1) := by decide +kernel
theorem dX10_readToken_40 : decode cX10_readToken 40 = .ok (.getfield 28, 3) := by decide +kernel
theorem dX10_readToken_43 : decode cX10_readToken 43 = .ok (.putfield 41, 3) := by decide +kernel
theorem dX10_readToken_46 : decode cX10_readToken 46 = .ok (.aload_n 0, 1) := by decide +kernel
theorem dX10_readToken_47 : decode cX10_readToken 47 = .ok (.getfield 28, 3) := by decide +kernel
theorem dX10_readToken_50 : decode cX10_readToken 50 = .ok (.aload_n 0, 1) := by decide +kernel
theorem dX10_readToken_51 : decode cX10_readToken 51 = .ok (.getfield 15, 3) := by decide +kernel
theorem dX10_readToken_54 : decode cX10_readToken 54 = .ok (.if_icmp .lt 9, 3) := by decide +kernel
theorem dX10_readToken_57 : decode cX10_readToken 57 = .ok (.aload_n 0, 1) := by decide +kernel
theorem dX10_readToken_58 : decode cX10_readToken 58 = .ok (.iconst (-1), 1) := by decide +kernel
theorem dX10_readToken_59 : decode cX10_readToken 59 = .ok (.putfield 34, 3) := by decide +kernel
theorem dX10_readToken_62 : decode cX10_readToken 62 = .ok (.return_, 1) := by decide +kernel
theorem dX10_readToken_63 : decode cX10_readToken 63 = .ok (.aload_n 0, 1) := by decide +kernel
theorem dX10_readToken_64 : decode cX10_readToken 64 = .ok (.getfield 9, 3) := by decide +kernel
theorem dX10_readToken_67 : decode cX10_readToken 67 = .ok (.aload_n 0, 1) := by decide +kernel
theorem dX10_readToken_68 : decode cX10_readToken 68 = .ok (.getfield 28, 3) := by decide +kernel
theorem dX10_readToken_71 : decode cX10_readToken 71 = .ok (.iaload, 1) := by decide +kernel
theorem dX10_readToken_72 : decode cX10_readToken 72 = .ok (.istore_n 1, 1) := by decide +kernel
theorem dX10_readToken_73 : decode cX10_readToken 73 = .ok (.iload_n 1, 1) := by decide +kernel
theorem dX10_readToken_74 : decode cX10_readToken 74 = .ok (.bipush 48, 2) := by decide +kernel
theorem dX10_readToken_76 : decode cX10_readToken 76 = .ok (.if_icmp .lt 16, 3) := by decide +kernel
theorem dX10_readToken_79 : decode cX10_readToken 79 = .ok (.iload_n 1, 1) := by decide +kernel
theorem dX10_readToken_80 : decode cX10_readToken 80 = .ok (.bipush 57, 2) := by decide +kernel
theorem dX10_readToken_82 : decode cX10_readToken 82 = .ok (.if_icmp .gt 10, 3) := by decide +kernel
theorem dX10_readToken_85 : decode cX10_readToken 85 = .ok (.aload_n 0, 1) := by decide +kernel
theorem dX10_readToken_86 : decode cX10_readToken 86 = .ok (.invokevirtual 81, 3) := by decide +kernel
theorem dX10_readToken_89 : decode cX10_readToken 89 = .ok (.goto 47, 3) := by decide +kernel
theorem dX10_readToken_92 : decode cX10_readToken 92 = .ok (.aload_n 0, 1) := by decide +kernel
theorem dX10_readToken_93 : decode cX10_readToken 93 = .ok (.iload_n 1, 1) := by decide +kernel
theorem dX10_readToken_94 : decode cX10_readToken 94 = .ok (.bipush 114, 2) := by decide +kernel
theorem dX10_readToken_96 : decode cX10_readToken 96 = .ok (.if_icmp .eq 21, 3) := by decide +kernel
theorem dX10_readToken_99 : decode cX10_readToken 99 = .ok (.iload_n 1, 1) := by decide +kernel
theorem dX10_readToken_100 : decode cX10_readToken 100 = .ok (.bipush 104, 2) := by decide +kernel
theorem dX10_readToken_102 : decode cX10_readToken 102 = .ok (.if_icmp .eq 15, 3) := by decide +kernel
theorem dX10_readToken_105 : decode cX10_readToken 105 = .ok (.iload_n 1, 1) := by decide +kernel
theorem dX10_readToken_106 : decode cX10_readToken 106 = .ok (.bipush 115, 2) := by decide +kernel
theorem dX10_readToken_108 : decode cX10_readToken 108 = .ok (.if_icmp .eq 9, 3) := by decide +kernel
theorem dX10_readToken_111 : decode cX10_readToken 111 = .ok (.iload_n 1, 1) := by decide +kernel
theorem dX10_readToken_112 : decode cX10_readToken 112 = .ok (.bipush 59, 2) := by decide +kernel
theorem dX10_readToken_114 : decode cX10_readToken 114 = .ok (.if_icmp .ne 7, 3) := by decide +kernel
theorem dX10_readToken_117 : decode cX10_readToken 117 = .ok (.iload_n 1, 1) := by decide +kernel
theorem dX10_readToken_118 : decode cX10_readToken 118 = .ok (.goto 5, 3) := by decide +kernel
theorem dX10_readToken_121 : decode cX10_readToken 121 = .ok (.bipush (-3), 2) := by decide +kernel
theorem dX10_readToken_123 : decode cX10_readToken 123 = .ok (.putfield 34, 3) := by decide +kernel
theorem dX10_readToken_126 : decode cX10_readToken 126 = .ok (.aload_n 0, 1) := by decide +kernel
theorem dX10_readToken_127 : decode cX10_readToken 127 = .ok (.dup, 1) := by decide +kernel
theorem dX10_readToken_128 : decode cX10_readToken 128 = .ok (.getfield 28, 3) := by decide +kernel
theorem dX10_readToken_131 : decode cX10_readToken 131 = .ok (.iconst 1, 1) := by decide +kernel
theorem dX10_readToken_132 : decode cX10_readToken 132 = .ok (.iadd, 1) := by decide +kernel
theorem dX10_readToken_133 : decode cX10_readToken 133 = .ok (.putfield 28, 3) := by decide +kernel
theorem dX10_readToken_136 : decode cX10_readToken 136 = .ok (.return_, 1) := by decide +kernel
theorem dX10_readDigits_0 : decode cX10_readDigits 0 = .ok (.aload_n 0, 1) := by decide +kernel
theorem dX10_readDigits_1 : decode cX10_readDigits 1 = .ok (.iconst 0, 1) := by decide +kernel
theorem dX10_readDigits_2 : decode cX10_readDigits 2 = .ok (.putfield 61, 3) := by decide +kernel
theorem dX10_readDigits_5 : decode cX10_readDigits 5 = .ok (.aload_n 0, 1) := by decide +kernel
theorem dX10_readDigits_6 : decode cX10_readDigits 6 = .ok (.getfield 28, 3) := by decide +kernel
theorem dX10_readDigits_9 : decode cX10_readDigits 9 = .ok (.aload_n 0, 1) := by decide +kernel
theorem dX10_readDigits_10 : decode cX10_readDigits 10 = .ok (.getfield 15, 3) := by decide +kernel
theorem dX10_readDigits_13 : decode cX10_readDigits 13 = .ok (.if_icmp .ge 88, 3) := by decide +kernel
theorem dX10_readDigits_16 : decode cX10_readDigits 16 = .ok (.aload_n 0, 1) := by decide +kernel
theorem dX10_readDigits_17 : decode cX10_readDigits 17 = .ok (.getfield 9, 3) := by decide +kernel
theorem dX10_readDigits_20 : decode cX10_readDigits 20 = .ok (.aload_n 0, 1) := by decide +kernel
theorem dX10_readDigits_21 : decode cX10_readDigits 21 = .ok (.getfield 28, 3) := by decide +kernel
theorem dX10_readDigits_24 : decode cX10_readDigits 24 = .ok (.iaload, 1) := by decide +kernel
theorem dX10_readDigits_25 : decode cX10_readDigits 25 = .ok (.bipush 48, 2) := by decide +kernel
theorem dX10_readDigits_27 : decode cX10_readDigits 27 = .ok (.if_icmp .lt 74, 3) := by decide +kernel
theorem dX10_readDigits_30 : decode cX10_readDigits 30 = .ok (.aload_n 0, 1) := by decide +kernel
theorem dX10_readDigits_31 : decode cX10_readDigits 31 = .ok (.getfield 9, 3) := by decide +kernel
theorem dX10_readDigits_34 : decode cX10_readDigits 34 = .ok (.aload_n 0, 1) := by decide +kernel
theorem dX10_readDigits_35 : decode cX10_readDigits 35 = .ok (.getfield 28, 3) := by decide +kernel
theorem dX10_readDigits_38 : decode cX10_readDigits 38 = .ok (.iaload, 1) := by decide +kernel
theorem dX10_readDigits_39 : decode cX10_readDigits 39 = .ok (.bipush 57, 2) := by decide +kernel
theorem dX10_readDigits_41 : decode cX10_readDigits 41 = .ok (.if_icmp .gt 60, 3) := by decide +kernel
theorem dX10_readDigits_44 : decode cX10_readDigits 44 = .ok (.aload_n 0, 1) := by decide +kernel
theorem dX10_readDigits_45 : decode cX10_readDigits 45 = .ok (.aload_n 0, 1) := by decide +kernel
theorem dX10_readDigits_46 : decode cX10_readDigits 46 = .ok (.getfield 28, 3) := by decide +kernel
theorem dX10_readDigits_49 : decode cX10_readDigits 49 = .ok (.aload_n 0, 1) := by decide +kernel
theorem dX10_readDigits_50 : decode cX10_readDigits 50 = .ok (.getfield 41, 3) := by decide +kernel
theorem dX10_readDigits_53 : decode cX10_readDigits 53 = .ok (.isub, 1) := by decide +kernel
theorem dX10_readDigits_54 : decode cX10_readDigits 54 = .ok (.iconst 2, 1) := by decide +kernel
theorem dX10_readDigits_55 : decode cX10_readDigits 55 = .ok (.if_icmp .ge 26, 3) := by decide +kernel
theorem dX10_readDigits_58 : decode cX10_readDigits 58 = .ok (.aload_n 0, 1) := by decide +kernel
theorem dX10_readDigits_59 : decode cX10_readDigits 59 = .ok (.getfield 61, 3) := by decide +kernel
theorem dX10_readDigits_62 : decode cX10_readDigits 62 = .ok (.bipush 10, 2) := by decide +kernel
theorem dX10_readDigits_64 : decode cX10_readDigits 64 = .ok (.imul, 1) := by decide +kernel
theorem dX10_readDigits_65 : decode cX10_readDigits 65 = .ok (.aload_n 0, 1) := by decide +kernel
theorem dX10_readDigits_66 : decode cX10_readDigits 66 = .ok (.getfield 9, 3) := by decide +kernel
theorem dX10_readDigits_69 : decode cX10_readDigits 69 = .ok (.aload_n 0, 1) := by decide +kernel
theorem dX10_readDigits_70 : decode cX10_readDigits 70 = .ok (.getfield 28, 3) := by decide +kernel
theorem dX10_readDigits_73 : decode cX10_readDigits 73 = .ok (.iaload, 1) := by decide +kernel
theorem dX10_readDigits_74 : decode cX10_readDigits 74 = .ok (.iadd, 1) := by decide +kernel
theorem dX10_readDigits_75 : decode cX10_readDigits 75 = .ok (.bipush 48, 2) := by decide +kernel
theorem dX10_readDigits_77 : decode cX10_readDigits 77 = .ok (.isub, 1) := by decide +kernel
theorem dX10_readDigits_78 : decode cX10_readDigits 78 = .ok (.goto 7, 3) := by decide +kernel
theorem dX10_readDigits_81 : decode cX10_readDigits 81 = .ok (.aload_n 0, 1) := by decide +kernel
theorem dX10_readDigits_82 : decode cX10_readDigits 82 = .ok (.getfield 61, 3) := by decide +kernel
theorem dX10_readDigits_85 : decode cX10_readDigits 85 = .ok (.putfield 61, 3) := by decide +kernel
theorem dX10_readDigits_88 : decode cX10_readDigits 88 = .ok (.aload_n 0, 1) := by decide +kernel
theorem dX10_readDigits_89 : decode cX10_readDigits 89 = .ok (.dup, 1) := by decide +kernel
theorem dX10_readDigits_90 : decode cX10_readDigits 90 = .ok (.getfield 28, 3) := by decide +kernel
theorem dX10_readDigits_93 : decode cX10_readDigits 93 = .ok (.iconst 1, 1) := by decide +kernel
theorem dX10_readDigits_94 : decode cX10_readDigits 94 = .ok (.iadd, 1) := by decide +kernel
theorem dX10_readDigits_95 : decode cX10_readDigits 95 = .ok (.putfield 28, 3) := by decide +kernel
theorem dX10_readDigits_98 : decode cX10_readDigits 98 = .ok (.goto (-93), 3) := by decide +kernel
theorem dX10_readDigits_101 : decode cX10_readDigits 101 = .ok (.aload_n 0, 1) := by decide +kernel
theorem dX10_readDigits_102 : decode cX10_readDigits 102 = .ok (.getfield 28, 3) := by decide +kernel
theorem dX10_readDigits_105 : decode cX10_readDigits 105 = .ok (.aload_n 0, 1) := by decide +kernel
theorem dX10_readDigits_106 : decode cX10_readDigits 106 = .ok (.getfield 41, 3) := by decide +kernel
theorem dX10_readDigits_109 : decode cX10_readDigits 109 = .ok (.isub, 1) := by decide +kernel
theorem dX10_readDigits_110 : decode cX10_readDigits 110 = .ok (.istore_n 1, 1) := by decide +kernel
theorem dX10_readDigits_111 : decode cX10_readDigits 111 = .ok (.iload_n 1, 1) := by decide +kernel
theorem dX10_readDigits_112 : decode cX10_readDigits 112 = .ok (.iconst 1, 1) := by decide +kernel
theorem dX10_readDigits_113 : decode cX10_readDigits 113 = .ok (.if_icmp .le 16, 3) := by decide +kernel
theorem dX10_readDigits_116 : decode cX10_readDigits 116 = .ok (.aload_n 0, 1) := by decide +kernel
theorem dX10_readDigits_117 : decode cX10_readDigits 117 = .ok (.getfield 61, 3) := by decide +kernel
theorem dX10_readDigits_120 : decode cX10_readDigits 120 = .ok (.bipush 10, 2) := by decide +kernel
theorem dX10_readDigits_122 : decode cX10_readDigits 122 = .ok (.if_icmp .ge 7, 3) := by decide +kernel
theorem dX10_readDigits_125 : decode cX10_readDigits 125 = .ok (.iconst 1, 1) := by decide +kernel
theorem dX10_readDigits_126 : decode cX10_readDigits 126 = .ok (.goto 4, 3) := by decide +kernel
theorem dX10_readDigits_129 : decode cX10_readDigits 129 = .ok (.iconst 0, 1) := by decide +kernel
theorem dX10_readDigits_130 : decode cX10_readDigits 130 = .ok (.istore_n 2, 1) := by decide +kernel
theorem dX10_readDigits_131 : decode cX10_readDigits 131 = .ok (.aload_n 0, 1) := by decide +kernel
theorem dX10_readDigits_132 : decode cX10_readDigits 132 = .ok (.iload_n 1, 1) := by decide +kernel
theorem dX10_readDigits_133 : decode cX10_readDigits 133 = .ok (.iconst 2, 1) := by decide +kernel
theorem dX10_readDigits_134 : decode cX10_readDigits 134 = .ok (.if_icmp .gt 7, 3) := by decide +kernel
theorem dX10_readDigits_137 : decode cX10_readDigits 137 = .ok (.iload_n 2, 1) := by decide +kernel
theorem dX10_readDigits_138 : decode cX10_readDigits 138 = .ok (.ifCond .eq 8, 3) := by decide +kernel
theorem dX10_readDigits_141 : decode cX10_readDigits 141 = .ok (.bipush (-3), 2) := by decide +kernel
theorem dX10_readDigits_143 : decode cX10_readDigits 143 = .ok (.goto 5, 3) := by decide +kernel
theorem dX10_readDigits_146 : decode cX10_readDigits 146 = .ok (.bipush (-2), 2) := by decide +kernel
theorem dX10_readDigits_148 : decode cX10_readDigits 148 = .ok (.putfield 34, 3) := by decide +kernel
theorem dX10_readDigits_151 : decode cX10_readDigits 151 = .ok (.return_, 1) := by decide +kernel
theorem dX11_init_0 : decode cX11_init 0 = .ok (.aload_n 0, 1) := by decide +kernel
theorem dX11_init_1 : decode cX11_init 1 = .ok (.invokespecial 1, 3) := by decide +kernel
theorem dX11_init_4 : decode cX11_init 4 = .ok (.aload_n 0, 1) := by decide +kernel
theorem dX11_init_5 : decode cX11_init 5 = .ok (.new 7, 3) := by decide +kernel
theorem dX11_init_8 : decode cX11_init 8 = .ok (.dup, 1) := by decide +kernel
theorem dX11_init_9 : decode cX11_init 9 = .ok (.invokespecial 9, 3) := by decide +kernel
theorem dX11_init_12 : decode cX11_init 12 = .ok (.putfield 10, 3) := by decide +kernel
theorem dX11_init_15 : decode cX11_init 15 = .ok (.aload_n 0, 1) := by decide +kernel
theorem dX11_init_16 : decode cX11_init 16 = .ok (.new 16, 3) := by decide +kernel
theorem dX11_init_19 : decode cX11_init 19 = .ok (.dup, 1) := by decide +kernel
theorem dX11_init_20 : decode cX11_init 20 = .ok (.invokespecial 18, 3) := by decide +kernel
theorem dX11_init_23 : decode cX11_init 23 = .ok (.putfield 19, 3) := by decide +kernel
theorem dX11_init_26 : decode cX11_init 26 = .ok (.aload_n 0, 1) := by decide +kernel
theorem dX11_init_27 : decode cX11_init 27 = .ok (.new 16, 3) := by decide +kernel
theorem dX11_init_30 : decode cX11_init 30 = .ok (.dup, 1) := by decide +kernel
theorem dX11_init_31 : decode cX11_init 31 = .ok (.invokespecial 18, 3) := by decide +kernel
theorem dX11_init_34 : decode cX11_init 34 = .ok (.putfield 23, 3) := by decide +kernel
theorem dX11_init_37 : decode cX11_init 37 = .ok (.aload_n 0, 1) := by decide +kernel
theorem dX11_init_38 : decode cX11_init 38 = .ok (.new 26, 3) := by decide +kernel
theorem dX11_init_41 : decode cX11_init 41 = .ok (.dup, 1) := by decide +kernel
theorem dX11_init_42 : decode cX11_init 42 = .ok (.aload_n 0, 1) := by decide +kernel
theorem dX11_init_43 : decode cX11_init 43 = .ok (.getfield 19, 3) := by decide +kernel
theorem dX11_init_46 : decode cX11_init 46 = .ok (.invokespecial 28, 3) := by decide +kernel
theorem dX11_init_49 : decode cX11_init 49 = .ok (.putfield 31, 3) := by decide +kernel
theorem dX11_init_52 : decode cX11_init 52 = .ok (.aload_n 0, 1) := by decide +kernel
theorem dX11_init_53 : decode cX11_init 53 = .ok (.new 26, 3) := by decide +kernel
theorem dX11_init_56 : decode cX11_init 56 = .ok (.dup, 1) := by decide +kernel
theorem dX11_init_57 : decode cX11_init 57 = .ok (.aload_n 0, 1) := by decide +kernel
theorem dX11_init_58 : decode cX11_init 58 = .ok (.getfield 19, 3) := by decide +kernel
theorem dX11_init_61 : decode cX11_init 61 = .ok (.invokespecial 28, 3) := by decide +kernel
theorem dX11_init_64 : decode cX11_init 64 = .ok (.putfield 35, 3) := by decide +kernel
theorem dX11_init_67 : decode cX11_init 67 = .ok (.aload_n 0, 1) := by decide +kernel
theorem dX11_init_68 : decode cX11_init 68 = .ok (.new 38, 3) := by decide +kernel
theorem dX11_init_71 : decode cX11_init 71 = .ok (.dup, 1) := by decide +kernel
theorem dX11_init_72 : decode cX11_init 72 = .ok (.aload_n 0, 1) := by decide +kernel
theorem dX11_init_73 : decode cX11_init 73 = .ok (.getfield 19, 3) := by decide +kernel
theorem dX11_init_76 : decode cX11_init 76 = .ok (.invokespecial 40, 3) := by decide +kernel
theorem dX11_init_79 : decode cX11_init 79 = .ok (.putfield 41, 3) := by decide +kernel
theorem dX11_init_82 : decode cX11_init 82 = .ok (.aload_n 0, 1) := by decide +kernel
theorem dX11_init_83 : decode cX11_init 83 = .ok (.iconst 2, 1) := by decide +kernel
theorem dX11_init_84 : decode cX11_init 84 = .ok (.anewarray 26, 3) := by decide +kernel
theorem dX11_init_87 : decode cX11_init 87 = .ok (.dup, 1) := by decide +kernel
theorem dX11_init_88 : decode cX11_init 88 = .ok (.iconst 0, 1) := by decide +kernel
theorem dX11_init_89 : decode cX11_init 89 = .ok (.new 26, 3) := by decide +kernel
theorem dX11_init_92 : decode cX11_init 92 = .ok (.dup, 1) := by decide +kernel
theorem dX11_init_93 : decode cX11_init 93 = .ok (.aload_n 0, 1) := by decide +kernel
theorem dX11_init_94 : decode cX11_init 94 = .ok (.getfield 19, 3) := by decide +kernel
theorem dX11_init_97 : decode cX11_init 97 = .ok (.invokespecial 28, 3) := by decide +kernel
theorem dX11_init_100 : decode cX11_init 100 = .ok (.aastore, 1) := by decide +kernel
theorem dX11_init_101 : decode cX11_init 101 = .ok (.dup, 1) := by decide +kernel
theorem dX11_init_102 : decode cX11_init 102 = .ok (.iconst 1, 1) := by decide +kernel
theorem dX11_init_103 : decode cX11_init 103 = .ok (.new 26, 3) := by decide +kernel
theorem dX11_init_106 : decode cX11_init 106 = .ok (.dup, 1) := by decide +kernel
theorem dX11_init_107 : decode cX11_init 107 = .ok (.aload_n 0, 1) := by decide +kernel
theorem dX11_init_108 : decode cX11_init 108 = .ok (.getfield 19, 3) := by decide +kernel
theorem dX11_init_111 : decode cX11_init 111 = .ok (.invokespecial 28, 3) := by decide +kernel
theorem dX11_init_114 : decode cX11_init 114 = .ok (.aastore, 1) := by decide +kernel
theorem dX11_init_115 : decode cX11_init 115 = .ok (.putfield 45, 3) := by decide +kernel
theorem dX11_init_118 : decode cX11_init 118 = .ok (.aload_n 0, 1) := by decide +kernel
theorem dX11_init_119 : decode cX11_init 119 = .ok (.iconst 2, 1) := by decide +kernel
theorem dX11_init_120 : decode cX11_init 120 = .ok (.newarray .boolean, 2) := by decide +kernel
theorem dX11_init_122 : decode cX11_init 122 = .ok (.putfield 49, 3) := by decide +kernel
theorem dX11_init_125 : decode cX11_init 125 = .ok (.aload_n 0, 1) := by decide +kernel
theorem dX11_init_126 : decode cX11_init 126 = .ok (.new 53, 3) := by decide +kernel
theorem dX11_init_129 : decode cX11_init 129 = .ok (.dup, 1) := by decide +kernel
theorem dX11_init_130 : decode cX11_init 130 = .ok (.aload_n 0, 1) := by decide +kernel
theorem dX11_init_131 : decode cX11_init 131 = .ok (.getfield 19, 3) := by decide +kernel
theorem dX11_init_134 : decode cX11_init 134 = .ok (.invokespecial 55, 3) := by decide +kernel
theorem dX11_init_137 : decode cX11_init 137 = .ok (.putfield 56, 3) := by decide +kernel
theorem dX11_init_140 : decode cX11_init 140 = .ok (.aload_n 0, 1) := by decide +kernel
theorem dX11_init_141 : decode cX11_init 141 = .ok (.bipush 82, 2) := by decide +kernel
theorem dX11_init_143 : decode cX11_init 143 = .ok (.newarray .long, 2) := by decide +kernel
theorem dX11_init_145 : decode cX11_init 145 = .ok (.putfield 60, 3) := by decide +kernel
theorem dX11_init_148 : decode cX11_init 148 = .ok (.aload_n 0, 1) := by decide +kernel
theorem dX11_init_149 : decode cX11_init 149 = .ok (.bipush 6, 2) := by decide +kernel
theorem dX11_init_151 : decode cX11_init 151 = .ok (.anewarray 64, 3) := by decide +kernel
theorem dX11_init_154 : decode cX11_init 154 = .ok (.dup, 1) := by decide +kernel
theorem dX11_init_155 : decode cX11_init 155 = .ok (.iconst 0, 1) := by decide +kernel
theorem dX11_init_156 : decode cX11_init 156 = .ok (.new 64, 3) := by decide +kernel
theorem dX11_init_159 : decode cX11_init 159 = .ok (.dup, 1) := by decide +kernel
theorem dX11_init_160 : decode cX11_init 160 = .ok (.invokespecial 66, 3) := by decide +kernel
theorem dX11_init_163 : decode cX11_init 163 = .ok (.aastore, 1) := by decide +kernel
theorem dX11_init_164 : decode cX11_init 164 = .ok (.dup, 1) := by decide +kernel
theorem dX11_init_165 : decode cX11_init 165 = .ok (.iconst 1, 1) := by decide +kernel
theorem dX11_init_166 : decode cX11_init 166 = .ok (.new 67, 3) := by decide +kernel
theorem dX11_init_169 : decode cX11_init 169 = .ok (.dup, 1) := by decide +kernel
theorem dX11_init_170 : decode cX11_init 170 = .ok (.invokespecial 69, 3) := by decide +kernel
theorem dX11_init_173 : decode cX11_init 173 = .ok (.aastore, 1) := by decide +kernel
theorem dX11_init_174 : decode cX11_init 174 = .ok (.dup, 1) := by decide +kernel
theorem dX11_init_175 : decode cX11_init 175 = .ok (.iconst 2, 1) := by decide +kernel
theorem dX11_init_176 : decode cX11_init 176 = .ok (.new 70, 3) := by decide +kernel
theorem dX11_init_179 : decode cX11_init 179 = .ok (.dup, 1) := by decide +kernel
theorem dX11_init_180 : decode cX11_init 180 = .ok (.invokespecial 72, 3) := by decide +kernel
theorem dX11_init_183 : decode cX11_init 183 = .ok (.aastore, 1) := by decide +kernel
theorem dX11_init_184 : decode cX11_init 184 = .ok (.dup, 1) := by decide +kernel
theorem dX11_init_185 : decode cX11_init 185 = .ok (.iconst 3, 1) := by decide +kernel
theorem dX11_init_186 : decode cX11_init 186 = .ok (.new 73, 3) := by decide +kernel
theorem dX11_init_189 : decode cX11_init 189 = .ok (.dup, 1) := by decide +kernel
theorem dX11_init_190 : decode cX11_init 190 = .ok (.invokespecial 75, 3) := by decide +kernel
theorem dX11_init_193 : decode cX11_init 193 = .ok (.aastore, 1) := by decide +kernel
theorem dX11_init_194 : decode cX11_init 194 = .ok (.dup, 1) := by decide +kernel
theorem dX11_init_195 : decode cX11_init 195 = .ok (.iconst 4, 1) := by decide +kernel
theorem dX11_init_196 : decode cX11_init 196 = .ok (.new 76, 3) := by decide +kernel
theorem dX11_init_199 : decode cX11_init 199 = .ok (.dup, 1) := by decide +kernel
theorem dX11_init_200 : decode cX11_init 200 = .ok (.invokespecial 78, 3) := by decide +kernel
theorem dX11_init_203 : decode cX11_init 203 = .ok (.aastore, 1) := by decide +kernel
theorem dX11_init_204 : decode cX11_init 204 = .ok (.dup, 1) := by decide +kernel
theorem dX11_init_205 : decode cX11_init 205 = .ok (.iconst 5, 1) := by decide +kernel
theorem dX11_init_206 : decode cX11_init 206 = .ok (.new 79, 3) := by decide +kernel
theorem dX11_init_209 : decode cX11_init 209 = .ok (.dup, 1) := by decide +kernel
theorem dX11_init_210 : decode cX11_init 210 = .ok (.invokespecial 81, 3) := by decide +kernel
theorem dX11_init_213 : decode cX11_init 213 = .ok (.aastore, 1) := by decide +kernel
theorem dX11_init_214 : decode cX11_init 214 = .ok (.putfield 82, 3) := by decide +kernel
theorem dX11_init_217 : decode cX11_init 217 = .ok (.return_, 1) := by decide +kernel
theorem dX11_type_0 : decode cX11_type 0 = .ok (.iload_n 1, 1) := by decide +kernel
theorem dX11_type_1 : decode cX11_type 1 = .ok (.ifCond .lt 10, 3) := by decide +kernel
theorem dX11_type_4 : decode cX11_type 4 = .ok (.iload_n 1, 1) := by decide +kernel
theorem dX11_type_5 : decode cX11_type 5 = .ok (.sipush 255, 3) := by decide +kernel
theorem dX11_type_8 : decode cX11_type 8 = .ok (.if_icmp .le 5, 3) := by decide +kernel
theorem dX11_type_11 : decode cX11_type 11 = .ok (.iconst (-1), 1) := by decide +kernel
theorem dX11_type_12 : decode cX11_type 12 = .ok (.ireturn, 1) := by decide +kernel
theorem dX11_type_13 : decode cX11_type 13 = .ok (.aload_n 0, 1) := by decide +kernel
theorem dX11_type_14 : decode cX11_type 14 = .ok (.getfield 10, 3) := by decide +kernel
theorem dX11_type_17 : decode cX11_type 17 = .ok (.iload_n 1, 1) := by decide +kernel
theorem dX11_type_18 : decode cX11_type 18 = .ok (.invokevirtual 86, 3) := by decide +kernel
theorem dX11_type_21 : decode cX11_type 21 = .ok (.ifCond .eq 13, 3) := by decide +kernel
theorem dX11_type_24 : decode cX11_type 24 = .ok (.aload_n 0, 1) := by decide +kernel
theorem dX11_type_25 : decode cX11_type 25 = .ok (.getfield 10, 3) := by decide +kernel
theorem dX11_type_28 : decode cX11_type 28 = .ok (.getfield 90, 3) := by decide +kernel
theorem dX11_type_31 : decode cX11_type 31 = .ok (.goto 5, 3) := by decide +kernel
theorem dX11_type_34 : decode cX11_type 34 = .ok (.bipush (-3), 2) := by decide +kernel
theorem dX11_type_36 : decode cX11_type 36 = .ok (.ireturn, 1) := by decide +kernel
theorem dX11_clear_0 : decode cX11_clear 0 = .ok (.aload_n 0, 1) := by decide +kernel
theorem dX11_clear_1 : decode cX11_clear 1 = .ok (.getfield 10, 3) := by decide +kernel
theorem dX11_clear_4 : decode cX11_clear 4 = .ok (.getfield 90, 3) := by decide +kernel
theorem dX11_clear_7 : decode cX11_clear 7 = .ok (.istore_n 1, 1) := by decide +kernel
theorem dX11_clear_8 : decode cX11_clear 8 = .ok (.aload_n 0, 1) := by decide +kernel
theorem dX11_clear_9 : decode cX11_clear 9 = .ok (.getfield 10, 3) := by decide +kernel
theorem dX11_clear_12 : decode cX11_clear 12 = .ok (.iconst 0, 1) := by decide +kernel
theorem dX11_clear_13 : decode cX11_clear 13 = .ok (.putfield 90, 3) := by decide +kernel
theorem dX11_clear_16 : decode cX11_clear 16 = .ok (.iload_n 1, 1) := by decide +kernel
theorem dX11_clear_17 : decode cX11_clear 17 = .ok (.ireturn, 1) := by decide +kernel
theorem dX11_door_0 : decode cX11_door 0 = .ok (.aload_n 0, 1) := by decide +kernel
theorem dX11_door_1 : decode cX11_door 1 = .ok (.getfield 10, 3) := by decide +kernel
theorem dX11_door_4 : decode cX11_door 4 = .ok (.aload_n 0, 1) := by decide +kernel
theorem dX11_door_5 : decode cX11_door 5 = .ok (.getfield 23, 3) := by decide +kernel
theorem dX11_door_8 : decode cX11_door 8 = .ok (.invokevirtual 94, 3) := by decide +kernel
theorem dX11_door_11 : decode cX11_door 11 = .ok (.istore_n 1, 1) := by decide +kernel
theorem dX11_door_12 : decode cX11_door 12 = .ok (.iload_n 1, 1) := by decide +kernel
theorem dX11_door_13 : decode cX11_door 13 = .ok (.ifCond .ge 5, 3) := by decide +kernel
theorem dX11_door_16 : decode cX11_door 16 = .ok (.iload_n 1, 1) := by decide +kernel
theorem dX11_door_17 : decode cX11_door 17 = .ok (.ireturn, 1) := by decide +kernel
theorem dX11_door_18 : decode cX11_door 18 = .ok (.aload_n 0, 1) := by decide +kernel
theorem dX11_door_19 : decode cX11_door 19 = .ok (.getfield 19, 3) := by decide +kernel
theorem dX11_door_22 : decode cX11_door 22 = .ok (.aload_n 0, 1) := by decide +kernel
theorem dX11_door_23 : decode cX11_door 23 = .ok (.getfield 23, 3) := by decide +kernel
theorem dX11_door_26 : decode cX11_door 26 = .ok (.invokevirtual 98, 3) := by decide +kernel
theorem dX11_door_29 : decode cX11_door 29 = .ok (.aload_n 0, 1) := by decide +kernel
theorem dX11_door_30 : decode cX11_door 30 = .ok (.getfield 10, 3) := by decide +kernel
theorem dX11_door_33 : decode cX11_door 33 = .ok (.iconst 0, 1) := by decide +kernel
theorem dX11_door_34 : decode cX11_door 34 = .ok (.putfield 90, 3) := by decide +kernel
theorem dX11_door_37 : decode cX11_door 37 = .ok (.aload_n 0, 1) := by decide +kernel
theorem dX11_door_38 : decode cX11_door 38 = .ok (.getfield 31, 3) := by decide +kernel
theorem dX11_door_41 : decode cX11_door 41 = .ok (.invokevirtual 101, 3) := by decide +kernel
theorem dX11_door_44 : decode cX11_door 44 = .ok (.aload_n 0, 1) := by decide +kernel
theorem dX11_door_45 : decode cX11_door 45 = .ok (.getfield 41, 3) := by decide +kernel
theorem dX11_door_48 : decode cX11_door 48 = .ok (.iconst 0, 1) := by decide +kernel
theorem dX11_door_49 : decode cX11_door 49 = .ok (.putfield 104, 3) := by decide +kernel
theorem dX11_door_52 : decode cX11_door 52 = .ok (.aload_n 0, 1) := by decide +kernel
theorem dX11_door_53 : decode cX11_door 53 = .ok (.getfield 56, 3) := by decide +kernel
theorem dX11_door_56 : decode cX11_door 56 = .ok (.iconst 0, 1) := by decide +kernel
theorem dX11_door_57 : decode cX11_door 57 = .ok (.putfield 107, 3) := by decide +kernel
theorem dX11_door_60 : decode cX11_door 60 = .ok (.iconst 0, 1) := by decide +kernel
theorem dX11_door_61 : decode cX11_door 61 = .ok (.istore_n 2, 1) := by decide +kernel
theorem dX11_door_62 : decode cX11_door 62 = .ok (.iload_n 2, 1) := by decide +kernel
theorem dX11_door_63 : decode cX11_door 63 = .ok (.iconst 2, 1) := by decide +kernel
theorem dX11_door_64 : decode cX11_door 64 = .ok (.if_icmp .ge 16, 3) := by decide +kernel
theorem dX11_door_67 : decode cX11_door 67 = .ok (.aload_n 0, 1) := by decide +kernel
theorem dX11_door_68 : decode cX11_door 68 = .ok (.getfield 49, 3) := by decide +kernel
theorem dX11_door_71 : decode cX11_door 71 = .ok (.iload_n 2, 1) := by decide +kernel
theorem dX11_door_72 : decode cX11_door 72 = .ok (.iconst 0, 1) := by decide +kernel
theorem dX11_door_73 : decode cX11_door 73 = .ok (.bastore, 1) := by decide +kernel
theorem dX11_door_74 : decode cX11_door 74 = .ok (.iinc 2 1, 3) := by decide +kernel
theorem dX11_door_77 : decode cX11_door 77 = .ok (.goto (-15), 3) := by decide +kernel
theorem dX11_door_80 : decode cX11_door 80 = .ok (.iload_n 1, 1) := by decide +kernel
theorem dX11_door_81 : decode cX11_door 81 = .ok (.ireturn, 1) := by decide +kernel
theorem dX11_sort_0 : decode cX11_sort 0 = .ok (.aload_n 0, 1) := by decide +kernel
theorem dX11_sort_1 : decode cX11_sort 1 = .ok (.getfield 19, 3) := by decide +kernel
theorem dX11_sort_4 : decode cX11_sort 4 = .ok (.iload_n 1, 1) := by decide +kernel
theorem dX11_sort_5 : decode cX11_sort 5 = .ok (.invokevirtual 108, 3) := by decide +kernel
theorem dX11_sort_8 : decode cX11_sort 8 = .ok (.ifCond .ne 5, 3) := by decide +kernel
theorem dX11_sort_11 : decode cX11_sort 11 = .ok (.iconst (-1), 1) := by decide +kernel
theorem dX11_sort_12 : decode cX11_sort 12 = .ok (.ireturn, 1) := by decide +kernel
theorem dX11_sort_13 : decode cX11_sort 13 = .ok (.iload_n 2, 1) := by decide +kernel
theorem dX11_sort_14 : decode cX11_sort 14 = .ok (.tableswitch 53 0 2 #[26, 35, 44], 26) := by decide +kernel
theorem dX11_sort_40 : decode cX11_sort 40 = .ok (.aload_n 0, 1) := by decide +kernel
theorem dX11_sort_41 : decode cX11_sort 41 = .ok (.getfield 19, 3) := by decide +kernel
theorem dX11_sort_44 : decode cX11_sort 44 = .ok (.iload_n 1, 1) := by decide +kernel
theorem dX11_sort_45 : decode cX11_sort 45 = .ok (.invokevirtual 111, 3) := by decide +kernel
theorem dX11_sort_48 : decode cX11_sort 48 = .ok (.ireturn, 1) := by decide +kernel
theorem dX11_sort_49 : decode cX11_sort 49 = .ok (.aload_n 0, 1) := by decide +kernel
theorem dX11_sort_50 : decode cX11_sort 50 = .ok (.getfield 19, 3) := by decide +kernel
theorem dX11_sort_53 : decode cX11_sort 53 = .ok (.iload_n 1, 1) := by decide +kernel
theorem dX11_sort_54 : decode cX11_sort 54 = .ok (.invokevirtual 115, 3) := by decide +kernel
theorem dX11_sort_57 : decode cX11_sort 57 = .ok (.ireturn, 1) := by decide +kernel
theorem dX11_sort_58 : decode cX11_sort 58 = .ok (.aload_n 0, 1) := by decide +kernel
theorem dX11_sort_59 : decode cX11_sort 59 = .ok (.getfield 31, 3) := by decide +kernel
theorem dX11_sort_62 : decode cX11_sort 62 = .ok (.iload_n 1, 1) := by decide +kernel
theorem dX11_sort_63 : decode cX11_sort 63 = .ok (.invokevirtual 118, 3) := by decide +kernel
theorem dX11_sort_66 : decode cX11_sort 66 = .ok (.ireturn, 1) := by decide +kernel
theorem dX11_sort_67 : decode cX11_sort 67 = .ok (.iconst (-1), 1) := by decide +kernel
theorem dX11_sort_68 : decode cX11_sort 68 = .ok (.ireturn, 1) := by decide +kernel
theorem dX11_goer_0 : decode cX11_goer 0 = .ok (.aload_n 0, 1) := by decide +kernel
theorem dX11_goer_1 : decode cX11_goer 1 = .ok (.getfield 31, 3) := by decide +kernel
theorem dX11_goer_4 : decode cX11_goer 4 = .ok (.iload_n 1, 1) := by decide +kernel
theorem dX11_goer_5 : decode cX11_goer 5 = .ok (.invokevirtual 121, 3) := by decide +kernel
theorem dX11_goer_8 : decode cX11_goer 8 = .ok (.ifCond .ne 5, 3) := by decide +kernel
theorem dX11_goer_11 : decode cX11_goer 11 = .ok (.iconst (-1), 1) := by decide +kernel
theorem dX11_goer_12 : decode cX11_goer 12 = .ok (.ireturn, 1) := by decide +kernel
theorem dX11_goer_13 : decode cX11_goer 13 = .ok (.iload_n 2, 1) := by decide +kernel
theorem dX11_goer_14 : decode cX11_goer 14 = .ok (.tableswitch 131 0 5 #[38, 48, 58, 68, 96, 122], 38) := by decide +kernel
theorem dX11_goer_52 : decode cX11_goer 52 = .ok (.aload_n 0, 1) := by decide +kernel
theorem dX11_goer_53 : decode cX11_goer 53 = .ok (.getfield 31, 3) := by decide +kernel
theorem dX11_goer_56 : decode cX11_goer 56 = .ok (.getfield 124, 3) := by decide +kernel
theorem dX11_goer_59 : decode cX11_goer 59 = .ok (.iload_n 1, 1) := by decide +kernel
theorem dX11_goer_60 : decode cX11_goer 60 = .ok (.iaload, 1) := by decide +kernel
theorem dX11_goer_61 : decode cX11_goer 61 = .ok (.ireturn, 1) := by decide +kernel
theorem dX11_goer_62 : decode cX11_goer 62 = .ok (.aload_n 0, 1) := by decide +kernel
theorem dX11_goer_63 : decode cX11_goer 63 = .ok (.getfield 31, 3) := by decide +kernel
theorem dX11_goer_66 : decode cX11_goer 66 = .ok (.getfield 128, 3) := by decide +kernel
theorem dX11_goer_69 : decode cX11_goer 69 = .ok (.iload_n 1, 1) := by decide +kernel
theorem dX11_goer_70 : decode cX11_goer 70 = .ok (.iaload, 1) := by decide +kernel
theorem dX11_goer_71 : decode cX11_goer 71 = .ok (.ireturn, 1) := by decide +kernel
theorem dX11_goer_72 : decode cX11_goer 72 = .ok (.aload_n 0, 1) := by decide +kernel
theorem dX11_goer_73 : decode cX11_goer 73 = .ok (.getfield 31, 3) := by decide +kernel
theorem dX11_goer_76 : decode cX11_goer 76 = .ok (.getfield 131, 3) := by decide +kernel
theorem dX11_goer_79 : decode cX11_goer 79 = .ok (.iload_n 1, 1) := by decide +kernel
theorem dX11_goer_80 : decode cX11_goer 80 = .ok (.iaload, 1) := by decide +kernel
theorem dX11_goer_81 : decode cX11_goer 81 = .ok (.ireturn, 1) := by decide +kernel
theorem dX11_goer_82 : decode cX11_goer 82 = .ok (.aload_n 0, 1) := by decide +kernel
theorem dX11_goer_83 : decode cX11_goer 83 = .ok (.getfield 31, 3) := by decide +kernel
theorem dX11_goer_86 : decode cX11_goer 86 = .ok (.getfield 131, 3) := by decide +kernel
theorem dX11_goer_89 : decode cX11_goer 89 = .ok (.iload_n 1, 1) := by decide +kernel
theorem dX11_goer_90 : decode cX11_goer 90 = .ok (.iaload, 1) := by decide +kernel
theorem dX11_goer_91 : decode cX11_goer 91 = .ok (.iconst 1, 1) := by decide +kernel
theorem dX11_goer_92 : decode cX11_goer 92 = .ok (.if_icmp .ne 15, 3) := by decide +kernel
theorem dX11_goer_95 : decode cX11_goer 95 = .ok (.aload_n 0, 1) := by decide +kernel
theorem dX11_goer_96 : decode cX11_goer 96 = .ok (.getfield 31, 3) := by decide +kernel
theorem dX11_goer_99 : decode cX11_goer 99 = .ok (.getfield 134, 3) := by decide +kernel
theorem dX11_goer_102 : decode cX11_goer 102 = .ok (.iload_n 1, 1) := by decide +kernel
theorem dX11_goer_103 : decode cX11_goer 103 = .ok (.iaload, 1) := by decide +kernel
theorem dX11_goer_104 : decode cX11_goer 104 = .ok (.goto 5, 3) := by decide +kernel
theorem dX11_goer_107 : decode cX11_goer 107 = .ok (.bipush (-9), 2) := by decide +kernel
theorem dX11_goer_109 : decode cX11_goer 109 = .ok (.ireturn, 1) := by decide +kernel
theorem dX11_goer_110 : decode cX11_goer 110 = .ok (.aload_n 0, 1) := by decide +kernel
theorem dX11_goer_111 : decode cX11_goer 111 = .ok (.getfield 31, 3) := by decide +kernel
theorem dX11_goer_114 : decode cX11_goer 114 = .ok (.getfield 131, 3) := by decide +kernel
theorem dX11_goer_117 : decode cX11_goer 117 = .ok (.iload_n 1, 1) := by decide +kernel
theorem dX11_goer_118 : decode cX11_goer 118 = .ok (.iaload, 1) := by decide +kernel
theorem dX11_goer_119 : decode cX11_goer 119 = .ok (.ifCond .ne 14, 3) := by decide +kernel
theorem dX11_goer_122 : decode cX11_goer 122 = .ok (.aload_n 0, 1) := by decide +kernel
theorem dX11_goer_123 : decode cX11_goer 123 = .ok (.getfield 31, 3) := by decide +kernel
theorem dX11_goer_126 : decode cX11_goer 126 = .ok (.iload_n 1, 1) := by decide +kernel
theorem dX11_goer_127 : decode cX11_goer 127 = .ok (.invokevirtual 137, 3) := by decide +kernel
theorem dX11_goer_130 : decode cX11_goer 130 = .ok (.goto 5, 3) := by decide +kernel
theorem dX11_goer_133 : decode cX11_goer 133 = .ok (.bipush (-9), 2) := by decide +kernel
theorem dX11_goer_135 : decode cX11_goer 135 = .ok (.ireturn, 1) := by decide +kernel
theorem dX11_goer_136 : decode cX11_goer 136 = .ok (.aload_n 0, 1) := by decide +kernel
theorem dX11_goer_137 : decode cX11_goer 137 = .ok (.iload_n 1, 1) := by decide +kernel
theorem dX11_goer_138 : decode cX11_goer 138 = .ok (.invokevirtual 140, 3) := by decide +kernel
theorem dX11_goer_141 : decode cX11_goer 141 = .ok (.invokestatic 143, 3) := by decide +kernel
theorem dX11_goer_144 : decode cX11_goer 144 = .ok (.ireturn, 1) := by decide +kernel
theorem dX11_goer_145 : decode cX11_goer 145 = .ok (.iconst (-1), 1) := by decide +kernel
theorem dX11_goer_146 : decode cX11_goer 146 = .ok (.ireturn, 1) := by decide +kernel
theorem dX11_room_0 : decode cX11_room 0 = .ok (.iload_n 1, 1) := by decide +kernel
theorem dX11_room_1 : decode cX11_room 1 = .ok (.ifCond .lt 14, 3) := by decide +kernel
theorem dX11_room_4 : decode cX11_room 4 = .ok (.iload_n 1, 1) := by decide +kernel
theorem dX11_room_5 : decode cX11_room 5 = .ok (.aload_n 0, 1) := by decide +kernel
theorem dX11_room_6 : decode cX11_room 6 = .ok (.getfield 19, 3) := by decide +kernel
theorem dX11_room_9 : decode cX11_room 9 = .ok (.getfield 146, 3) := by decide +kernel
theorem dX11_room_12 : decode cX11_room 12 = .ok (.if_icmp .lt 5, 3) := by decide +kernel
theorem dX11_room_15 : decode cX11_room 15 = .ok (.iconst (-1), 1) := by decide +kernel
theorem dX11_room_16 : decode cX11_room 16 = .ok (.ireturn, 1) := by decide +kernel
theorem dX11_room_17 : decode cX11_room 17 = .ok (.iload_n 2, 1) := by decide +kernel
theorem dX11_room_18 : decode cX11_room 18 = .ok (.lookupswitch 44 #[(0, 26), (1, 35)], 26) := by decide +kernel
theorem dX11_room_44 : decode cX11_room 44 = .ok (.aload_n 0, 1) := by decide +kernel
theorem dX11_room_45 : decode cX11_room 45 = .ok (.getfield 31, 3) := by decide +kernel
theorem dX11_room_48 : decode cX11_room 48 = .ok (.iload_n 1, 1) := by decide +kernel
theorem dX11_room_49 : decode cX11_room 49 = .ok (.invokevirtual 149, 3) := by decide +kernel
theorem dX11_room_52 : decode cX11_room 52 = .ok (.ireturn, 1) := by decide +kernel
theorem dX11_room_53 : decode cX11_room 53 = .ok (.aload_n 0, 1) := by decide +kernel
theorem dX11_room_54 : decode cX11_room 54 = .ok (.getfield 31, 3) := by decide +kernel
theorem dX11_room_57 : decode cX11_room 57 = .ok (.iload_n 1, 1) := by decide +kernel
theorem dX11_room_58 : decode cX11_room 58 = .ok (.invokevirtual 152, 3) := by decide +kernel
theorem dX11_room_61 : decode cX11_room 61 = .ok (.ireturn, 1) := by decide +kernel
theorem dX11_room_62 : decode cX11_room 62 = .ok (.iconst (-1), 1) := by decide +kernel
theorem dX11_room_63 : decode cX11_room 63 = .ok (.ireturn, 1) := by decide +kernel
theorem dX11_now_0 : decode cX11_now 0 = .ok (.iload_n 1, 1) := by decide +kernel
theorem dX11_now_1 : decode cX11_now 1 = .ok (.tableswitch 113 0 7 #[47, 55, 63, 71, 80, 89, 97, 105], 47) := by decide +kernel
theorem dX11_now_48 : decode cX11_now 48 = .ok (.aload_n 0, 1) := by decide +kernel
theorem dX11_now_49 : decode cX11_now 49 = .ok (.getfield 31, 3) := by decide +kernel
theorem dX11_now_52 : decode cX11_now 52 = .ok (.getfield 155, 3) := by decide +kernel
theorem dX11_now_55 : decode cX11_now 55 = .ok (.ireturn, 1) := by decide +kernel
theorem dX11_now_56 : decode cX11_now 56 = .ok (.aload_n 0, 1) := by decide +kernel
theorem dX11_now_57 : decode cX11_now 57 = .ok (.getfield 31, 3) := by decide +kernel
theorem dX11_now_60 : decode cX11_now 60 = .ok (.invokevirtual 158, 3) := by decide +kernel
theorem dX11_now_63 : decode cX11_now 63 = .ok (.ireturn, 1) := by decide +kernel
theorem dX11_now_64 : decode cX11_now 64 = .ok (.aload_n 0, 1) := by decide +kernel
theorem dX11_now_65 : decode cX11_now 65 = .ok (.getfield 31, 3) := by decide +kernel
theorem dX11_now_68 : decode cX11_now 68 = .ok (.invokevirtual 162, 3) := by decide +kernel
end
section
theorem dX11_now_71 : decode cX11_now 71 = .ok (.ireturn, 1) := by decide +kernel
theorem dX11_now_72 : decode cX11_now 72 = .ok (.aload_n 0, 1) := by decide +kernel
theorem dX11_now_73 : decode cX11_now 73 = .ok (.getfield 31, 3) := by decide +kernel
theorem dX11_now_76 : decode cX11_now 76 = .ok (.iconst 0, 1) := by decide +kernel
theorem dX11_now_77 : decode cX11_now 77 = .ok (.invokevirtual 165, 3) := by decide +kernel
theorem dX11_now_80 : decode cX11_now 80 = .ok (.ireturn, 1) := by decide +kernel
theorem dX11_now_81 : decode cX11_now 81 = .ok (.aload_n 0, 1) := by decide +kernel
theorem dX11_now_82 : decode cX11_now 82 = .ok (.getfield 31, 3) := by decide +kernel
theorem dX11_now_85 : decode cX11_now 85 = .ok (.iconst 2, 1) := by decide +kernel
theorem dX11_now_86 : decode cX11_now 86 = .ok (.invokevirtual 165, 3) := by decide +kernel
theorem dX11_now_89 : decode cX11_now 89 = .ok (.ireturn, 1) := by decide +kernel
theorem dX11_now_90 : decode cX11_now 90 = .ok (.aload_n 0, 1) := by decide +kernel
theorem dX11_now_91 : decode cX11_now 91 = .ok (.invokevirtual 168, 3) := by decide +kernel
theorem dX11_now_94 : decode cX11_now 94 = .ok (.invokestatic 143, 3) := by decide +kernel
theorem dX11_now_97 : decode cX11_now 97 = .ok (.ireturn, 1) := by decide +kernel
theorem dX11_now_98 : decode cX11_now 98 = .ok (.aload_n 0, 1) := by decide +kernel
theorem dX11_now_99 : decode cX11_now 99 = .ok (.invokevirtual 171, 3) := by decide +kernel
theorem dX11_now_102 : decode cX11_now 102 = .ok (.invokestatic 143, 3) := by decide +kernel
theorem dX11_now_105 : decode cX11_now 105 = .ok (.ireturn, 1) := by decide +kernel
theorem dX11_now_106 : decode cX11_now 106 = .ok (.aload_n 0, 1) := by decide +kernel
theorem dX11_now_107 : decode cX11_now 107 = .ok (.getfield 41, 3) := by decide +kernel
theorem dX11_now_110 : decode cX11_now 110 = .ok (.getfield 104, 3) := by decide +kernel
theorem dX11_now_113 : decode cX11_now 113 = .ok (.ireturn, 1) := by decide +kernel
theorem dX11_now_114 : decode cX11_now 114 = .ok (.iconst (-1), 1) := by decide +kernel
theorem dX11_now_115 : decode cX11_now 115 = .ok (.ireturn, 1) := by decide +kernel
theorem dX11_comes_0 : decode cX11_comes 0 = .ok (.aload_n 0, 1) := by decide +kernel
theorem dX11_comes_1 : decode cX11_comes 1 = .ok (.getfield 19, 3) := by decide +kernel
theorem dX11_comes_4 : decode cX11_comes 4 = .ok (.iload_n 1, 1) := by decide +kernel
theorem dX11_comes_5 : decode cX11_comes 5 = .ok (.invokevirtual 108, 3) := by decide +kernel
theorem dX11_comes_8 : decode cX11_comes 8 = .ok (.ifCond .eq 12, 3) := by decide +kernel
theorem dX11_comes_11 : decode cX11_comes 11 = .ok (.iload_n 2, 1) := by decide +kernel
theorem dX11_comes_12 : decode cX11_comes 12 = .ok (.ifCond .lt 8, 3) := by decide +kernel
theorem dX11_comes_15 : decode cX11_comes 15 = .ok (.iload_n 2, 1) := by decide +kernel
theorem dX11_comes_16 : decode cX11_comes 16 = .ok (.iconst 1, 1) := by decide +kernel
theorem dX11_comes_17 : decode cX11_comes 17 = .ok (.if_icmp .le 5, 3) := by decide +kernel
theorem dX11_comes_20 : decode cX11_comes 20 = .ok (.iconst (-1), 1) := by decide +kernel
theorem dX11_comes_21 : decode cX11_comes 21 = .ok (.ireturn, 1) := by decide +kernel
theorem dX11_comes_22 : decode cX11_comes 22 = .ok (.aload_n 0, 1) := by decide +kernel
theorem dX11_comes_23 : decode cX11_comes 23 = .ok (.getfield 31, 3) := by decide +kernel
theorem dX11_comes_26 : decode cX11_comes 26 = .ok (.getfield 174, 3) := by decide +kernel
theorem dX11_comes_29 : decode cX11_comes 29 = .ok (.bipush 9, 2) := by decide +kernel
theorem dX11_comes_31 : decode cX11_comes 31 = .ok (.if_icmp .lt 6, 3) := by decide +kernel
theorem dX11_comes_34 : decode cX11_comes 34 = .ok (.bipush (-3), 2) := by decide +kernel
theorem dX11_comes_36 : decode cX11_comes 36 = .ok (.ireturn, 1) := by decide +kernel
theorem dX11_comes_37 : decode cX11_comes 37 = .ok (.aload_n 0, 1) := by decide +kernel
theorem dX11_comes_38 : decode cX11_comes 38 = .ok (.getfield 41, 3) := by decide +kernel
theorem dX11_comes_41 : decode cX11_comes 41 = .ok (.aload_n 0, 1) := by decide +kernel
theorem dX11_comes_42 : decode cX11_comes 42 = .ok (.getfield 31, 3) := by decide +kernel
theorem dX11_comes_45 : decode cX11_comes 45 = .ok (.invokevirtual 177, 3) := by decide +kernel
theorem dX11_comes_48 : decode cX11_comes 48 = .ok (.aload_n 0, 1) := by decide +kernel
theorem dX11_comes_49 : decode cX11_comes 49 = .ok (.getfield 31, 3) := by decide +kernel
theorem dX11_comes_52 : decode cX11_comes 52 = .ok (.iload_n 1, 1) := by decide +kernel
theorem dX11_comes_53 : decode cX11_comes 53 = .ok (.iload_n 2, 1) := by decide +kernel
theorem dX11_comes_54 : decode cX11_comes 54 = .ok (.invokevirtual 181, 3) := by decide +kernel
theorem dX11_comes_57 : decode cX11_comes 57 = .ok (.ireturn, 1) := by decide +kernel
theorem dX11_steps_0 : decode cX11_steps 0 = .ok (.aload_n 0, 1) := by decide +kernel
theorem dX11_steps_1 : decode cX11_steps 1 = .ok (.getfield 31, 3) := by decide +kernel
theorem dX11_steps_4 : decode cX11_steps 4 = .ok (.getfield 155, 3) := by decide +kernel
theorem dX11_steps_7 : decode cX11_steps 7 = .ok (.sipush 999, 3) := by decide +kernel
theorem dX11_steps_10 : decode cX11_steps 10 = .ok (.if_icmp .lt 6, 3) := by decide +kernel
theorem dX11_steps_13 : decode cX11_steps 13 = .ok (.bipush (-2), 2) := by decide +kernel
theorem dX11_steps_15 : decode cX11_steps 15 = .ok (.ireturn, 1) := by decide +kernel
theorem dX11_steps_16 : decode cX11_steps 16 = .ok (.aload_n 0, 1) := by decide +kernel
theorem dX11_steps_17 : decode cX11_steps 17 = .ok (.getfield 41, 3) := by decide +kernel
theorem dX11_steps_20 : decode cX11_steps 20 = .ok (.aload_n 0, 1) := by decide +kernel
theorem dX11_steps_21 : decode cX11_steps 21 = .ok (.getfield 31, 3) := by decide +kernel
theorem dX11_steps_24 : decode cX11_steps 24 = .ok (.invokevirtual 177, 3) := by decide +kernel
theorem dX11_steps_27 : decode cX11_steps 27 = .ok (.aload_n 0, 1) := by decide +kernel
theorem dX11_steps_28 : decode cX11_steps 28 = .ok (.getfield 31, 3) := by decide +kernel
theorem dX11_steps_31 : decode cX11_steps 31 = .ok (.invokevirtual 185, 3) := by decide +kernel
theorem dX11_steps_34 : decode cX11_steps 34 = .ok (.ireturn, 1) := by decide +kernel
theorem dX11_leaves_0 : decode cX11_leaves 0 = .ok (.aload_n 0, 1) := by decide +kernel
theorem dX11_leaves_1 : decode cX11_leaves 1 = .ok (.getfield 31, 3) := by decide +kernel
theorem dX11_leaves_4 : decode cX11_leaves 4 = .ok (.iload_n 1, 1) := by decide +kernel
theorem dX11_leaves_5 : decode cX11_leaves 5 = .ok (.invokevirtual 121, 3) := by decide +kernel
theorem dX11_leaves_8 : decode cX11_leaves 8 = .ok (.ifCond .ne 5, 3) := by decide +kernel
theorem dX11_leaves_11 : decode cX11_leaves 11 = .ok (.iconst (-1), 1) := by decide +kernel
theorem dX11_leaves_12 : decode cX11_leaves 12 = .ok (.ireturn, 1) := by decide +kernel
theorem dX11_leaves_13 : decode cX11_leaves 13 = .ok (.aload_n 0, 1) := by decide +kernel
theorem dX11_leaves_14 : decode cX11_leaves 14 = .ok (.getfield 31, 3) := by decide +kernel
theorem dX11_leaves_17 : decode cX11_leaves 17 = .ok (.getfield 131, 3) := by decide +kernel
theorem dX11_leaves_20 : decode cX11_leaves 20 = .ok (.iload_n 1, 1) := by decide +kernel
theorem dX11_leaves_21 : decode cX11_leaves 21 = .ok (.iaload, 1) := by decide +kernel
theorem dX11_leaves_22 : decode cX11_leaves 22 = .ok (.ifCond .eq 6, 3) := by decide +kernel
theorem dX11_leaves_25 : decode cX11_leaves 25 = .ok (.bipush (-2), 2) := by decide +kernel
theorem dX11_leaves_27 : decode cX11_leaves 27 = .ok (.ireturn, 1) := by decide +kernel
theorem dX11_leaves_28 : decode cX11_leaves 28 = .ok (.aload_n 0, 1) := by decide +kernel
theorem dX11_leaves_29 : decode cX11_leaves 29 = .ok (.getfield 41, 3) := by decide +kernel
theorem dX11_leaves_32 : decode cX11_leaves 32 = .ok (.aload_n 0, 1) := by decide +kernel
theorem dX11_leaves_33 : decode cX11_leaves 33 = .ok (.getfield 31, 3) := by decide +kernel
theorem dX11_leaves_36 : decode cX11_leaves 36 = .ok (.invokevirtual 177, 3) := by decide +kernel
theorem dX11_leaves_39 : decode cX11_leaves 39 = .ok (.aload_n 0, 1) := by decide +kernel
theorem dX11_leaves_40 : decode cX11_leaves 40 = .ok (.getfield 31, 3) := by decide +kernel
theorem dX11_leaves_43 : decode cX11_leaves 43 = .ok (.iload_n 1, 1) := by decide +kernel
theorem dX11_leaves_44 : decode cX11_leaves 44 = .ok (.invokevirtual 188, 3) := by decide +kernel
theorem dX11_leaves_47 : decode cX11_leaves 47 = .ok (.aload_n 0, 1) := by decide +kernel
theorem dX11_leaves_48 : decode cX11_leaves 48 = .ok (.getfield 31, 3) := by decide +kernel
theorem dX11_leaves_51 : decode cX11_leaves 51 = .ok (.iconst 0, 1) := by decide +kernel
theorem dX11_leaves_52 : decode cX11_leaves 52 = .ok (.invokevirtual 192, 3) := by decide +kernel
theorem dX11_leaves_55 : decode cX11_leaves 55 = .ok (.ireturn, 1) := by decide +kernel
theorem dX11_lets_0 : decode cX11_lets 0 = .ok (.aload_n 0, 1) := by decide +kernel
theorem dX11_lets_1 : decode cX11_lets 1 = .ok (.getfield 31, 3) := by decide +kernel
theorem dX11_lets_4 : decode cX11_lets 4 = .ok (.iload_n 1, 1) := by decide +kernel
theorem dX11_lets_5 : decode cX11_lets 5 = .ok (.invokevirtual 121, 3) := by decide +kernel
theorem dX11_lets_8 : decode cX11_lets 8 = .ok (.ifCond .ne 5, 3) := by decide +kernel
theorem dX11_lets_11 : decode cX11_lets 11 = .ok (.iconst (-1), 1) := by decide +kernel
theorem dX11_lets_12 : decode cX11_lets 12 = .ok (.ireturn, 1) := by decide +kernel
theorem dX11_lets_13 : decode cX11_lets 13 = .ok (.aload_n 0, 1) := by decide +kernel
theorem dX11_lets_14 : decode cX11_lets 14 = .ok (.getfield 31, 3) := by decide +kernel
theorem dX11_lets_17 : decode cX11_lets 17 = .ok (.getfield 131, 3) := by decide +kernel
theorem dX11_lets_20 : decode cX11_lets 20 = .ok (.iload_n 1, 1) := by decide +kernel
theorem dX11_lets_21 : decode cX11_lets 21 = .ok (.iaload, 1) := by decide +kernel
theorem dX11_lets_22 : decode cX11_lets 22 = .ok (.ifCond .eq 6, 3) := by decide +kernel
theorem dX11_lets_25 : decode cX11_lets 25 = .ok (.bipush (-2), 2) := by decide +kernel
theorem dX11_lets_27 : decode cX11_lets 27 = .ok (.ireturn, 1) := by decide +kernel
theorem dX11_lets_28 : decode cX11_lets 28 = .ok (.aload_n 0, 1) := by decide +kernel
theorem dX11_lets_29 : decode cX11_lets 29 = .ok (.getfield 31, 3) := by decide +kernel
theorem dX11_lets_32 : decode cX11_lets 32 = .ok (.iload_n 1, 1) := by decide +kernel
theorem dX11_lets_33 : decode cX11_lets 33 = .ok (.invokevirtual 137, 3) := by decide +kernel
theorem dX11_lets_36 : decode cX11_lets 36 = .ok (.istore_n 2, 1) := by decide +kernel
theorem dX11_lets_37 : decode cX11_lets 37 = .ok (.iload_n 2, 1) := by decide +kernel
theorem dX11_lets_38 : decode cX11_lets 38 = .ok (.ifCond .ne 6, 3) := by decide +kernel
theorem dX11_lets_41 : decode cX11_lets 41 = .ok (.bipush (-2), 2) := by decide +kernel
theorem dX11_lets_43 : decode cX11_lets 43 = .ok (.ireturn, 1) := by decide +kernel
theorem dX11_lets_44 : decode cX11_lets 44 = .ok (.aload_n 0, 1) := by decide +kernel
theorem dX11_lets_45 : decode cX11_lets 45 = .ok (.getfield 41, 3) := by decide +kernel
theorem dX11_lets_48 : decode cX11_lets 48 = .ok (.aload_n 0, 1) := by decide +kernel
theorem dX11_lets_49 : decode cX11_lets 49 = .ok (.getfield 31, 3) := by decide +kernel
theorem dX11_lets_52 : decode cX11_lets 52 = .ok (.invokevirtual 177, 3) := by decide +kernel
theorem dX11_lets_55 : decode cX11_lets 55 = .ok (.aload_n 0, 1) := by decide +kernel
theorem dX11_lets_56 : decode cX11_lets 56 = .ok (.getfield 31, 3) := by decide +kernel
theorem dX11_lets_59 : decode cX11_lets 59 = .ok (.iload_n 1, 1) := by decide +kernel
theorem dX11_lets_60 : decode cX11_lets 60 = .ok (.invokevirtual 195, 3) := by decide +kernel
theorem dX11_lets_63 : decode cX11_lets 63 = .ok (.iload_n 2, 1) := by decide +kernel
theorem dX11_lets_64 : decode cX11_lets 64 = .ok (.ireturn, 1) := by decide +kernel
theorem dX11_undo_0 : decode cX11_undo 0 = .ok (.aload_n 0, 1) := by decide +kernel
theorem dX11_undo_1 : decode cX11_undo 1 = .ok (.getfield 41, 3) := by decide +kernel
theorem dX11_undo_4 : decode cX11_undo 4 = .ok (.getfield 104, 3) := by decide +kernel
theorem dX11_undo_7 : decode cX11_undo 7 = .ok (.ifCond .ne 6, 3) := by decide +kernel
theorem dX11_undo_10 : decode cX11_undo 10 = .ok (.bipush (-2), 2) := by decide +kernel
theorem dX11_undo_12 : decode cX11_undo 12 = .ok (.ireturn, 1) := by decide +kernel
theorem dX11_undo_13 : decode cX11_undo 13 = .ok (.aload_n 0, 1) := by decide +kernel
theorem dX11_undo_14 : decode cX11_undo 14 = .ok (.getfield 41, 3) := by decide +kernel
theorem dX11_undo_17 : decode cX11_undo 17 = .ok (.aload_n 0, 1) := by decide +kernel
theorem dX11_undo_18 : decode cX11_undo 18 = .ok (.getfield 31, 3) := by decide +kernel
theorem dX11_undo_21 : decode cX11_undo 21 = .ok (.invokevirtual 198, 3) := by decide +kernel
theorem dX11_undo_24 : decode cX11_undo 24 = .ok (.aload_n 0, 1) := by decide +kernel
theorem dX11_undo_25 : decode cX11_undo 25 = .ok (.getfield 41, 3) := by decide +kernel
theorem dX11_undo_28 : decode cX11_undo 28 = .ok (.getfield 104, 3) := by decide +kernel
theorem dX11_undo_31 : decode cX11_undo 31 = .ok (.ireturn, 1) := by decide +kernel
theorem dX11_spare_0 : decode cX11_spare 0 = .ok (.aload_n 0, 1) := by decide +kernel
theorem dX11_spare_1 : decode cX11_spare 1 = .ok (.getfield 31, 3) := by decide +kernel
theorem dX11_spare_4 : decode cX11_spare 4 = .ok (.iload_n 1, 1) := by decide +kernel
theorem dX11_spare_5 : decode cX11_spare 5 = .ok (.invokevirtual 121, 3) := by decide +kernel
theorem dX11_spare_8 : decode cX11_spare 8 = .ok (.ifCond .eq 12, 3) := by decide +kernel
theorem dX11_spare_11 : decode cX11_spare 11 = .ok (.aload_n 0, 1) := by decide +kernel
theorem dX11_spare_12 : decode cX11_spare 12 = .ok (.iload_n 1, 1) := by decide +kernel
theorem dX11_spare_13 : decode cX11_spare 13 = .ok (.iconst 0, 1) := by decide +kernel
theorem dX11_spare_14 : decode cX11_spare 14 = .ok (.invokevirtual 201, 3) := by decide +kernel
theorem dX11_spare_17 : decode cX11_spare 17 = .ok (.goto 4, 3) := by decide +kernel
theorem dX11_spare_20 : decode cX11_spare 20 = .ok (.iconst (-1), 1) := by decide +kernel
theorem dX11_spare_21 : decode cX11_spare 21 = .ok (.ireturn, 1) := by decide +kernel
theorem dX11_ahead_0 : decode cX11_ahead 0 = .ok (.aload_n 0, 1) := by decide +kernel
theorem dX11_ahead_1 : decode cX11_ahead 1 = .ok (.getfield 31, 3) := by decide +kernel
theorem dX11_ahead_4 : decode cX11_ahead 4 = .ok (.iload_n 1, 1) := by decide +kernel
theorem dX11_ahead_5 : decode cX11_ahead 5 = .ok (.invokevirtual 121, 3) := by decide +kernel
theorem dX11_ahead_8 : decode cX11_ahead 8 = .ok (.ifCond .eq 12, 3) := by decide +kernel
theorem dX11_ahead_11 : decode cX11_ahead 11 = .ok (.aload_n 0, 1) := by decide +kernel
theorem dX11_ahead_12 : decode cX11_ahead 12 = .ok (.iload_n 1, 1) := by decide +kernel
theorem dX11_ahead_13 : decode cX11_ahead 13 = .ok (.iconst 1, 1) := by decide +kernel
theorem dX11_ahead_14 : decode cX11_ahead 14 = .ok (.invokevirtual 201, 3) := by decide +kernel
theorem dX11_ahead_17 : decode cX11_ahead 17 = .ok (.goto 4, 3) := by decide +kernel
theorem dX11_ahead_20 : decode cX11_ahead 20 = .ok (.iconst (-1), 1) := by decide +kernel
theorem dX11_ahead_21 : decode cX11_ahead 21 = .ok (.ireturn, 1) := by decide +kernel
theorem dX11_odds_0 : decode cX11_odds 0 = .ok (.iload_n 1, 1) := by decide +kernel
theorem dX11_odds_1 : decode cX11_odds 1 = .ok (.ifCond .lt 18, 3) := by decide +kernel
theorem dX11_odds_4 : decode cX11_odds 4 = .ok (.iload_n 1, 1) := by decide +kernel
theorem dX11_odds_5 : decode cX11_odds 5 = .ok (.bipush 10, 2) := by decide +kernel
theorem dX11_odds_7 : decode cX11_odds 7 = .ok (.if_icmp .gt 12, 3) := by decide +kernel
theorem dX11_odds_10 : decode cX11_odds 10 = .ok (.iload_n 2, 1) := by decide +kernel
theorem dX11_odds_11 : decode cX11_odds 11 = .ok (.ifCond .lt 8, 3) := by decide +kernel
theorem dX11_odds_14 : decode cX11_odds 14 = .ok (.iload_n 2, 1) := by decide +kernel
theorem dX11_odds_15 : decode cX11_odds 15 = .ok (.iconst 1, 1) := by decide +kernel
theorem dX11_odds_16 : decode cX11_odds 16 = .ok (.if_icmp .le 5, 3) := by decide +kernel
theorem dX11_odds_19 : decode cX11_odds 19 = .ok (.iconst (-1), 1) := by decide +kernel
theorem dX11_odds_20 : decode cX11_odds 20 = .ok (.ireturn, 1) := by decide +kernel
theorem dX11_odds_21 : decode cX11_odds 21 = .ok (.lconst 1, 1) := by decide +kernel
theorem dX11_odds_22 : decode cX11_odds 22 = .ok (.lstore_n 3, 1) := by decide +kernel
theorem dX11_odds_23 : decode cX11_odds 23 = .ok (.aload_n 0, 1) := by decide +kernel
theorem dX11_odds_24 : decode cX11_odds 24 = .ok (.getfield 31, 3) := by decide +kernel
theorem dX11_odds_27 : decode cX11_odds 27 = .ok (.iconst 1, 1) := by decide +kernel
theorem dX11_odds_28 : decode cX11_odds 28 = .ok (.invokevirtual 192, 3) := by decide +kernel
theorem dX11_odds_31 : decode cX11_odds 31 = .ok (.istore 5, 2) := by decide +kernel
theorem dX11_odds_33 : decode cX11_odds 33 = .ok (.iload 5, 2) := by decide +kernel
theorem dX11_odds_35 : decode cX11_odds 35 = .ok (.ifCond .le 15, 3) := by decide +kernel
theorem dX11_odds_38 : decode cX11_odds 38 = .ok (.lload_n 3, 1) := by decide +kernel
theorem dX11_odds_39 : decode cX11_odds 39 = .ok (.ldc2_w 205, 3) := by decide +kernel
theorem dX11_odds_42 : decode cX11_odds 42 = .ok (.lmul, 1) := by decide +kernel
theorem dX11_odds_43 : decode cX11_odds 43 = .ok (.lstore_n 3, 1) := by decide +kernel
theorem dX11_odds_44 : decode cX11_odds 44 = .ok (.iinc 5 (-1), 3) := by decide +kernel
theorem dX11_odds_47 : decode cX11_odds 47 = .ok (.goto (-14), 3) := by decide +kernel
theorem dX11_odds_50 : decode cX11_odds 50 = .ok (.aload_n 0, 1) := by decide +kernel
theorem dX11_odds_51 : decode cX11_odds 51 = .ok (.iload_n 1, 1) := by decide +kernel
theorem dX11_odds_52 : decode cX11_odds 52 = .ok (.invokevirtual 207, 3) := by decide +kernel
theorem dX11_odds_55 : decode cX11_odds 55 = .ok (.lstore 5, 2) := by decide +kernel
theorem dX11_odds_57 : decode cX11_odds 57 = .ok (.lload_n 3, 1) := by decide +kernel
theorem dX11_odds_58 : decode cX11_odds 58 = .ok (.lload 5, 2) := by decide +kernel
theorem dX11_odds_60 : decode cX11_odds 60 = .ok (.invokestatic 211, 3) := by decide +kernel
theorem dX11_odds_63 : decode cX11_odds 63 = .ok (.lstore 7, 2) := by decide +kernel
theorem dX11_odds_65 : decode cX11_odds 65 = .ok (.iload_n 2, 1) := by decide +kernel
theorem dX11_odds_66 : decode cX11_odds 66 = .ok (.ifCond .ne 8, 3) := by decide +kernel
theorem dX11_odds_69 : decode cX11_odds 69 = .ok (.lload 5, 2) := by decide +kernel
theorem dX11_odds_71 : decode cX11_odds 71 = .ok (.goto 4, 3) := by decide +kernel
theorem dX11_odds_74 : decode cX11_odds 74 = .ok (.lload_n 3, 1) := by decide +kernel
theorem dX11_odds_75 : decode cX11_odds 75 = .ok (.lconst 1, 1) := by decide +kernel
theorem dX11_odds_76 : decode cX11_odds 76 = .ok (.lload 7, 2) := by decide +kernel
theorem dX11_odds_78 : decode cX11_odds 78 = .ok (.invokestatic 215, 3) := by decide +kernel
theorem dX11_odds_81 : decode cX11_odds 81 = .ok (.ldiv, 1) := by decide +kernel
theorem dX11_odds_82 : decode cX11_odds 82 = .ok (.l2i, 1) := by decide +kernel
theorem dX11_odds_83 : decode cX11_odds 83 = .ok (.ireturn, 1) := by decide +kernel
theorem dX11_sees_0 : decode cX11_sees 0 = .ok (.iload_n 1, 1) := by decide +kernel
theorem dX11_sees_1 : decode cX11_sees 1 = .ok (.ifCond .lt 17, 3) := by decide +kernel
theorem dX11_sees_4 : decode cX11_sees 4 = .ok (.iload_n 1, 1) := by decide +kernel
theorem dX11_sees_5 : decode cX11_sees 5 = .ok (.iconst 1, 1) := by decide +kernel
theorem dX11_sees_6 : decode cX11_sees 6 = .ok (.if_icmp .gt 12, 3) := by decide +kernel
theorem dX11_sees_9 : decode cX11_sees 9 = .ok (.iload_n 3, 1) := by decide +kernel
theorem dX11_sees_10 : decode cX11_sees 10 = .ok (.ifCond .lt 8, 3) := by decide +kernel
theorem dX11_sees_13 : decode cX11_sees 13 = .ok (.iload_n 3, 1) := by decide +kernel
theorem dX11_sees_14 : decode cX11_sees 14 = .ok (.iconst 1, 1) := by decide +kernel
theorem dX11_sees_15 : decode cX11_sees 15 = .ok (.if_icmp .le 5, 3) := by decide +kernel
theorem dX11_sees_18 : decode cX11_sees 18 = .ok (.iconst (-1), 1) := by decide +kernel
theorem dX11_sees_19 : decode cX11_sees 19 = .ok (.ireturn, 1) := by decide +kernel
theorem dX11_sees_20 : decode cX11_sees 20 = .ok (.iload_n 2, 1) := by decide +kernel
theorem dX11_sees_21 : decode cX11_sees 21 = .ok (.iload_n 1, 1) := by decide +kernel
theorem dX11_sees_22 : decode cX11_sees 22 = .ok (.invokestatic 220, 3) := by decide +kernel
theorem dX11_sees_25 : decode cX11_sees 25 = .ok (.if_icmp .lt 11, 3) := by decide +kernel
theorem dX11_sees_28 : decode cX11_sees 28 = .ok (.iload_n 2, 1) := by decide +kernel
theorem dX11_sees_29 : decode cX11_sees 29 = .ok (.iload_n 1, 1) := by decide +kernel
theorem dX11_sees_30 : decode cX11_sees 30 = .ok (.invokestatic 223, 3) := by decide +kernel
theorem dX11_sees_33 : decode cX11_sees 33 = .ok (.if_icmp .le 5, 3) := by decide +kernel
theorem dX11_sees_36 : decode cX11_sees 36 = .ok (.iconst (-1), 1) := by decide +kernel
theorem dX11_sees_37 : decode cX11_sees 37 = .ok (.ireturn, 1) := by decide +kernel
theorem dX11_sees_38 : decode cX11_sees 38 = .ok (.aload_n 0, 1) := by decide +kernel
theorem dX11_sees_39 : decode cX11_sees 39 = .ok (.getfield 56, 3) := by decide +kernel
theorem dX11_sees_42 : decode cX11_sees 42 = .ok (.iload_n 1, 1) := by decide +kernel
theorem dX11_sees_43 : decode cX11_sees 43 = .ok (.iload_n 2, 1) := by decide +kernel
theorem dX11_sees_44 : decode cX11_sees 44 = .ok (.iload_n 3, 1) := by decide +kernel
theorem dX11_sees_45 : decode cX11_sees 45 = .ok (.invokevirtual 226, 3) := by decide +kernel
theorem dX11_sees_48 : decode cX11_sees 48 = .ok (.ifCond .eq 13, 3) := by decide +kernel
theorem dX11_sees_51 : decode cX11_sees 51 = .ok (.aload_n 0, 1) := by decide +kernel
theorem dX11_sees_52 : decode cX11_sees 52 = .ok (.getfield 56, 3) := by decide +kernel
theorem dX11_sees_55 : decode cX11_sees 55 = .ok (.getfield 107, 3) := by decide +kernel
theorem dX11_sees_58 : decode cX11_sees 58 = .ok (.goto 5, 3) := by decide +kernel
theorem dX11_sees_61 : decode cX11_sees 61 = .ok (.bipush (-3), 2) := by decide +kernel
theorem dX11_sees_63 : decode cX11_sees 63 = .ok (.ireturn, 1) := by decide +kernel
theorem dX11_forget_0 : decode cX11_forget 0 = .ok (.aload_n 0, 1) := by decide +kernel
theorem dX11_forget_1 : decode cX11_forget 1 = .ok (.getfield 56, 3) := by decide +kernel
theorem dX11_forget_4 : decode cX11_forget 4 = .ok (.getfield 107, 3) := by decide +kernel
theorem dX11_forget_7 : decode cX11_forget 7 = .ok (.istore_n 1, 1) := by decide +kernel
theorem dX11_forget_8 : decode cX11_forget 8 = .ok (.aload_n 0, 1) := by decide +kernel
theorem dX11_forget_9 : decode cX11_forget 9 = .ok (.getfield 56, 3) := by decide +kernel
theorem dX11_forget_12 : decode cX11_forget 12 = .ok (.iconst 0, 1) := by decide +kernel
theorem dX11_forget_13 : decode cX11_forget 13 = .ok (.putfield 107, 3) := by decide +kernel
theorem dX11_forget_16 : decode cX11_forget 16 = .ok (.iload_n 1, 1) := by decide +kernel
theorem dX11_forget_17 : decode cX11_forget 17 = .ok (.ireturn, 1) := by decide +kernel
theorem dX11_which_0 : decode cX11_which 0 = .ok (.aload_n 0, 1) := by decide +kernel
theorem dX11_which_1 : decode cX11_which 1 = .ok (.getfield 56, 3) := by decide +kernel
theorem dX11_which_4 : decode cX11_which 4 = .ok (.invokevirtual 229, 3) := by decide +kernel
theorem dX11_which_7 : decode cX11_which 7 = .ok (.ireturn, 1) := by decide +kernel
theorem dX11_look_0 : decode cX11_look 0 = .ok (.iload_n 1, 1) := by decide +kernel
theorem dX11_look_1 : decode cX11_look 1 = .ok (.ifCond .lt 8, 3) := by decide +kernel
theorem dX11_look_4 : decode cX11_look 4 = .ok (.iload_n 1, 1) := by decide +kernel
theorem dX11_look_5 : decode cX11_look 5 = .ok (.iconst 1, 1) := by decide +kernel
theorem dX11_look_6 : decode cX11_look 6 = .ok (.if_icmp .le 5, 3) := by decide +kernel
theorem dX11_look_9 : decode cX11_look 9 = .ok (.iconst (-1), 1) := by decide +kernel
theorem dX11_look_10 : decode cX11_look 10 = .ok (.ireturn, 1) := by decide +kernel
theorem dX11_look_11 : decode cX11_look 11 = .ok (.aload_n 0, 1) := by decide +kernel
theorem dX11_look_12 : decode cX11_look 12 = .ok (.getfield 56, 3) := by decide +kernel
theorem dX11_look_15 : decode cX11_look 15 = .ok (.invokevirtual 229, 3) := by decide +kernel
theorem dX11_look_18 : decode cX11_look 18 = .ok (.istore_n 2, 1) := by decide +kernel
theorem dX11_look_19 : decode cX11_look 19 = .ok (.iload_n 2, 1) := by decide +kernel
theorem dX11_look_20 : decode cX11_look 20 = .ok (.invokestatic 232, 3) := by decide +kernel
theorem dX11_look_23 : decode cX11_look 23 = .ok (.istore_n 3, 1) := by decide +kernel
theorem dX11_look_24 : decode cX11_look 24 = .ok (.iload_n 3, 1) := by decide +kernel
theorem dX11_look_25 : decode cX11_look 25 = .ok (.iconst 1, 1) := by decide +kernel
theorem dX11_look_26 : decode cX11_look 26 = .ok (.if_icmp .gt 6, 3) := by decide +kernel
theorem dX11_look_29 : decode cX11_look 29 = .ok (.bipush (-9), 2) := by decide +kernel
theorem dX11_look_31 : decode cX11_look 31 = .ok (.ireturn, 1) := by decide +kernel
theorem dX11_look_32 : decode cX11_look 32 = .ok (.bipush (-9), 2) := by decide +kernel
theorem dX11_look_34 : decode cX11_look 34 = .ok (.istore 4, 2) := by decide +kernel
theorem dX11_look_36 : decode cX11_look 36 = .ok (.iload_n 3, 1) := by decide +kernel
theorem dX11_look_37 : decode cX11_look 37 = .ok (.iconst 1, 1) := by decide +kernel
theorem dX11_look_38 : decode cX11_look 38 = .ok (.iadd, 1) := by decide +kernel
theorem dX11_look_39 : decode cX11_look 39 = .ok (.istore 5, 2) := by decide +kernel
theorem dX11_look_41 : decode cX11_look 41 = .ok (.iload_n 1, 1) := by decide +kernel
theorem dX11_look_42 : decode cX11_look 42 = .ok (.invokestatic 220, 3) := by decide +kernel
theorem dX11_look_45 : decode cX11_look 45 = .ok (.istore 6, 2) := by decide +kernel
theorem dX11_look_47 : decode cX11_look 47 = .ok (.iload 6, 2) := by decide +kernel
theorem dX11_look_49 : decode cX11_look 49 = .ok (.iload_n 1, 1) := by decide +kernel
theorem dX11_look_50 : decode cX11_look 50 = .ok (.invokestatic 223, 3) := by decide +kernel
theorem dX11_look_53 : decode cX11_look 53 = .ok (.if_icmp .gt 48, 3) := by decide +kernel
theorem dX11_look_56 : decode cX11_look 56 = .ok (.aload_n 0, 1) := by decide +kernel
theorem dX11_look_57 : decode cX11_look 57 = .ok (.getfield 19, 3) := by decide +kernel
theorem dX11_look_60 : decode cX11_look 60 = .ok (.iload_n 2, 1) := by decide +kernel
theorem dX11_look_61 : decode cX11_look 61 = .ok (.iload_n 1, 1) := by decide +kernel
theorem dX11_look_62 : decode cX11_look 62 = .ok (.iload 6, 2) := by decide +kernel
theorem dX11_look_64 : decode cX11_look 64 = .ok (.invokevirtual 237, 3) := by decide +kernel
theorem dX11_look_67 : decode cX11_look 67 = .ok (.istore 7, 2) := by decide +kernel
theorem dX11_look_69 : decode cX11_look 69 = .ok (.iload 7, 2) := by decide +kernel
theorem dX11_look_71 : decode cX11_look 71 = .ok (.iload_n 3, 1) := by decide +kernel
theorem dX11_look_72 : decode cX11_look 72 = .ok (.iload 7, 2) := by decide +kernel
theorem dX11_look_74 : decode cX11_look 74 = .ok (.isub, 1) := by decide +kernel
theorem dX11_look_75 : decode cX11_look 75 = .ok (.invokestatic 241, 3) := by decide +kernel
theorem dX11_look_78 : decode cX11_look 78 = .ok (.istore 8, 2) := by decide +kernel
theorem dX11_look_80 : decode cX11_look 80 = .ok (.iload 8, 2) := by decide +kernel
theorem dX11_look_82 : decode cX11_look 82 = .ok (.iload 5, 2) := by decide +kernel
theorem dX11_look_84 : decode cX11_look 84 = .ok (.if_icmp .ge 11, 3) := by decide +kernel
theorem dX11_look_87 : decode cX11_look 87 = .ok (.iload 8, 2) := by decide +kernel
theorem dX11_look_89 : decode cX11_look 89 = .ok (.istore 5, 2) := by decide +kernel
theorem dX11_look_91 : decode cX11_look 91 = .ok (.iload 6, 2) := by decide +kernel
theorem dX11_look_93 : decode cX11_look 93 = .ok (.istore 4, 2) := by decide +kernel
theorem dX11_look_95 : decode cX11_look 95 = .ok (.iinc 6 1, 3) := by decide +kernel
theorem dX11_look_98 : decode cX11_look 98 = .ok (.goto (-51), 3) := by decide +kernel
theorem dX11_look_101 : decode cX11_look 101 = .ok (.iload 4, 2) := by decide +kernel
theorem dX11_look_103 : decode cX11_look 103 = .ok (.ireturn, 1) := by decide +kernel
theorem dX11_rate_0 : decode cX11_rate 0 = .ok (.iload_n 1, 1) := by decide +kernel
theorem dX11_rate_1 : decode cX11_rate 1 = .ok (.ifCond .lt 23, 3) := by decide +kernel
theorem dX11_rate_4 : decode cX11_rate 4 = .ok (.iload_n 1, 1) := by decide +kernel
theorem dX11_rate_5 : decode cX11_rate 5 = .ok (.aload_n 0, 1) := by decide +kernel
theorem dX11_rate_6 : decode cX11_rate 6 = .ok (.getfield 82, 3) := by decide +kernel
theorem dX11_rate_9 : decode cX11_rate 9 = .ok (.arraylength, 1) := by decide +kernel
theorem dX11_rate_10 : decode cX11_rate 10 = .ok (.if_icmp .ge 14, 3) := by decide +kernel
theorem dX11_rate_13 : decode cX11_rate 13 = .ok (.aload_n 0, 1) := by decide +kernel
theorem dX11_rate_14 : decode cX11_rate 14 = .ok (.getfield 31, 3) := by decide +kernel
theorem dX11_rate_17 : decode cX11_rate 17 = .ok (.iload_n 2, 1) := by decide +kernel
theorem dX11_rate_18 : decode cX11_rate 18 = .ok (.invokevirtual 121, 3) := by decide +kernel
theorem dX11_rate_21 : decode cX11_rate 21 = .ok (.ifCond .ne 6, 3) := by decide +kernel
theorem dX11_rate_24 : decode cX11_rate 24 = .ok (.ldc 243, 2) := by decide +kernel
theorem dX11_rate_26 : decode cX11_rate 26 = .ok (.ireturn, 1) := by decide +kernel
theorem dX11_rate_27 : decode cX11_rate 27 = .ok (.aload_n 0, 1) := by decide +kernel
theorem dX11_rate_28 : decode cX11_rate 28 = .ok (.getfield 82, 3) := by decide +kernel
theorem dX11_rate_31 : decode cX11_rate 31 = .ok (.iload_n 1, 1) := by decide +kernel
theorem dX11_rate_32 : decode cX11_rate 32 = .ok (.aaload, 1) := by decide +kernel
theorem dX11_rate_33 : decode cX11_rate 33 = .ok (.aload_n 0, 1) := by decide +kernel
theorem dX11_rate_34 : decode cX11_rate 34 = .ok (.getfield 31, 3) := by decide +kernel
theorem dX11_rate_37 : decode cX11_rate 37 = .ok (.iload_n 2, 1) := by decide +kernel
theorem dX11_rate_38 : decode cX11_rate 38 = .ok (.invokevirtual 244, 3) := by decide +kernel
theorem dX11_rate_41 : decode cX11_rate 41 = .ok (.ireturn, 1) := by decide +kernel
theorem dX11_keep_0 : decode cX11_keep 0 = .ok (.iload_n 1, 1) := by decide +kernel
theorem dX11_keep_1 : decode cX11_keep 1 = .ok (.ifCond .lt 8, 3) := by decide +kernel
theorem dX11_keep_4 : decode cX11_keep 4 = .ok (.iload_n 1, 1) := by decide +kernel
theorem dX11_keep_5 : decode cX11_keep 5 = .ok (.iconst 2, 1) := by decide +kernel
theorem dX11_keep_6 : decode cX11_keep 6 = .ok (.if_icmp .lt 5, 3) := by decide +kernel
theorem dX11_keep_9 : decode cX11_keep 9 = .ok (.iconst (-1), 1) := by decide +kernel
theorem dX11_keep_10 : decode cX11_keep 10 = .ok (.ireturn, 1) := by decide +kernel
theorem dX11_keep_11 : decode cX11_keep 11 = .ok (.aload_n 0, 1) := by decide +kernel
theorem dX11_keep_12 : decode cX11_keep 12 = .ok (.getfield 45, 3) := by decide +kernel
theorem dX11_keep_15 : decode cX11_keep 15 = .ok (.iload_n 1, 1) := by decide +kernel
theorem dX11_keep_16 : decode cX11_keep 16 = .ok (.aaload, 1) := by decide +kernel
theorem dX11_keep_17 : decode cX11_keep 17 = .ok (.aload_n 0, 1) := by decide +kernel
theorem dX11_keep_18 : decode cX11_keep 18 = .ok (.getfield 31, 3) := by decide +kernel
theorem dX11_keep_21 : decode cX11_keep 21 = .ok (.invokevirtual 248, 3) := by decide +kernel
theorem dX11_keep_24 : decode cX11_keep 24 = .ok (.aload_n 0, 1) := by decide +kernel
theorem dX11_keep_25 : decode cX11_keep 25 = .ok (.getfield 49, 3) := by decide +kernel
theorem dX11_keep_28 : decode cX11_keep 28 = .ok (.iload_n 1, 1) := by decide +kernel
theorem dX11_keep_29 : decode cX11_keep 29 = .ok (.iconst 1, 1) := by decide +kernel
theorem dX11_keep_30 : decode cX11_keep 30 = .ok (.bastore, 1) := by decide +kernel
theorem dX11_keep_31 : decode cX11_keep 31 = .ok (.aload_n 0, 1) := by decide +kernel
theorem dX11_keep_32 : decode cX11_keep 32 = .ok (.getfield 31, 3) := by decide +kernel
theorem dX11_keep_35 : decode cX11_keep 35 = .ok (.getfield 155, 3) := by decide +kernel
theorem dX11_keep_38 : decode cX11_keep 38 = .ok (.ireturn, 1) := by decide +kernel
theorem dX11_back_0 : decode cX11_back 0 = .ok (.iload_n 1, 1) := by decide +kernel
theorem dX11_back_1 : decode cX11_back 1 = .ok (.ifCond .lt 8, 3) := by decide +kernel
theorem dX11_back_4 : decode cX11_back 4 = .ok (.iload_n 1, 1) := by decide +kernel
theorem dX11_back_5 : decode cX11_back 5 = .ok (.iconst 2, 1) := by decide +kernel
theorem dX11_back_6 : decode cX11_back 6 = .ok (.if_icmp .lt 5, 3) := by decide +kernel
theorem dX11_back_9 : decode cX11_back 9 = .ok (.iconst (-1), 1) := by decide +kernel
theorem dX11_back_10 : decode cX11_back 10 = .ok (.ireturn, 1) := by decide +kernel
theorem dX11_back_11 : decode cX11_back 11 = .ok (.aload_n 0, 1) := by decide +kernel
theorem dX11_back_12 : decode cX11_back 12 = .ok (.getfield 49, 3) := by decide +kernel
theorem dX11_back_15 : decode cX11_back 15 = .ok (.iload_n 1, 1) := by decide +kernel
theorem dX11_back_16 : decode cX11_back 16 = .ok (.baload, 1) := by decide +kernel
theorem dX11_back_17 : decode cX11_back 17 = .ok (.ifCond .ne 6, 3) := by decide +kernel
theorem dX11_back_20 : decode cX11_back 20 = .ok (.bipush (-2), 2) := by decide +kernel
theorem dX11_back_22 : decode cX11_back 22 = .ok (.ireturn, 1) := by decide +kernel
theorem dX11_back_23 : decode cX11_back 23 = .ok (.aload_n 0, 1) := by decide +kernel
theorem dX11_back_24 : decode cX11_back 24 = .ok (.getfield 31, 3) := by decide +kernel
theorem dX11_back_27 : decode cX11_back 27 = .ok (.aload_n 0, 1) := by decide +kernel
theorem dX11_back_28 : decode cX11_back 28 = .ok (.getfield 45, 3) := by decide +kernel
theorem dX11_back_31 : decode cX11_back 31 = .ok (.iload_n 1, 1) := by decide +kernel
theorem dX11_back_32 : decode cX11_back 32 = .ok (.aaload, 1) := by decide +kernel
theorem dX11_back_33 : decode cX11_back 33 = .ok (.invokevirtual 248, 3) := by decide +kernel
theorem dX11_back_36 : decode cX11_back 36 = .ok (.aload_n 0, 1) := by decide +kernel
theorem dX11_back_37 : decode cX11_back 37 = .ok (.getfield 41, 3) := by decide +kernel
theorem dX11_back_40 : decode cX11_back 40 = .ok (.iconst 0, 1) := by decide +kernel
theorem dX11_back_41 : decode cX11_back 41 = .ok (.putfield 104, 3) := by decide +kernel
theorem dX11_back_44 : decode cX11_back 44 = .ok (.aload_n 0, 1) := by decide +kernel
theorem dX11_back_45 : decode cX11_back 45 = .ok (.getfield 31, 3) := by decide +kernel
theorem dX11_back_48 : decode cX11_back 48 = .ok (.getfield 155, 3) := by decide +kernel
theorem dX11_back_51 : decode cX11_back 51 = .ok (.ireturn, 1) := by decide +kernel
theorem dX11_count_0 : decode cX11_count 0 = .ok (.iload_n 1, 1) := by decide +kernel
theorem dX11_count_1 : decode cX11_count 1 = .ok (.tableswitch 99 0 6 #[43, 51, 59, 67, 75, 83, 91], 43) := by decide +kernel
theorem dX11_count_44 : decode cX11_count 44 = .ok (.aload_n 0, 1) := by decide +kernel
theorem dX11_count_45 : decode cX11_count 45 = .ok (.getfield 19, 3) := by decide +kernel
theorem dX11_count_48 : decode cX11_count 48 = .ok (.getfield 146, 3) := by decide +kernel
theorem dX11_count_51 : decode cX11_count 51 = .ok (.ireturn, 1) := by decide +kernel
theorem dX11_count_52 : decode cX11_count 52 = .ok (.aload_n 0, 1) := by decide +kernel
theorem dX11_count_53 : decode cX11_count 53 = .ok (.getfield 19, 3) := by decide +kernel
theorem dX11_count_56 : decode cX11_count 56 = .ok (.getfield 250, 3) := by decide +kernel
theorem dX11_count_59 : decode cX11_count 59 = .ok (.ireturn, 1) := by decide +kernel
theorem dX11_count_60 : decode cX11_count 60 = .ok (.aload_n 0, 1) := by decide +kernel
theorem dX11_count_61 : decode cX11_count 61 = .ok (.getfield 19, 3) := by decide +kernel
theorem dX11_count_64 : decode cX11_count 64 = .ok (.getfield 253, 3) := by decide +kernel
theorem dX11_count_67 : decode cX11_count 67 = .ok (.ireturn, 1) := by decide +kernel
theorem dX11_count_68 : decode cX11_count 68 = .ok (.aload_n 0, 1) := by decide +kernel
theorem dX11_count_69 : decode cX11_count 69 = .ok (.getfield 19, 3) := by decide +kernel
theorem dX11_count_72 : decode cX11_count 72 = .ok (.getfield 256, 3) := by decide +kernel
theorem dX11_count_75 : decode cX11_count 75 = .ok (.ireturn, 1) := by decide +kernel
theorem dX11_count_76 : decode cX11_count 76 = .ok (.aload_n 0, 1) := by decide +kernel
theorem dX11_count_77 : decode cX11_count 77 = .ok (.getfield 31, 3) := by decide +kernel
theorem dX11_count_80 : decode cX11_count 80 = .ok (.getfield 174, 3) := by decide +kernel
theorem dX11_count_83 : decode cX11_count 83 = .ok (.ireturn, 1) := by decide +kernel
theorem dX11_count_84 : decode cX11_count 84 = .ok (.aload_n 0, 1) := by decide +kernel
theorem dX11_count_85 : decode cX11_count 85 = .ok (.getfield 56, 3) := by decide +kernel
theorem dX11_count_88 : decode cX11_count 88 = .ok (.getfield 107, 3) := by decide +kernel
theorem dX11_count_91 : decode cX11_count 91 = .ok (.ireturn, 1) := by decide +kernel
theorem dX11_count_92 : decode cX11_count 92 = .ok (.aload_n 0, 1) := by decide +kernel
theorem dX11_count_93 : decode cX11_count 93 = .ok (.getfield 10, 3) := by decide +kernel
theorem dX11_count_96 : decode cX11_count 96 = .ok (.getfield 90, 3) := by decide +kernel
theorem dX11_count_99 : decode cX11_count 99 = .ok (.ireturn, 1) := by decide +kernel
theorem dX11_count_100 : decode cX11_count 100 = .ok (.iconst (-1), 1) := by decide +kernel
theorem dX11_count_101 : decode cX11_count 101 = .ok (.ireturn, 1) := by decide +kernel
theorem dX11_trace_0 : decode cX11_trace 0 = .ok (.lconst 0, 1) := by decide +kernel
theorem dX11_trace_1 : decode cX11_trace 1 = .ok (.lstore_n 1, 1) := by decide +kernel
theorem dX11_trace_2 : decode cX11_trace 2 = .ok (.iconst 0, 1) := by decide +kernel
theorem dX11_trace_3 : decode cX11_trace 3 = .ok (.istore_n 3, 1) := by decide +kernel
theorem dX11_trace_4 : decode cX11_trace 4 = .ok (.iload_n 3, 1) := by decide +kernel
theorem dX11_trace_5 : decode cX11_trace 5 = .ok (.aload_n 0, 1) := by decide +kernel
theorem dX11_trace_6 : decode cX11_trace 6 = .ok (.getfield 82, 3) := by decide +kernel
theorem dX11_trace_9 : decode cX11_trace 9 = .ok (.arraylength, 1) := by decide +kernel
theorem dX11_trace_10 : decode cX11_trace 10 = .ok (.if_icmp .ge 21, 3) := by decide +kernel
theorem dX11_trace_13 : decode cX11_trace 13 = .ok (.lload_n 1, 1) := by decide +kernel
theorem dX11_trace_14 : decode cX11_trace 14 = .ok (.aload_n 0, 1) := by decide +kernel
theorem dX11_trace_15 : decode cX11_trace 15 = .ok (.getfield 82, 3) := by decide +kernel
theorem dX11_trace_18 : decode cX11_trace 18 = .ok (.iload_n 3, 1) := by decide +kernel
theorem dX11_trace_19 : decode cX11_trace 19 = .ok (.aaload, 1) := by decide +kernel
theorem dX11_trace_20 : decode cX11_trace 20 = .ok (.getfield 259, 3) := by decide +kernel
theorem dX11_trace_23 : decode cX11_trace 23 = .ok (.ladd, 1) := by decide +kernel
theorem dX11_trace_24 : decode cX11_trace 24 = .ok (.lstore_n 1, 1) := by decide +kernel
theorem dX11_trace_25 : decode cX11_trace 25 = .ok (.iinc 3 1, 3) := by decide +kernel
theorem dX11_trace_28 : decode cX11_trace 28 = .ok (.goto (-24), 3) := by decide +kernel
theorem dX11_trace_31 : decode cX11_trace 31 = .ok (.lload_n 1, 1) := by decide +kernel
theorem dX11_trace_32 : decode cX11_trace 32 = .ok (.lreturn, 1) := by decide +kernel
theorem dX11_orNone_0 : decode cX11_orNone 0 = .ok (.iload_n 0, 1) := by decide +kernel
theorem dX11_orNone_1 : decode cX11_orNone 1 = .ok (.bipush 60, 2) := by decide +kernel
theorem dX11_orNone_3 : decode cX11_orNone 3 = .ok (.if_icmp .le 8, 3) := by decide +kernel
theorem dX11_orNone_6 : decode cX11_orNone 6 = .ok (.bipush (-9), 2) := by decide +kernel
theorem dX11_orNone_8 : decode cX11_orNone 8 = .ok (.goto 4, 3) := by decide +kernel
theorem dX11_orNone_11 : decode cX11_orNone 11 = .ok (.iload_n 0, 1) := by decide +kernel
theorem dX11_orNone_12 : decode cX11_orNone 12 = .ok (.ireturn, 1) := by decide +kernel
theorem dX11_whenNow_0 : decode cX11_whenNow 0 = .ok (.aload_n 0, 1) := by decide +kernel
theorem dX11_whenNow_1 : decode cX11_whenNow 1 = .ok (.getfield 35, 3) := by decide +kernel
theorem dX11_whenNow_4 : decode cX11_whenNow 4 = .ok (.aload_n 0, 1) := by decide +kernel
theorem dX11_whenNow_5 : decode cX11_whenNow 5 = .ok (.getfield 31, 3) := by decide +kernel
theorem dX11_whenNow_8 : decode cX11_whenNow 8 = .ok (.invokevirtual 248, 3) := by decide +kernel
theorem dX11_whenNow_11 : decode cX11_whenNow 11 = .ok (.aload_n 0, 1) := by decide +kernel
theorem dX11_whenNow_12 : decode cX11_whenNow 12 = .ok (.getfield 35, 3) := by decide +kernel
theorem dX11_whenNow_15 : decode cX11_whenNow 15 = .ok (.iload_n 1, 1) := by decide +kernel
theorem dX11_whenNow_16 : decode cX11_whenNow 16 = .ok (.invokevirtual 263, 3) := by decide +kernel
theorem dX11_whenNow_19 : decode cX11_whenNow 19 = .ok (.ireturn, 1) := by decide +kernel
theorem dX11_sticksNow_0 : decode cX11_sticksNow 0 = .ok (.aload_n 0, 1) := by decide +kernel
theorem dX11_sticksNow_1 : decode cX11_sticksNow 1 = .ok (.getfield 35, 3) := by decide +kernel
theorem dX11_sticksNow_4 : decode cX11_sticksNow 4 = .ok (.aload_n 0, 1) := by decide +kernel
theorem dX11_sticksNow_5 : decode cX11_sticksNow 5 = .ok (.getfield 31, 3) := by decide +kernel
theorem dX11_sticksNow_8 : decode cX11_sticksNow 8 = .ok (.invokevirtual 248, 3) := by decide +kernel
theorem dX11_sticksNow_11 : decode cX11_sticksNow 11 = .ok (.aload_n 0, 1) := by decide +kernel
theorem dX11_sticksNow_12 : decode cX11_sticksNow 12 = .ok (.getfield 35, 3) := by decide +kernel
theorem dX11_sticksNow_15 : decode cX11_sticksNow 15 = .ok (.invokevirtual 266, 3) := by decide +kernel
theorem dX11_sticksNow_18 : decode cX11_sticksNow 18 = .ok (.ireturn, 1) := by decide +kernel
theorem dX11_allNow_0 : decode cX11_allNow 0 = .ok (.aload_n 0, 1) := by decide +kernel
theorem dX11_allNow_1 : decode cX11_allNow 1 = .ok (.getfield 35, 3) := by decide +kernel
theorem dX11_allNow_4 : decode cX11_allNow 4 = .ok (.aload_n 0, 1) := by decide +kernel
theorem dX11_allNow_5 : decode cX11_allNow 5 = .ok (.getfield 31, 3) := by decide +kernel
theorem dX11_allNow_8 : decode cX11_allNow 8 = .ok (.invokevirtual 248, 3) := by decide +kernel
theorem dX11_allNow_11 : decode cX11_allNow 11 = .ok (.aload_n 0, 1) := by decide +kernel
theorem dX11_allNow_12 : decode cX11_allNow 12 = .ok (.getfield 35, 3) := by decide +kernel
theorem dX11_allNow_15 : decode cX11_allNow 15 = .ok (.invokevirtual 269, 3) := by decide +kernel
theorem dX11_allNow_18 : decode cX11_allNow 18 = .ok (.ireturn, 1) := by decide +kernel
theorem dX11_bestHelper_0 : decode cX11_bestHelper 0 = .ok (.aload_n 0, 1) := by decide +kernel
theorem dX11_bestHelper_1 : decode cX11_bestHelper 1 = .ok (.getfield 35, 3) := by decide +kernel
theorem dX11_bestHelper_4 : decode cX11_bestHelper 4 = .ok (.aload_n 0, 1) := by decide +kernel
theorem dX11_bestHelper_5 : decode cX11_bestHelper 5 = .ok (.getfield 31, 3) := by decide +kernel
theorem dX11_bestHelper_8 : decode cX11_bestHelper 8 = .ok (.invokevirtual 248, 3) := by decide +kernel
theorem dX11_bestHelper_11 : decode cX11_bestHelper 11 = .ok (.aload_n 0, 1) := by decide +kernel
theorem dX11_bestHelper_12 : decode cX11_bestHelper 12 = .ok (.getfield 35, 3) := by decide +kernel
theorem dX11_bestHelper_15 : decode cX11_bestHelper 15 = .ok (.iload_n 1, 1) := by decide +kernel
theorem dX11_bestHelper_16 : decode cX11_bestHelper 16 = .ok (.invokevirtual 263, 3) := by decide +kernel
theorem dX11_bestHelper_19 : decode cX11_bestHelper 19 = .ok (.istore_n 3, 1) := by decide +kernel
theorem dX11_bestHelper_20 : decode cX11_bestHelper 20 = .ok (.bipush (-9), 2) := by decide +kernel
theorem dX11_bestHelper_22 : decode cX11_bestHelper 22 = .ok (.istore 4, 2) := by decide +kernel
theorem dX11_bestHelper_24 : decode cX11_bestHelper 24 = .ok (.iconst 0, 1) := by decide +kernel
theorem dX11_bestHelper_25 : decode cX11_bestHelper 25 = .ok (.istore 5, 2) := by decide +kernel
theorem dX11_bestHelper_27 : decode cX11_bestHelper 27 = .ok (.iload 5, 2) := by decide +kernel
theorem dX11_bestHelper_29 : decode cX11_bestHelper 29 = .ok (.aload_n 0, 1) := by decide +kernel
theorem dX11_bestHelper_30 : decode cX11_bestHelper 30 = .ok (.getfield 31, 3) := by decide +kernel
theorem dX11_bestHelper_33 : decode cX11_bestHelper 33 = .ok (.getfield 174, 3) := by decide +kernel
theorem dX11_bestHelper_36 : decode cX11_bestHelper 36 = .ok (.if_icmp .ge 90, 3) := by decide +kernel
theorem dX11_bestHelper_39 : decode cX11_bestHelper 39 = .ok (.iload 5, 2) := by decide +kernel
theorem dX11_bestHelper_41 : decode cX11_bestHelper 41 = .ok (.iload_n 1, 1) := by decide +kernel
theorem dX11_bestHelper_42 : decode cX11_bestHelper 42 = .ok (.if_icmp .eq 78, 3) := by decide +kernel
theorem dX11_bestHelper_45 : decode cX11_bestHelper 45 = .ok (.aload_n 0, 1) := by decide +kernel
theorem dX11_bestHelper_46 : decode cX11_bestHelper 46 = .ok (.getfield 31, 3) := by decide +kernel
theorem dX11_bestHelper_49 : decode cX11_bestHelper 49 = .ok (.getfield 131, 3) := by decide +kernel
theorem dX11_bestHelper_52 : decode cX11_bestHelper 52 = .ok (.iload 5, 2) := by decide +kernel
theorem dX11_bestHelper_54 : decode cX11_bestHelper 54 = .ok (.iaload, 1) := by decide +kernel
theorem dX11_bestHelper_55 : decode cX11_bestHelper 55 = .ok (.ifCond .eq 6, 3) := by decide +kernel
theorem dX11_bestHelper_58 : decode cX11_bestHelper 58 = .ok (.goto 62, 3) := by decide +kernel
theorem dX11_bestHelper_61 : decode cX11_bestHelper 61 = .ok (.aload_n 0, 1) := by decide +kernel
theorem dX11_bestHelper_62 : decode cX11_bestHelper 62 = .ok (.getfield 35, 3) := by decide +kernel
theorem dX11_bestHelper_65 : decode cX11_bestHelper 65 = .ok (.aload_n 0, 1) := by decide +kernel
theorem dX11_bestHelper_66 : decode cX11_bestHelper 66 = .ok (.getfield 31, 3) := by decide +kernel
theorem dX11_bestHelper_69 : decode cX11_bestHelper 69 = .ok (.invokevirtual 248, 3) := by decide +kernel
theorem dX11_bestHelper_72 : decode cX11_bestHelper 72 = .ok (.iload_n 2, 1) := by decide +kernel
theorem dX11_bestHelper_73 : decode cX11_bestHelper 73 = .ok (.ifCond .eq 15, 3) := by decide +kernel
theorem dX11_bestHelper_76 : decode cX11_bestHelper 76 = .ok (.aload_n 0, 1) := by decide +kernel
theorem dX11_bestHelper_77 : decode cX11_bestHelper 77 = .ok (.getfield 35, 3) := by decide +kernel
theorem dX11_bestHelper_80 : decode cX11_bestHelper 80 = .ok (.iload 5, 2) := by decide +kernel
theorem dX11_bestHelper_82 : decode cX11_bestHelper 82 = .ok (.invokevirtual 195, 3) := by decide +kernel
theorem dX11_bestHelper_85 : decode cX11_bestHelper 85 = .ok (.goto 12, 3) := by decide +kernel
theorem dX11_bestHelper_88 : decode cX11_bestHelper 88 = .ok (.aload_n 0, 1) := by decide +kernel
theorem dX11_bestHelper_89 : decode cX11_bestHelper 89 = .ok (.getfield 35, 3) := by decide +kernel
theorem dX11_bestHelper_92 : decode cX11_bestHelper 92 = .ok (.iload 5, 2) := by decide +kernel
theorem dX11_bestHelper_94 : decode cX11_bestHelper 94 = .ok (.invokevirtual 188, 3) := by decide +kernel
theorem dX11_bestHelper_97 : decode cX11_bestHelper 97 = .ok (.aload_n 0, 1) := by decide +kernel
theorem dX11_bestHelper_98 : decode cX11_bestHelper 98 = .ok (.getfield 35, 3) := by decide +kernel
theorem dX11_bestHelper_101 : decode cX11_bestHelper 101 = .ok (.iload_n 1, 1) := by decide +kernel
theorem dX11_bestHelper_102 : decode cX11_bestHelper 102 = .ok (.invokevirtual 263, 3) := by decide +kernel
theorem dX11_bestHelper_105 : decode cX11_bestHelper 105 = .ok (.istore 6, 2) := by decide +kernel
theorem dX11_bestHelper_107 : decode cX11_bestHelper 107 = .ok (.iload 6, 2) := by decide +kernel
theorem dX11_bestHelper_109 : decode cX11_bestHelper 109 = .ok (.iload_n 3, 1) := by decide +kernel
theorem dX11_bestHelper_110 : decode cX11_bestHelper 110 = .ok (.if_icmp .ge 10, 3) := by decide +kernel
theorem dX11_bestHelper_113 : decode cX11_bestHelper 113 = .ok (.iload 6, 2) := by decide +kernel
theorem dX11_bestHelper_115 : decode cX11_bestHelper 115 = .ok (.istore_n 3, 1) := by decide +kernel
theorem dX11_bestHelper_116 : decode cX11_bestHelper 116 = .ok (.iload 5, 2) := by decide +kernel
theorem dX11_bestHelper_118 : decode cX11_bestHelper 118 = .ok (.istore 4, 2) := by decide +kernel
theorem dX11_bestHelper_120 : decode cX11_bestHelper 120 = .ok (.iinc 5 1, 3) := by decide +kernel
theorem dX11_bestHelper_123 : decode cX11_bestHelper 123 = .ok (.goto (-96), 3) := by decide +kernel
theorem dX11_bestHelper_126 : decode cX11_bestHelper 126 = .ok (.iload 4, 2) := by decide +kernel
theorem dX11_bestHelper_128 : decode cX11_bestHelper 128 = .ok (.ireturn, 1) := by decide +kernel
theorem dX11_waysToGo_0 : decode cX11_waysToGo 0 = .ok (.aload_n 0, 1) := by decide +kernel
theorem dX11_waysToGo_1 : decode cX11_waysToGo 1 = .ok (.getfield 31, 3) := by decide +kernel
theorem dX11_waysToGo_4 : decode cX11_waysToGo 4 = .ok (.iconst 1, 1) := by decide +kernel
theorem dX11_waysToGo_5 : decode cX11_waysToGo 5 = .ok (.invokevirtual 165, 3) := by decide +kernel
theorem dX11_waysToGo_8 : decode cX11_waysToGo 8 = .ok (.ifCond .ne 5, 3) := by decide +kernel
theorem dX11_waysToGo_11 : decode cX11_waysToGo 11 = .ok (.lconst 0, 1) := by decide +kernel
theorem dX11_waysToGo_12 : decode cX11_waysToGo 12 = .ok (.lreturn, 1) := by decide +kernel
theorem dX11_waysToGo_13 : decode cX11_waysToGo 13 = .ok (.aload_n 0, 1) := by decide +kernel
theorem dX11_waysToGo_14 : decode cX11_waysToGo 14 = .ok (.getfield 60, 3) := by decide +kernel
theorem dX11_waysToGo_17 : decode cX11_waysToGo 17 = .ok (.lconst 0, 1) := by decide +kernel
theorem dX11_waysToGo_18 : decode cX11_waysToGo 18 = .ok (.invokestatic 272, 3) := by decide +kernel
theorem dX11_waysToGo_21 : decode cX11_waysToGo 21 = .ok (.aload_n 0, 1) := by decide +kernel
theorem dX11_waysToGo_22 : decode cX11_waysToGo 22 = .ok (.getfield 60, 3) := by decide +kernel
theorem dX11_waysToGo_25 : decode cX11_waysToGo 25 = .ok (.iconst 0, 1) := by decide +kernel
theorem dX11_waysToGo_26 : decode cX11_waysToGo 26 = .ok (.lconst 1, 1) := by decide +kernel
theorem dX11_waysToGo_27 : decode cX11_waysToGo 27 = .ok (.lastore, 1) := by decide +kernel
theorem dX11_waysToGo_28 : decode cX11_waysToGo 28 = .ok (.iconst 0, 1) := by decide +kernel
theorem dX11_waysToGo_29 : decode cX11_waysToGo 29 = .ok (.istore_n 2, 1) := by decide +kernel
theorem dX11_waysToGo_30 : decode cX11_waysToGo 30 = .ok (.iconst 0, 1) := by decide +kernel
theorem dX11_waysToGo_31 : decode cX11_waysToGo 31 = .ok (.istore_n 3, 1) := by decide +kernel
theorem dX11_waysToGo_32 : decode cX11_waysToGo 32 = .ok (.iload_n 3, 1) := by decide +kernel
theorem dX11_waysToGo_33 : decode cX11_waysToGo 33 = .ok (.aload_n 0, 1) := by decide +kernel
theorem dX11_waysToGo_34 : decode cX11_waysToGo 34 = .ok (.getfield 31, 3) := by decide +kernel
theorem dX11_waysToGo_37 : decode cX11_waysToGo 37 = .ok (.getfield 174, 3) := by decide +kernel
theorem dX11_waysToGo_40 : decode cX11_waysToGo 40 = .ok (.if_icmp .ge 37, 3) := by decide +kernel
theorem dX11_waysToGo_43 : decode cX11_waysToGo 43 = .ok (.aload_n 0, 1) := by decide +kernel
theorem dX11_waysToGo_44 : decode cX11_waysToGo 44 = .ok (.getfield 31, 3) := by decide +kernel
theorem dX11_waysToGo_47 : decode cX11_waysToGo 47 = .ok (.getfield 131, 3) := by decide +kernel
theorem dX11_waysToGo_50 : decode cX11_waysToGo 50 = .ok (.iload_n 3, 1) := by decide +kernel
theorem dX11_waysToGo_51 : decode cX11_waysToGo 51 = .ok (.iaload, 1) := by decide +kernel
theorem dX11_waysToGo_52 : decode cX11_waysToGo 52 = .ok (.iconst 1, 1) := by decide +kernel
theorem dX11_waysToGo_53 : decode cX11_waysToGo 53 = .ok (.if_icmp .ne 18, 3) := by decide +kernel
theorem dX11_waysToGo_56 : decode cX11_waysToGo 56 = .ok (.aload_n 0, 1) := by decide +kernel
theorem dX11_waysToGo_57 : decode cX11_waysToGo 57 = .ok (.aload_n 0, 1) := by decide +kernel
theorem dX11_waysToGo_58 : decode cX11_waysToGo 58 = .ok (.getfield 31, 3) := by decide +kernel
theorem dX11_waysToGo_61 : decode cX11_waysToGo 61 = .ok (.iload_n 3, 1) := by decide +kernel
theorem dX11_waysToGo_62 : decode cX11_waysToGo 62 = .ok (.invokevirtual 278, 3) := by decide +kernel
theorem dX11_waysToGo_65 : decode cX11_waysToGo 65 = .ok (.iload_n 1, 1) := by decide +kernel
theorem dX11_waysToGo_66 : decode cX11_waysToGo 66 = .ok (.iload_n 2, 1) := by decide +kernel
theorem dX11_waysToGo_67 : decode cX11_waysToGo 67 = .ok (.invokevirtual 279, 3) := by decide +kernel
theorem dX11_waysToGo_70 : decode cX11_waysToGo 70 = .ok (.istore_n 2, 1) := by decide +kernel
theorem dX11_waysToGo_71 : decode cX11_waysToGo 71 = .ok (.iinc 3 1, 3) := by decide +kernel
theorem dX11_waysToGo_74 : decode cX11_waysToGo 74 = .ok (.goto (-42), 3) := by decide +kernel
theorem dX11_waysToGo_77 : decode cX11_waysToGo 77 = .ok (.lconst 0, 1) := by decide +kernel
theorem dX11_waysToGo_78 : decode cX11_waysToGo 78 = .ok (.lstore_n 3, 1) := by decide +kernel
theorem dX11_waysToGo_79 : decode cX11_waysToGo 79 = .ok (.aload_n 0, 1) := by decide +kernel
theorem dX11_waysToGo_80 : decode cX11_waysToGo 80 = .ok (.getfield 31, 3) := by decide +kernel
theorem dX11_waysToGo_83 : decode cX11_waysToGo 83 = .ok (.invokevirtual 162, 3) := by decide +kernel
theorem dX11_waysToGo_86 : decode cX11_waysToGo 86 = .ok (.istore 5, 2) := by decide +kernel
theorem dX11_waysToGo_88 : decode cX11_waysToGo 88 = .ok (.iload 5, 2) := by decide +kernel
theorem dX11_waysToGo_90 : decode cX11_waysToGo 90 = .ok (.iload_n 2, 1) := by decide +kernel
theorem dX11_waysToGo_91 : decode cX11_waysToGo 91 = .ok (.if_icmp .gt 19, 3) := by decide +kernel
theorem dX11_waysToGo_94 : decode cX11_waysToGo 94 = .ok (.lload_n 3, 1) := by decide +kernel
theorem dX11_waysToGo_95 : decode cX11_waysToGo 95 = .ok (.aload_n 0, 1) := by decide +kernel
theorem dX11_waysToGo_96 : decode cX11_waysToGo 96 = .ok (.getfield 60, 3) := by decide +kernel
theorem dX11_waysToGo_99 : decode cX11_waysToGo 99 = .ok (.iload 5, 2) := by decide +kernel
theorem dX11_waysToGo_101 : decode cX11_waysToGo 101 = .ok (.laload, 1) := by decide +kernel
theorem dX11_waysToGo_102 : decode cX11_waysToGo 102 = .ok (.ladd, 1) := by decide +kernel
theorem dX11_waysToGo_103 : decode cX11_waysToGo 103 = .ok (.lstore_n 3, 1) := by decide +kernel
theorem dX11_waysToGo_104 : decode cX11_waysToGo 104 = .ok (.iinc 5 1, 3) := by decide +kernel
theorem dX11_waysToGo_107 : decode cX11_waysToGo 107 = .ok (.goto (-19), 3) := by decide +kernel
theorem dX11_waysToGo_110 : decode cX11_waysToGo 110 = .ok (.lload_n 3, 1) := by decide +kernel
theorem dX11_waysToGo_111 : decode cX11_waysToGo 111 = .ok (.lreturn, 1) := by decide +kernel
theorem dX11_addPusher_0 : decode cX11_addPusher 0 = .ok (.iload_n 3, 1) := by decide +kernel
theorem dX11_addPusher_1 : decode cX11_addPusher 1 = .ok (.iload_n 1, 1) := by decide +kernel
theorem dX11_addPusher_2 : decode cX11_addPusher 2 = .ok (.iadd, 1) := by decide +kernel
theorem dX11_addPusher_3 : decode cX11_addPusher 3 = .ok (.aload_n 0, 1) := by decide +kernel
theorem dX11_addPusher_4 : decode cX11_addPusher 4 = .ok (.getfield 60, 3) := by decide +kernel
theorem dX11_addPusher_7 : decode cX11_addPusher 7 = .ok (.arraylength, 1) := by decide +kernel
theorem dX11_addPusher_8 : decode cX11_addPusher 8 = .ok (.iconst 1, 1) := by decide +kernel
theorem dX11_addPusher_9 : decode cX11_addPusher 9 = .ok (.isub, 1) := by decide +kernel
theorem dX11_addPusher_10 : decode cX11_addPusher 10 = .ok (.invokestatic 282, 3) := by decide +kernel
theorem dX11_addPusher_13 : decode cX11_addPusher 13 = .ok (.istore 4, 2) := by decide +kernel
theorem dX11_addPusher_15 : decode cX11_addPusher 15 = .ok (.iload 4, 2) := by decide +kernel
theorem dX11_addPusher_17 : decode cX11_addPusher 17 = .ok (.iload_n 1, 1) := by decide +kernel
theorem dX11_addPusher_18 : decode cX11_addPusher 18 = .ok (.isub, 1) := by decide +kernel
theorem dX11_addPusher_19 : decode cX11_addPusher 19 = .ok (.istore 5, 2) := by decide +kernel
theorem dX11_addPusher_21 : decode cX11_addPusher 21 = .ok (.iload 5, 2) := by decide +kernel
theorem dX11_addPusher_23 : decode cX11_addPusher 23 = .ok (.ifCond .lt 50, 3) := by decide +kernel
theorem dX11_addPusher_26 : decode cX11_addPusher 26 = .ok (.aload_n 0, 1) := by decide +kernel
theorem dX11_addPusher_27 : decode cX11_addPusher 27 = .ok (.getfield 60, 3) := by decide +kernel
theorem dX11_addPusher_30 : decode cX11_addPusher 30 = .ok (.iload 5, 2) := by decide +kernel
theorem dX11_addPusher_32 : decode cX11_addPusher 32 = .ok (.laload, 1) := by decide +kernel
theorem dX11_addPusher_33 : decode cX11_addPusher 33 = .ok (.lstore 6, 2) := by decide +kernel
theorem dX11_addPusher_35 : decode cX11_addPusher 35 = .ok (.aload_n 0, 1) := by decide +kernel
theorem dX11_addPusher_36 : decode cX11_addPusher 36 = .ok (.getfield 60, 3) := by decide +kernel
theorem dX11_addPusher_39 : decode cX11_addPusher 39 = .ok (.iload 5, 2) := by decide +kernel
theorem dX11_addPusher_41 : decode cX11_addPusher 41 = .ok (.lload 6, 2) := by decide +kernel
theorem dX11_addPusher_43 : decode cX11_addPusher 43 = .ok (.iload_n 2, 1) := by decide +kernel
theorem dX11_addPusher_44 : decode cX11_addPusher 44 = .ok (.i2l, 1) := by decide +kernel
theorem dX11_addPusher_45 : decode cX11_addPusher 45 = .ok (.lmul, 1) := by decide +kernel
theorem dX11_addPusher_46 : decode cX11_addPusher 46 = .ok (.lastore, 1) := by decide +kernel
theorem dX11_addPusher_47 : decode cX11_addPusher 47 = .ok (.aload_n 0, 1) := by decide +kernel
theorem dX11_addPusher_48 : decode cX11_addPusher 48 = .ok (.getfield 60, 3) := by decide +kernel
theorem dX11_addPusher_51 : decode cX11_addPusher 51 = .ok (.iload 5, 2) := by decide +kernel
theorem dX11_addPusher_53 : decode cX11_addPusher 53 = .ok (.iload_n 1, 1) := by decide +kernel
theorem dX11_addPusher_54 : decode cX11_addPusher 54 = .ok (.iadd, 1) := by decide +kernel
theorem dX11_addPusher_55 : decode cX11_addPusher 55 = .ok (.dup2, 1) := by decide +kernel
theorem dX11_addPusher_56 : decode cX11_addPusher 56 = .ok (.laload, 1) := by decide +kernel
theorem dX11_addPusher_57 : decode cX11_addPusher 57 = .ok (.lload 6, 2) := by decide +kernel
theorem dX11_addPusher_59 : decode cX11_addPusher 59 = .ok (.bipush 10, 2) := by decide +kernel
theorem dX11_addPusher_61 : decode cX11_addPusher 61 = .ok (.iload_n 2, 1) := by decide +kernel
theorem dX11_addPusher_62 : decode cX11_addPusher 62 = .ok (.isub, 1) := by decide +kernel
theorem dX11_addPusher_63 : decode cX11_addPusher 63 = .ok (.i2l, 1) := by decide +kernel
theorem dX11_addPusher_64 : decode cX11_addPusher 64 = .ok (.lmul, 1) := by decide +kernel
theorem dX11_addPusher_65 : decode cX11_addPusher 65 = .ok (.ladd, 1) := by decide +kernel
theorem dX11_addPusher_66 : decode cX11_addPusher 66 = .ok (.lastore, 1) := by decide +kernel
theorem dX11_addPusher_67 : decode cX11_addPusher 67 = .ok (.iinc 5 (-1), 3) := by decide +kernel
theorem dX11_addPusher_70 : decode cX11_addPusher 70 = .ok (.goto (-49), 3) := by decide +kernel
theorem dX11_addPusher_73 : decode cX11_addPusher 73 = .ok (.iload 4, 2) := by decide +kernel
theorem dX11_addPusher_75 : decode cX11_addPusher 75 = .ok (.ireturn, 1) := by decide +kernel
theorem dX11_greatestDivisor_0 : decode cX11_greatestDivisor 0 = .ok (.lload_n 0, 1) := by decide +kernel
theorem dX11_greatestDivisor_1 : decode cX11_greatestDivisor 1 = .ok (.lstore 4, 2) := by decide +kernel
theorem dX11_greatestDivisor_3 : decode cX11_greatestDivisor 3 = .ok (.lload_n 2, 1) := by decide +kernel
theorem dX11_greatestDivisor_4 : decode cX11_greatestDivisor 4 = .ok (.lstore 6, 2) := by decide +kernel
theorem dX11_greatestDivisor_6 : decode cX11_greatestDivisor 6 = .ok (.iconst 0, 1) := by decide +kernel
theorem dX11_greatestDivisor_7 : decode cX11_greatestDivisor 7 = .ok (.istore 8, 2) := by decide +kernel
theorem dX11_greatestDivisor_9 : decode cX11_greatestDivisor 9 = .ok (.iload 8, 2) := by decide +kernel
theorem dX11_greatestDivisor_11 : decode cX11_greatestDivisor 11 = .ok (.bipush 100, 2) := by decide +kernel
theorem dX11_greatestDivisor_13 : decode cX11_greatestDivisor 13 = .ok (.if_icmp .ge 31, 3) := by decide +kernel
theorem dX11_greatestDivisor_16 : decode cX11_greatestDivisor 16 = .ok (.lload 6, 2) := by decide +kernel
theorem dX11_greatestDivisor_18 : decode cX11_greatestDivisor 18 = .ok (.lconst 0, 1) := by decide +kernel
theorem dX11_greatestDivisor_19 : decode cX11_greatestDivisor 19 = .ok (.lcmp, 1) := by decide +kernel
theorem dX11_greatestDivisor_20 : decode cX11_greatestDivisor 20 = .ok (.ifCond .eq 24, 3) := by decide +kernel
theorem dX11_greatestDivisor_23 : decode cX11_greatestDivisor 23 = .ok (.lload 4, 2) := by decide +kernel
theorem dX11_greatestDivisor_25 : decode cX11_greatestDivisor 25 = .ok (.lload 6, 2) := by decide +kernel
theorem dX11_greatestDivisor_27 : decode cX11_greatestDivisor 27 = .ok (.lrem, 1) := by decide +kernel
theorem dX11_greatestDivisor_28 : decode cX11_greatestDivisor 28 = .ok (.lstore 9, 2) := by decide +kernel
theorem dX11_greatestDivisor_30 : decode cX11_greatestDivisor 30 = .ok (.lload 6, 2) := by decide +kernel
theorem dX11_greatestDivisor_32 : decode cX11_greatestDivisor 32 = .ok (.lstore 4, 2) := by decide +kernel
theorem dX11_greatestDivisor_34 : decode cX11_greatestDivisor 34 = .ok (.lload 9, 2) := by decide +kernel
theorem dX11_greatestDivisor_36 : decode cX11_greatestDivisor 36 = .ok (.lstore 6, 2) := by decide +kernel
theorem dX11_greatestDivisor_38 : decode cX11_greatestDivisor 38 = .ok (.iinc 8 1, 3) := by decide +kernel
theorem dX11_greatestDivisor_41 : decode cX11_greatestDivisor 41 = .ok (.goto (-32), 3) := by decide +kernel
theorem dX11_greatestDivisor_44 : decode cX11_greatestDivisor 44 = .ok (.lload 4, 2) := by decide +kernel
theorem dX11_greatestDivisor_46 : decode cX11_greatestDivisor 46 = .ok (.lreturn, 1) := by decide +kernel
theorem dX11_leastOf_0 : decode cX11_leastOf 0 = .ok (.iload_n 0, 1) := by decide +kernel
theorem dX11_leastOf_1 : decode cX11_leastOf 1 = .ok (.ifCond .ne 7, 3) := by decide +kernel
theorem dX11_leastOf_4 : decode cX11_leastOf 4 = .ok (.iconst 1, 1) := by decide +kernel
theorem dX11_leastOf_5 : decode cX11_leastOf 5 = .ok (.goto 4, 3) := by decide +kernel
theorem dX11_leastOf_8 : decode cX11_leastOf 8 = .ok (.iconst 0, 1) := by decide +kernel
theorem dX11_leastOf_9 : decode cX11_leastOf 9 = .ok (.ireturn, 1) := by decide +kernel
theorem dX11_mostOf_0 : decode cX11_mostOf 0 = .ok (.iload_n 0, 1) := by decide +kernel
theorem dX11_mostOf_1 : decode cX11_mostOf 1 = .ok (.ifCond .ne 7, 3) := by decide +kernel
theorem dX11_mostOf_4 : decode cX11_mostOf 4 = .ok (.iconst 5, 1) := by decide +kernel
theorem dX11_mostOf_5 : decode cX11_mostOf 5 = .ok (.goto 5, 3) := by decide +kernel
theorem dX11_mostOf_8 : decode cX11_mostOf 8 = .ok (.bipush 9, 2) := by decide +kernel
theorem dX11_mostOf_10 : decode cX11_mostOf 10 = .ok (.ireturn, 1) := by decide +kernel
theorem dX12_init_0 : decode cX12_init 0 = .ok (.aload_n 0, 1) := by decide +kernel
theorem dX12_init_1 : decode cX12_init 1 = .ok (.invokespecial 1, 3) := by decide +kernel
theorem dX12_init_4 : decode cX12_init 4 = .ok (.aload_n 0, 1) := by decide +kernel
theorem dX12_init_5 : decode cX12_init 5 = .ok (.iconst 4, 1) := by decide +kernel
theorem dX12_init_6 : decode cX12_init 6 = .ok (.putfield 7, 3) := by decide +kernel
theorem dX12_init_9 : decode cX12_init 9 = .ok (.aload_n 0, 1) := by decide +kernel
theorem dX12_init_10 : decode cX12_init 10 = .ok (.iconst 2, 1) := by decide +kernel
theorem dX12_init_11 : decode cX12_init 11 = .ok (.putfield 13, 3) := by decide +kernel
theorem dX12_init_14 : decode cX12_init 14 = .ok (.aload_n 0, 1) := by decide +kernel
theorem dX12_init_15 : decode cX12_init 15 = .ok (.iconst 3, 1) := by decide +kernel
theorem dX12_init_16 : decode cX12_init 16 = .ok (.putfield 16, 3) := by decide +kernel
theorem dX12_init_19 : decode cX12_init 19 = .ok (.aload_n 0, 1) := by decide +kernel
theorem dX12_init_20 : decode cX12_init 20 = .ok (.bipush 6, 2) := by decide +kernel
theorem dX12_init_22 : decode cX12_init 22 = .ok (.newarray .int, 2) := by decide +kernel
theorem dX12_init_24 : decode cX12_init 24 = .ok (.putfield 19, 3) := by decide +kernel
theorem dX12_init_27 : decode cX12_init 27 = .ok (.aload_n 0, 1) := by decide +kernel
theorem dX12_init_28 : decode cX12_init 28 = .ok (.bipush 6, 2) := by decide +kernel
theorem dX12_init_30 : decode cX12_init 30 = .ok (.newarray .int, 2) := by decide +kernel
theorem dX12_init_32 : decode cX12_init 32 = .ok (.putfield 23, 3) := by decide +kernel
theorem dX12_init_35 : decode cX12_init 35 = .ok (.aload_n 0, 1) := by decide +kernel
theorem dX12_init_36 : decode cX12_init 36 = .ok (.bipush 47, 2) := by decide +kernel
theorem dX12_init_38 : decode cX12_init 38 = .ok (.newarray .int, 2) := by decide +kernel
theorem dX12_init_40 : decode cX12_init 40 = .ok (.putfield 26, 3) := by decide +kernel
theorem dX12_init_43 : decode cX12_init 43 = .ok (.aload_n 0, 1) := by decide +kernel
theorem dX12_init_44 : decode cX12_init 44 = .ok (.bipush 47, 2) := by decide +kernel
theorem dX12_init_46 : decode cX12_init 46 = .ok (.newarray .int, 2) := by decide +kernel
theorem dX12_init_48 : decode cX12_init 48 = .ok (.putfield 29, 3) := by decide +kernel
theorem dX12_init_51 : decode cX12_init 51 = .ok (.aload_n 0, 1) := by decide +kernel
theorem dX12_init_52 : decode cX12_init 52 = .ok (.sipush 470, 3) := by decide +kernel
theorem dX12_init_55 : decode cX12_init 55 = .ok (.newarray .int, 2) := by decide +kernel
theorem dX12_init_57 : decode cX12_init 57 = .ok (.putfield 32, 3) := by decide +kernel
theorem dX12_init_60 : decode cX12_init 60 = .ok (.aload_n 0, 1) := by decide +kernel
theorem dX12_init_61 : decode cX12_init 61 = .ok (.bipush 94, 2) := by decide +kernel
theorem dX12_init_63 : decode cX12_init 63 = .ok (.newarray .int, 2) := by decide +kernel
theorem dX12_init_65 : decode cX12_init 65 = .ok (.putfield 35, 3) := by decide +kernel
theorem dX12_init_68 : decode cX12_init 68 = .ok (.aload_n 0, 1) := by decide +kernel
theorem dX12_init_69 : decode cX12_init 69 = .ok (.iconst 2, 1) := by decide +kernel
theorem dX12_init_70 : decode cX12_init 70 = .ok (.newarray .boolean, 2) := by decide +kernel
theorem dX12_init_72 : decode cX12_init 72 = .ok (.putfield 38, 3) := by decide +kernel
theorem dX12_init_75 : decode cX12_init 75 = .ok (.aload_n 0, 1) := by decide +kernel
theorem dX12_init_76 : decode cX12_init 76 = .ok (.bipush 18, 2) := by decide +kernel
theorem dX12_init_78 : decode cX12_init 78 = .ok (.newarray .int, 2) := by decide +kernel
theorem dX12_init_80 : decode cX12_init 80 = .ok (.putfield 42, 3) := by decide +kernel
theorem dX12_init_83 : decode cX12_init 83 = .ok (.aload_n 0, 1) := by decide +kernel
theorem dX12_init_84 : decode cX12_init 84 = .ok (.bipush 100, 2) := by decide +kernel
theorem dX12_init_86 : decode cX12_init 86 = .ok (.newarray .int, 2) := by decide +kernel
theorem dX12_init_88 : decode cX12_init 88 = .ok (.putfield 45, 3) := by decide +kernel
theorem dX12_init_91 : decode cX12_init 91 = .ok (.aload_n 0, 1) := by decide +kernel
theorem dX12_init_92 : decode cX12_init 92 = .ok (.bipush 6, 2) := by decide +kernel
theorem dX12_init_94 : decode cX12_init 94 = .ok (.newarray .int, 2) := by decide +kernel
theorem dX12_init_96 : decode cX12_init 96 = .ok (.putfield 48, 3) := by decide +kernel
theorem dX12_init_99 : decode cX12_init 99 = .ok (.aload_n 0, 1) := by decide +kernel
theorem dX12_init_100 : decode cX12_init 100 = .ok (.bipush 6, 2) := by decide +kernel
theorem dX12_init_102 : decode cX12_init 102 = .ok (.newarray .int, 2) := by decide +kernel
theorem dX12_init_104 : decode cX12_init 104 = .ok (.putfield 51, 3) := by decide +kernel
theorem dX12_init_107 : decode cX12_init 107 = .ok (.return_, 1) := by decide +kernel
theorem dX12_in_0 : decode cX12_in 0 = .ok (.lload_n 0, 1) := by decide +kernel
theorem dX12_in_1 : decode cX12_in 1 = .ok (.lload_n 2, 1) := by decide +kernel
theorem dX12_in_2 : decode cX12_in 2 = .ok (.lcmp, 1) := by decide +kernel
theorem dX12_in_3 : decode cX12_in 3 = .ok (.ifCond .lt 14, 3) := by decide +kernel
theorem dX12_in_6 : decode cX12_in 6 = .ok (.lload_n 0, 1) := by decide +kernel
theorem dX12_in_7 : decode cX12_in 7 = .ok (.lload 4, 2) := by decide +kernel
theorem dX12_in_9 : decode cX12_in 9 = .ok (.lcmp, 1) := by decide +kernel
theorem dX12_in_10 : decode cX12_in 10 = .ok (.ifCond .gt 7, 3) := by decide +kernel
theorem dX12_in_13 : decode cX12_in 13 = .ok (.iconst 1, 1) := by decide +kernel
theorem dX12_in_14 : decode cX12_in 14 = .ok (.goto 4, 3) := by decide +kernel
theorem dX12_in_17 : decode cX12_in 17 = .ok (.iconst 0, 1) := by decide +kernel
theorem dX12_in_18 : decode cX12_in 18 = .ok (.ireturn, 1) := by decide +kernel
theorem dX12_has_0 : decode cX12_has 0 = .ok (.iload_n 0, 1) := by decide +kernel
theorem dX12_has_1 : decode cX12_has 1 = .ok (.iload_n 1, 1) := by decide +kernel
theorem dX12_has_2 : decode cX12_has 2 = .ok (.ishr, 1) := by decide +kernel
theorem dX12_has_3 : decode cX12_has 3 = .ok (.iconst 1, 1) := by decide +kernel
theorem dX12_has_4 : decode cX12_has 4 = .ok (.iand, 1) := by decide +kernel
theorem dX12_has_5 : decode cX12_has 5 = .ok (.iconst 1, 1) := by decide +kernel
theorem dX12_has_6 : decode cX12_has 6 = .ok (.if_icmp .ne 7, 3) := by decide +kernel
theorem dX12_has_9 : decode cX12_has 9 = .ok (.iconst 1, 1) := by decide +kernel
theorem dX12_has_10 : decode cX12_has 10 = .ok (.goto 4, 3) := by decide +kernel
theorem dX12_has_13 : decode cX12_has 13 = .ok (.iconst 0, 1) := by decide +kernel
theorem dX12_has_14 : decode cX12_has 14 = .ok (.ireturn, 1) := by decide +kernel
theorem dX12_bits_0 : decode cX12_bits 0 = .ok (.iconst 0, 1) := by decide +kernel
theorem dX12_bits_1 : decode cX12_bits 1 = .ok (.istore_n 1, 1) := by decide +kernel
theorem dX12_bits_2 : decode cX12_bits 2 = .ok (.iload_n 0, 1) := by decide +kernel
theorem dX12_bits_3 : decode cX12_bits 3 = .ok (.istore_n 2, 1) := by decide +kernel
theorem dX12_bits_4 : decode cX12_bits 4 = .ok (.iload_n 2, 1) := by decide +kernel
theorem dX12_bits_5 : decode cX12_bits 5 = .ok (.ifCond .eq 15, 3) := by decide +kernel
theorem dX12_bits_8 : decode cX12_bits 8 = .ok (.iinc 1 1, 3) := by decide +kernel
theorem dX12_bits_11 : decode cX12_bits 11 = .ok (.iload_n 2, 1) := by decide +kernel
theorem dX12_bits_12 : decode cX12_bits 12 = .ok (.iload_n 2, 1) := by decide +kernel
theorem dX12_bits_13 : decode cX12_bits 13 = .ok (.iconst 1, 1) := by decide +kernel
theorem dX12_bits_14 : decode cX12_bits 14 = .ok (.isub, 1) := by decide +kernel
theorem dX12_bits_15 : decode cX12_bits 15 = .ok (.iand, 1) := by decide +kernel
theorem dX12_bits_16 : decode cX12_bits 16 = .ok (.istore_n 2, 1) := by decide +kernel
theorem dX12_bits_17 : decode cX12_bits 17 = .ok (.goto (-13), 3) := by decide +kernel
theorem dX12_bits_20 : decode cX12_bits 20 = .ok (.iload_n 1, 1) := by decide +kernel
theorem dX12_bits_21 : decode cX12_bits 21 = .ok (.ireturn, 1) := by decide +kernel
theorem dX12_copies_0 : decode cX12_copies 0 = .ok (.iconst 0, 1) := by decide +kernel
theorem dX12_copies_1 : decode cX12_copies 1 = .ok (.istore 5, 2) := by decide +kernel
theorem dX12_copies_3 : decode cX12_copies 3 = .ok (.iload 5, 2) := by decide +kernel
theorem dX12_copies_5 : decode cX12_copies 5 = .ok (.iload 4, 2) := by decide +kernel
theorem dX12_copies_7 : decode cX12_copies 7 = .ok (.if_icmp .ge 21, 3) := by decide +kernel
theorem dX12_copies_10 : decode cX12_copies 10 = .ok (.aload_n 2, 1) := by decide +kernel
theorem dX12_copies_11 : decode cX12_copies 11 = .ok (.iload_n 3, 1) := by decide +kernel
theorem dX12_copies_12 : decode cX12_copies 12 = .ok (.iload 5, 2) := by decide +kernel
theorem dX12_copies_14 : decode cX12_copies 14 = .ok (.iadd, 1) := by decide +kernel
theorem dX12_copies_15 : decode cX12_copies 15 = .ok (.aload_n 0, 1) := by decide +kernel
theorem dX12_copies_16 : decode cX12_copies 16 = .ok (.iload_n 1, 1) := by decide +kernel
theorem dX12_copies_17 : decode cX12_copies 17 = .ok (.iload 5, 2) := by decide +kernel
theorem dX12_copies_19 : decode cX12_copies 19 = .ok (.iadd, 1) := by decide +kernel
theorem dX12_copies_20 : decode cX12_copies 20 = .ok (.iaload, 1) := by decide +kernel
theorem dX12_copies_21 : decode cX12_copies 21 = .ok (.iastore, 1) := by decide +kernel
theorem dX12_copies_22 : decode cX12_copies 22 = .ok (.iinc 5 1, 3) := by decide +kernel
theorem dX12_copies_25 : decode cX12_copies 25 = .ok (.goto (-22), 3) := by decide +kernel
theorem dX12_copies_28 : decode cX12_copies 28 = .ok (.return_, 1) := by decide +kernel
theorem dX12_type_0 : decode cX12_type 0 = .ok (.iload_n 1, 1) := by decide +kernel
theorem dX12_type_1 : decode cX12_type 1 = .ok (.i2l, 1) := by decide +kernel
theorem dX12_type_2 : decode cX12_type 2 = .ok (.lconst 0, 1) := by decide +kernel
theorem dX12_type_3 : decode cX12_type 3 = .ok (.ldc2_w 54, 3) := by decide +kernel
theorem dX12_type_6 : decode cX12_type 6 = .ok (.invokestatic 56, 3) := by decide +kernel
theorem dX12_type_9 : decode cX12_type 9 = .ok (.ifCond .ne 5, 3) := by decide +kernel
theorem dX12_type_12 : decode cX12_type 12 = .ok (.iconst (-1), 1) := by decide +kernel
theorem dX12_type_13 : decode cX12_type 13 = .ok (.ireturn, 1) := by decide +kernel
theorem dX12_type_14 : decode cX12_type 14 = .ok (.aload_n 0, 1) := by decide +kernel
theorem dX12_type_15 : decode cX12_type 15 = .ok (.getfield 60, 3) := by decide +kernel
theorem dX12_type_18 : decode cX12_type 18 = .ok (.bipush 100, 2) := by decide +kernel
theorem dX12_type_20 : decode cX12_type 20 = .ok (.if_icmp .ne 6, 3) := by decide +kernel
theorem dX12_type_23 : decode cX12_type 23 = .ok (.bipush (-3), 2) := by decide +kernel
theorem dX12_type_25 : decode cX12_type 25 = .ok (.ireturn, 1) := by decide +kernel
theorem dX12_type_26 : decode cX12_type 26 = .ok (.aload_n 0, 1) := by decide +kernel
theorem dX12_type_27 : decode cX12_type 27 = .ok (.getfield 45, 3) := by decide +kernel
theorem dX12_type_30 : decode cX12_type 30 = .ok (.aload_n 0, 1) := by decide +kernel
theorem dX12_type_31 : decode cX12_type 31 = .ok (.getfield 60, 3) := by decide +kernel
theorem dX12_type_34 : decode cX12_type 34 = .ok (.iload_n 1, 1) := by decide +kernel
theorem dX12_type_35 : decode cX12_type 35 = .ok (.iastore, 1) := by decide +kernel
theorem dX12_type_36 : decode cX12_type 36 = .ok (.aload_n 0, 1) := by decide +kernel
theorem dX12_type_37 : decode cX12_type 37 = .ok (.dup, 1) := by decide +kernel
theorem dX12_type_38 : decode cX12_type 38 = .ok (.getfield 60, 3) := by decide +kernel
theorem dX12_type_41 : decode cX12_type 41 = .ok (.iconst 1, 1) := by decide +kernel
theorem dX12_type_42 : decode cX12_type 42 = .ok (.iadd, 1) := by decide +kernel
theorem dX12_type_43 : decode cX12_type 43 = .ok (.putfield 60, 3) := by decide +kernel
theorem dX12_type_46 : decode cX12_type 46 = .ok (.aload_n 0, 1) := by decide +kernel
theorem dX12_type_47 : decode cX12_type 47 = .ok (.getfield 60, 3) := by decide +kernel
theorem dX12_type_50 : decode cX12_type 50 = .ok (.ireturn, 1) := by decide +kernel
theorem dX12_clear_0 : decode cX12_clear 0 = .ok (.aload_n 0, 1) := by decide +kernel
theorem dX12_clear_1 : decode cX12_clear 1 = .ok (.getfield 60, 3) := by decide +kernel
theorem dX12_clear_4 : decode cX12_clear 4 = .ok (.istore_n 1, 1) := by decide +kernel
theorem dX12_clear_5 : decode cX12_clear 5 = .ok (.aload_n 0, 1) := by decide +kernel
theorem dX12_clear_6 : decode cX12_clear 6 = .ok (.iconst 0, 1) := by decide +kernel
theorem dX12_clear_7 : decode cX12_clear 7 = .ok (.putfield 60, 3) := by decide +kernel
theorem dX12_clear_10 : decode cX12_clear 10 = .ok (.iload_n 1, 1) := by decide +kernel
theorem dX12_clear_11 : decode cX12_clear 11 = .ok (.ireturn, 1) := by decide +kernel
theorem dX12_here_0 : decode cX12_here 0 = .ok (.aload_n 0, 1) := by decide +kernel
theorem dX12_here_1 : decode cX12_here 1 = .ok (.getfield 63, 3) := by decide +kernel
theorem dX12_here_4 : decode cX12_here 4 = .ok (.aload_n 0, 1) := by decide +kernel
theorem dX12_here_5 : decode cX12_here 5 = .ok (.getfield 60, 3) := by decide +kernel
theorem dX12_here_8 : decode cX12_here 8 = .ok (.if_icmp .ge 15, 3) := by decide +kernel
theorem dX12_here_11 : decode cX12_here 11 = .ok (.aload_n 0, 1) := by decide +kernel
theorem dX12_here_12 : decode cX12_here 12 = .ok (.getfield 45, 3) := by decide +kernel
theorem dX12_here_15 : decode cX12_here 15 = .ok (.aload_n 0, 1) := by decide +kernel
theorem dX12_here_16 : decode cX12_here 16 = .ok (.getfield 63, 3) := by decide +kernel
theorem dX12_here_19 : decode cX12_here 19 = .ok (.iaload, 1) := by decide +kernel
theorem dX12_here_20 : decode cX12_here 20 = .ok (.goto 4, 3) := by decide +kernel
theorem dX12_here_23 : decode cX12_here 23 = .ok (.iconst (-1), 1) := by decide +kernel
theorem dX12_here_24 : decode cX12_here 24 = .ok (.ireturn, 1) := by decide +kernel
theorem dX12_isFigure_0 : decode cX12_isFigure 0 = .ok (.aload_n 0, 1) := by decide +kernel
theorem dX12_isFigure_1 : decode cX12_isFigure 1 = .ok (.invokevirtual 66, 3) := by decide +kernel
theorem dX12_isFigure_4 : decode cX12_isFigure 4 = .ok (.i2l, 1) := by decide +kernel
theorem dX12_isFigure_5 : decode cX12_isFigure 5 = .ok (.ldc2_w 70, 3) := by decide +kernel
theorem dX12_isFigure_8 : decode cX12_isFigure 8 = .ok (.ldc2_w 72, 3) := by decide +kernel
theorem dX12_isFigure_11 : decode cX12_isFigure 11 = .ok (.invokestatic 56, 3) := by decide +kernel
theorem dX12_isFigure_14 : decode cX12_isFigure 14 = .ok (.ireturn, 1) := by decide +kernel
theorem dX12_nextToken_0 : decode cX12_nextToken 0 = .ok (.aload_n 0, 1) := by decide +kernel
theorem dX12_nextToken_1 : decode cX12_nextToken 1 = .ok (.invokevirtual 66, 3) := by decide +kernel
theorem dX12_nextToken_4 : decode cX12_nextToken 4 = .ok (.bipush 32, 2) := by decide +kernel
theorem dX12_nextToken_6 : decode cX12_nextToken 6 = .ok (.if_icmp .ne 16, 3) := by decide +kernel
theorem dX12_nextToken_9 : decode cX12_nextToken 9 = .ok (.aload_n 0, 1) := by decide +kernel
theorem dX12_nextToken_10 : decode cX12_nextToken 10 = .ok (.dup, 1) := by decide +kernel
theorem dX12_nextToken_11 : decode cX12_nextToken 11 = .ok (.getfield 63, 3) := by decide +kernel
theorem dX12_nextToken_14 : decode cX12_nextToken 14 = .ok (.iconst 1, 1) := by decide +kernel
theorem dX12_nextToken_15 : decode cX12_nextToken 15 = .ok (.iadd, 1) := by decide +kernel
theorem dX12_nextToken_16 : decode cX12_nextToken 16 = .ok (.putfield 63, 3) := by decide +kernel
theorem dX12_nextToken_19 : decode cX12_nextToken 19 = .ok (.goto (-19), 3) := by decide +kernel
theorem dX12_nextToken_22 : decode cX12_nextToken 22 = .ok (.aload_n 0, 1) := by decide +kernel
theorem dX12_nextToken_23 : decode cX12_nextToken 23 = .ok (.aload_n 0, 1) := by decide +kernel
theorem dX12_nextToken_24 : decode cX12_nextToken 24 = .ok (.getfield 63, 3) := by decide +kernel
theorem dX12_nextToken_27 : decode cX12_nextToken 27 = .ok (.putfield 74, 3) := by decide +kernel
theorem dX12_nextToken_30 : decode cX12_nextToken 30 = .ok (.aload_n 0, 1) := by decide +kernel
theorem dX12_nextToken_31 : decode cX12_nextToken 31 = .ok (.iconst 0, 1) := by decide +kernel
theorem dX12_nextToken_32 : decode cX12_nextToken 32 = .ok (.putfield 77, 3) := by decide +kernel
theorem dX12_nextToken_35 : decode cX12_nextToken 35 = .ok (.aload_n 0, 1) := by decide +kernel
theorem dX12_nextToken_36 : decode cX12_nextToken 36 = .ok (.getfield 63, 3) := by decide +kernel
theorem dX12_nextToken_39 : decode cX12_nextToken 39 = .ok (.aload_n 0, 1) := by decide +kernel
theorem dX12_nextToken_40 : decode cX12_nextToken 40 = .ok (.getfield 60, 3) := by decide +kernel
theorem dX12_nextToken_43 : decode cX12_nextToken 43 = .ok (.if_icmp .ne 11, 3) := by decide +kernel
theorem dX12_nextToken_46 : decode cX12_nextToken 46 = .ok (.aload_n 0, 1) := by decide +kernel
theorem dX12_nextToken_47 : decode cX12_nextToken 47 = .ok (.iconst 0, 1) := by decide +kernel
theorem dX12_nextToken_48 : decode cX12_nextToken 48 = .ok (.putfield 80, 3) := by decide +kernel
theorem dX12_nextToken_51 : decode cX12_nextToken 51 = .ok (.goto 84, 3) := by decide +kernel
theorem dX12_nextToken_54 : decode cX12_nextToken 54 = .ok (.aload_n 0, 1) := by decide +kernel
theorem dX12_nextToken_55 : decode cX12_nextToken 55 = .ok (.invokevirtual 83, 3) := by decide +kernel
theorem dX12_nextToken_58 : decode cX12_nextToken 58 = .ok (.ifCond .eq 10, 3) := by decide +kernel
theorem dX12_nextToken_61 : decode cX12_nextToken 61 = .ok (.aload_n 0, 1) := by decide +kernel
theorem dX12_nextToken_62 : decode cX12_nextToken 62 = .ok (.invokevirtual 87, 3) := by decide +kernel
theorem dX12_nextToken_65 : decode cX12_nextToken 65 = .ok (.goto 70, 3) := by decide +kernel
end
section
theorem dX12_nextToken_68 : decode cX12_nextToken 68 = .ok (.aload_n 0, 1) := by decide +kernel
theorem dX12_nextToken_69 : decode cX12_nextToken 69 = .ok (.aload_n 0, 1) := by decide +kernel
theorem dX12_nextToken_70 : decode cX12_nextToken 70 = .ok (.invokevirtual 66, 3) := by decide +kernel
theorem dX12_nextToken_73 : decode cX12_nextToken 73 = .ok (.putfield 77, 3) := by decide +kernel
theorem dX12_nextToken_76 : decode cX12_nextToken 76 = .ok (.aload_n 0, 1) := by decide +kernel
theorem dX12_nextToken_77 : decode cX12_nextToken 77 = .ok (.aload_n 0, 1) := by decide +kernel
theorem dX12_nextToken_78 : decode cX12_nextToken 78 = .ok (.getfield 77, 3) := by decide +kernel
theorem dX12_nextToken_81 : decode cX12_nextToken 81 = .ok (.bipush 114, 2) := by decide +kernel
theorem dX12_nextToken_83 : decode cX12_nextToken 83 = .ok (.if_icmp .eq 21, 3) := by decide +kernel
theorem dX12_nextToken_86 : decode cX12_nextToken 86 = .ok (.aload_n 0, 1) := by decide +kernel
theorem dX12_nextToken_87 : decode cX12_nextToken 87 = .ok (.getfield 77, 3) := by decide +kernel
theorem dX12_nextToken_90 : decode cX12_nextToken 90 = .ok (.bipush 104, 2) := by decide +kernel
theorem dX12_nextToken_92 : decode cX12_nextToken 92 = .ok (.if_icmp .eq 12, 3) := by decide +kernel
theorem dX12_nextToken_95 : decode cX12_nextToken 95 = .ok (.aload_n 0, 1) := by decide +kernel
theorem dX12_nextToken_96 : decode cX12_nextToken 96 = .ok (.getfield 77, 3) := by decide +kernel
theorem dX12_nextToken_99 : decode cX12_nextToken 99 = .ok (.bipush 115, 2) := by decide +kernel
theorem dX12_nextToken_101 : decode cX12_nextToken 101 = .ok (.if_icmp .ne 7, 3) := by decide +kernel
theorem dX12_nextToken_104 : decode cX12_nextToken 104 = .ok (.iconst 1, 1) := by decide +kernel
theorem dX12_nextToken_105 : decode cX12_nextToken 105 = .ok (.goto 17, 3) := by decide +kernel
theorem dX12_nextToken_108 : decode cX12_nextToken 108 = .ok (.aload_n 0, 1) := by decide +kernel
theorem dX12_nextToken_109 : decode cX12_nextToken 109 = .ok (.getfield 77, 3) := by decide +kernel
theorem dX12_nextToken_112 : decode cX12_nextToken 112 = .ok (.bipush 59, 2) := by decide +kernel
theorem dX12_nextToken_114 : decode cX12_nextToken 114 = .ok (.if_icmp .ne 7, 3) := by decide +kernel
theorem dX12_nextToken_117 : decode cX12_nextToken 117 = .ok (.iconst 3, 1) := by decide +kernel
theorem dX12_nextToken_118 : decode cX12_nextToken 118 = .ok (.goto 4, 3) := by decide +kernel
theorem dX12_nextToken_121 : decode cX12_nextToken 121 = .ok (.iconst 4, 1) := by decide +kernel
theorem dX12_nextToken_122 : decode cX12_nextToken 122 = .ok (.putfield 80, 3) := by decide +kernel
theorem dX12_nextToken_125 : decode cX12_nextToken 125 = .ok (.aload_n 0, 1) := by decide +kernel
theorem dX12_nextToken_126 : decode cX12_nextToken 126 = .ok (.dup, 1) := by decide +kernel
theorem dX12_nextToken_127 : decode cX12_nextToken 127 = .ok (.getfield 63, 3) := by decide +kernel
theorem dX12_nextToken_130 : decode cX12_nextToken 130 = .ok (.iconst 1, 1) := by decide +kernel
theorem dX12_nextToken_131 : decode cX12_nextToken 131 = .ok (.iadd, 1) := by decide +kernel
theorem dX12_nextToken_132 : decode cX12_nextToken 132 = .ok (.putfield 63, 3) := by decide +kernel
theorem dX12_nextToken_135 : decode cX12_nextToken 135 = .ok (.return_, 1) := by decide +kernel
theorem dX12_readsFigures_0 : decode cX12_readsFigures 0 = .ok (.aload_n 0, 1) := by decide +kernel
theorem dX12_readsFigures_1 : decode cX12_readsFigures 1 = .ok (.invokevirtual 66, 3) := by decide +kernel
theorem dX12_readsFigures_4 : decode cX12_readsFigures 4 = .ok (.bipush 48, 2) := by decide +kernel
theorem dX12_readsFigures_6 : decode cX12_readsFigures 6 = .ok (.if_icmp .ne 7, 3) := by decide +kernel
theorem dX12_readsFigures_9 : decode cX12_readsFigures 9 = .ok (.iconst 1, 1) := by decide +kernel
theorem dX12_readsFigures_10 : decode cX12_readsFigures 10 = .ok (.goto 4, 3) := by decide +kernel
theorem dX12_readsFigures_13 : decode cX12_readsFigures 13 = .ok (.iconst 0, 1) := by decide +kernel
theorem dX12_readsFigures_14 : decode cX12_readsFigures 14 = .ok (.istore_n 1, 1) := by decide +kernel
theorem dX12_readsFigures_15 : decode cX12_readsFigures 15 = .ok (.aload_n 0, 1) := by decide +kernel
theorem dX12_readsFigures_16 : decode cX12_readsFigures 16 = .ok (.invokevirtual 83, 3) := by decide +kernel
theorem dX12_readsFigures_19 : decode cX12_readsFigures 19 = .ok (.ifCond .eq 51, 3) := by decide +kernel
theorem dX12_readsFigures_22 : decode cX12_readsFigures 22 = .ok (.aload_n 0, 1) := by decide +kernel
theorem dX12_readsFigures_23 : decode cX12_readsFigures 23 = .ok (.aload_n 0, 1) := by decide +kernel
theorem dX12_readsFigures_24 : decode cX12_readsFigures 24 = .ok (.getfield 77, 3) := by decide +kernel
theorem dX12_readsFigures_27 : decode cX12_readsFigures 27 = .ok (.bipush 99, 2) := by decide +kernel
theorem dX12_readsFigures_29 : decode cX12_readsFigures 29 = .ok (.if_icmp .le 10, 3) := by decide +kernel
theorem dX12_readsFigures_32 : decode cX12_readsFigures 32 = .ok (.aload_n 0, 1) := by decide +kernel
theorem dX12_readsFigures_33 : decode cX12_readsFigures 33 = .ok (.getfield 77, 3) := by decide +kernel
theorem dX12_readsFigures_36 : decode cX12_readsFigures 36 = .ok (.goto 18, 3) := by decide +kernel
theorem dX12_readsFigures_39 : decode cX12_readsFigures 39 = .ok (.bipush 10, 2) := by decide +kernel
theorem dX12_readsFigures_41 : decode cX12_readsFigures 41 = .ok (.aload_n 0, 1) := by decide +kernel
theorem dX12_readsFigures_42 : decode cX12_readsFigures 42 = .ok (.getfield 77, 3) := by decide +kernel
theorem dX12_readsFigures_45 : decode cX12_readsFigures 45 = .ok (.imul, 1) := by decide +kernel
theorem dX12_readsFigures_46 : decode cX12_readsFigures 46 = .ok (.aload_n 0, 1) := by decide +kernel
theorem dX12_readsFigures_47 : decode cX12_readsFigures 47 = .ok (.invokevirtual 66, 3) := by decide +kernel
theorem dX12_readsFigures_50 : decode cX12_readsFigures 50 = .ok (.iadd, 1) := by decide +kernel
theorem dX12_readsFigures_51 : decode cX12_readsFigures 51 = .ok (.bipush 48, 2) := by decide +kernel
theorem dX12_readsFigures_53 : decode cX12_readsFigures 53 = .ok (.isub, 1) := by decide +kernel
theorem dX12_readsFigures_54 : decode cX12_readsFigures 54 = .ok (.putfield 77, 3) := by decide +kernel
theorem dX12_readsFigures_57 : decode cX12_readsFigures 57 = .ok (.aload_n 0, 1) := by decide +kernel
theorem dX12_readsFigures_58 : decode cX12_readsFigures 58 = .ok (.dup, 1) := by decide +kernel
theorem dX12_readsFigures_59 : decode cX12_readsFigures 59 = .ok (.getfield 63, 3) := by decide +kernel
theorem dX12_readsFigures_62 : decode cX12_readsFigures 62 = .ok (.iconst 1, 1) := by decide +kernel
theorem dX12_readsFigures_63 : decode cX12_readsFigures 63 = .ok (.iadd, 1) := by decide +kernel
theorem dX12_readsFigures_64 : decode cX12_readsFigures 64 = .ok (.putfield 63, 3) := by decide +kernel
theorem dX12_readsFigures_67 : decode cX12_readsFigures 67 = .ok (.goto (-52), 3) := by decide +kernel
theorem dX12_readsFigures_70 : decode cX12_readsFigures 70 = .ok (.aload_n 0, 1) := by decide +kernel
theorem dX12_readsFigures_71 : decode cX12_readsFigures 71 = .ok (.aload_n 0, 1) := by decide +kernel
theorem dX12_readsFigures_72 : decode cX12_readsFigures 72 = .ok (.getfield 77, 3) := by decide +kernel
theorem dX12_readsFigures_75 : decode cX12_readsFigures 75 = .ok (.bipush 99, 2) := by decide +kernel
theorem dX12_readsFigures_77 : decode cX12_readsFigures 77 = .ok (.if_icmp .gt 20, 3) := by decide +kernel
theorem dX12_readsFigures_80 : decode cX12_readsFigures 80 = .ok (.iload_n 1, 1) := by decide +kernel
theorem dX12_readsFigures_81 : decode cX12_readsFigures 81 = .ok (.ifCond .eq 20, 3) := by decide +kernel
theorem dX12_readsFigures_84 : decode cX12_readsFigures 84 = .ok (.aload_n 0, 1) := by decide +kernel
theorem dX12_readsFigures_85 : decode cX12_readsFigures 85 = .ok (.getfield 63, 3) := by decide +kernel
theorem dX12_readsFigures_88 : decode cX12_readsFigures 88 = .ok (.aload_n 0, 1) := by decide +kernel
theorem dX12_readsFigures_89 : decode cX12_readsFigures 89 = .ok (.getfield 74, 3) := by decide +kernel
theorem dX12_readsFigures_92 : decode cX12_readsFigures 92 = .ok (.isub, 1) := by decide +kernel
theorem dX12_readsFigures_93 : decode cX12_readsFigures 93 = .ok (.iconst 1, 1) := by decide +kernel
theorem dX12_readsFigures_94 : decode cX12_readsFigures 94 = .ok (.if_icmp .le 7, 3) := by decide +kernel
theorem dX12_readsFigures_97 : decode cX12_readsFigures 97 = .ok (.iconst 4, 1) := by decide +kernel
theorem dX12_readsFigures_98 : decode cX12_readsFigures 98 = .ok (.goto 4, 3) := by decide +kernel
theorem dX12_readsFigures_101 : decode cX12_readsFigures 101 = .ok (.iconst 2, 1) := by decide +kernel
theorem dX12_readsFigures_102 : decode cX12_readsFigures 102 = .ok (.putfield 80, 3) := by decide +kernel
theorem dX12_readsFigures_105 : decode cX12_readsFigures 105 = .ok (.return_, 1) := by decide +kernel
theorem dX12_number_0 : decode cX12_number 0 = .ok (.aload_n 0, 1) := by decide +kernel
theorem dX12_number_1 : decode cX12_number 1 = .ok (.invokevirtual 90, 3) := by decide +kernel
theorem dX12_number_4 : decode cX12_number 4 = .ok (.aload_n 0, 1) := by decide +kernel
theorem dX12_number_5 : decode cX12_number 5 = .ok (.getfield 80, 3) := by decide +kernel
theorem dX12_number_8 : decode cX12_number 8 = .ok (.iconst 2, 1) := by decide +kernel
theorem dX12_number_9 : decode cX12_number 9 = .ok (.if_icmp .ne 22, 3) := by decide +kernel
theorem dX12_number_12 : decode cX12_number 12 = .ok (.aload_n 0, 1) := by decide +kernel
theorem dX12_number_13 : decode cX12_number 13 = .ok (.getfield 77, 3) := by decide +kernel
theorem dX12_number_16 : decode cX12_number 16 = .ok (.i2l, 1) := by decide +kernel
theorem dX12_number_17 : decode cX12_number 17 = .ok (.iload_n 1, 1) := by decide +kernel
theorem dX12_number_18 : decode cX12_number 18 = .ok (.i2l, 1) := by decide +kernel
theorem dX12_number_19 : decode cX12_number 19 = .ok (.iload_n 2, 1) := by decide +kernel
theorem dX12_number_20 : decode cX12_number 20 = .ok (.i2l, 1) := by decide +kernel
theorem dX12_number_21 : decode cX12_number 21 = .ok (.invokestatic 56, 3) := by decide +kernel
theorem dX12_number_24 : decode cX12_number 24 = .ok (.ifCond .eq 7, 3) := by decide +kernel
theorem dX12_number_27 : decode cX12_number 27 = .ok (.iconst 1, 1) := by decide +kernel
theorem dX12_number_28 : decode cX12_number 28 = .ok (.goto 4, 3) := by decide +kernel
theorem dX12_number_31 : decode cX12_number 31 = .ok (.iconst 0, 1) := by decide +kernel
theorem dX12_number_32 : decode cX12_number 32 = .ok (.ireturn, 1) := by decide +kernel
theorem dX12_isRooms_0 : decode cX12_isRooms 0 = .ok (.aload_n 0, 1) := by decide +kernel
theorem dX12_isRooms_1 : decode cX12_isRooms 1 = .ok (.iconst 3, 1) := by decide +kernel
theorem dX12_isRooms_2 : decode cX12_isRooms 2 = .ok (.bipush 6, 2) := by decide +kernel
theorem dX12_isRooms_4 : decode cX12_isRooms 4 = .ok (.invokevirtual 93, 3) := by decide +kernel
theorem dX12_isRooms_7 : decode cX12_isRooms 7 = .ok (.ifCond .ne 5, 3) := by decide +kernel
theorem dX12_isRooms_10 : decode cX12_isRooms 10 = .ok (.iconst 0, 1) := by decide +kernel
theorem dX12_isRooms_11 : decode cX12_isRooms 11 = .ok (.ireturn, 1) := by decide +kernel
theorem dX12_isRooms_12 : decode cX12_isRooms 12 = .ok (.aload_n 0, 1) := by decide +kernel
theorem dX12_isRooms_13 : decode cX12_isRooms 13 = .ok (.aload_n 0, 1) := by decide +kernel
theorem dX12_isRooms_14 : decode cX12_isRooms 14 = .ok (.getfield 77, 3) := by decide +kernel
theorem dX12_isRooms_17 : decode cX12_isRooms 17 = .ok (.putfield 97, 3) := by decide +kernel
theorem dX12_isRooms_20 : decode cX12_isRooms 20 = .ok (.aload_n 0, 1) := by decide +kernel
theorem dX12_isRooms_21 : decode cX12_isRooms 21 = .ok (.iconst 1, 1) := by decide +kernel
theorem dX12_isRooms_22 : decode cX12_isRooms 22 = .ok (.iconst 5, 1) := by decide +kernel
theorem dX12_isRooms_23 : decode cX12_isRooms 23 = .ok (.invokevirtual 93, 3) := by decide +kernel
theorem dX12_isRooms_26 : decode cX12_isRooms 26 = .ok (.ifCond .ne 5, 3) := by decide +kernel
theorem dX12_isRooms_29 : decode cX12_isRooms 29 = .ok (.iconst 0, 1) := by decide +kernel
theorem dX12_isRooms_30 : decode cX12_isRooms 30 = .ok (.ireturn, 1) := by decide +kernel
theorem dX12_isRooms_31 : decode cX12_isRooms 31 = .ok (.aload_n 0, 1) := by decide +kernel
theorem dX12_isRooms_32 : decode cX12_isRooms 32 = .ok (.aload_n 0, 1) := by decide +kernel
theorem dX12_isRooms_33 : decode cX12_isRooms 33 = .ok (.getfield 77, 3) := by decide +kernel
theorem dX12_isRooms_36 : decode cX12_isRooms 36 = .ok (.putfield 100, 3) := by decide +kernel
theorem dX12_isRooms_39 : decode cX12_isRooms 39 = .ok (.iconst 1, 1) := by decide +kernel
theorem dX12_isRooms_40 : decode cX12_isRooms 40 = .ok (.ireturn, 1) := by decide +kernel
theorem dX12_isHard_0 : decode cX12_isHard 0 = .ok (.aload_n 0, 1) := by decide +kernel
theorem dX12_isHard_1 : decode cX12_isHard 1 = .ok (.getfield 103, 3) := by decide +kernel
theorem dX12_isHard_4 : decode cX12_isHard 4 = .ok (.bipush (-9), 2) := by decide +kernel
theorem dX12_isHard_6 : decode cX12_isHard 6 = .ok (.if_icmp .ne 13, 3) := by decide +kernel
theorem dX12_isHard_9 : decode cX12_isHard 9 = .ok (.aload_n 0, 1) := by decide +kernel
theorem dX12_isHard_10 : decode cX12_isHard 10 = .ok (.iconst 0, 1) := by decide +kernel
theorem dX12_isHard_11 : decode cX12_isHard 11 = .ok (.bipush 20, 2) := by decide +kernel
theorem dX12_isHard_13 : decode cX12_isHard 13 = .ok (.invokevirtual 93, 3) := by decide +kernel
theorem dX12_isHard_16 : decode cX12_isHard 16 = .ok (.ifCond .ne 5, 3) := by decide +kernel
theorem dX12_isHard_19 : decode cX12_isHard 19 = .ok (.iconst 0, 1) := by decide +kernel
theorem dX12_isHard_20 : decode cX12_isHard 20 = .ok (.ireturn, 1) := by decide +kernel
theorem dX12_isHard_21 : decode cX12_isHard 21 = .ok (.aload_n 0, 1) := by decide +kernel
theorem dX12_isHard_22 : decode cX12_isHard 22 = .ok (.aload_n 0, 1) := by decide +kernel
theorem dX12_isHard_23 : decode cX12_isHard 23 = .ok (.getfield 77, 3) := by decide +kernel
theorem dX12_isHard_26 : decode cX12_isHard 26 = .ok (.putfield 103, 3) := by decide +kernel
theorem dX12_isHard_29 : decode cX12_isHard 29 = .ok (.iconst 1, 1) := by decide +kernel
theorem dX12_isHard_30 : decode cX12_isHard 30 = .ok (.ireturn, 1) := by decide +kernel
theorem dX12_isSort_0 : decode cX12_isSort 0 = .ok (.aload_n 0, 1) := by decide +kernel
theorem dX12_isSort_1 : decode cX12_isSort 1 = .ok (.getfield 106, 3) := by decide +kernel
theorem dX12_isSort_4 : decode cX12_isSort 4 = .ok (.bipush 6, 2) := by decide +kernel
theorem dX12_isSort_6 : decode cX12_isSort 6 = .ok (.if_icmp .eq 15, 3) := by decide +kernel
theorem dX12_isSort_9 : decode cX12_isSort 9 = .ok (.aload_n 0, 1) := by decide +kernel
theorem dX12_isSort_10 : decode cX12_isSort 10 = .ok (.iconst 1, 1) := by decide +kernel
theorem dX12_isSort_11 : decode cX12_isSort 11 = .ok (.aload_n 0, 1) := by decide +kernel
theorem dX12_isSort_12 : decode cX12_isSort 12 = .ok (.getfield 100, 3) := by decide +kernel
theorem dX12_isSort_15 : decode cX12_isSort 15 = .ok (.invokevirtual 93, 3) := by decide +kernel
theorem dX12_isSort_18 : decode cX12_isSort 18 = .ok (.ifCond .ne 5, 3) := by decide +kernel
theorem dX12_isSort_21 : decode cX12_isSort 21 = .ok (.iconst 0, 1) := by decide +kernel
theorem dX12_isSort_22 : decode cX12_isSort 22 = .ok (.ireturn, 1) := by decide +kernel
theorem dX12_isSort_23 : decode cX12_isSort 23 = .ok (.aload_n 0, 1) := by decide +kernel
theorem dX12_isSort_24 : decode cX12_isSort 24 = .ok (.getfield 48, 3) := by decide +kernel
theorem dX12_isSort_27 : decode cX12_isSort 27 = .ok (.aload_n 0, 1) := by decide +kernel
theorem dX12_isSort_28 : decode cX12_isSort 28 = .ok (.getfield 106, 3) := by decide +kernel
theorem dX12_isSort_31 : decode cX12_isSort 31 = .ok (.aload_n 0, 1) := by decide +kernel
theorem dX12_isSort_32 : decode cX12_isSort 32 = .ok (.getfield 77, 3) := by decide +kernel
theorem dX12_isSort_35 : decode cX12_isSort 35 = .ok (.iastore, 1) := by decide +kernel
theorem dX12_isSort_36 : decode cX12_isSort 36 = .ok (.aload_n 0, 1) := by decide +kernel
theorem dX12_isSort_37 : decode cX12_isSort 37 = .ok (.iconst 0, 1) := by decide +kernel
theorem dX12_isSort_38 : decode cX12_isSort 38 = .ok (.bipush 9, 2) := by decide +kernel
theorem dX12_isSort_40 : decode cX12_isSort 40 = .ok (.invokevirtual 93, 3) := by decide +kernel
theorem dX12_isSort_43 : decode cX12_isSort 43 = .ok (.ifCond .ne 5, 3) := by decide +kernel
theorem dX12_isSort_46 : decode cX12_isSort 46 = .ok (.iconst 0, 1) := by decide +kernel
theorem dX12_isSort_47 : decode cX12_isSort 47 = .ok (.ireturn, 1) := by decide +kernel
theorem dX12_isSort_48 : decode cX12_isSort 48 = .ok (.aload_n 0, 1) := by decide +kernel
theorem dX12_isSort_49 : decode cX12_isSort 49 = .ok (.getfield 51, 3) := by decide +kernel
theorem dX12_isSort_52 : decode cX12_isSort 52 = .ok (.aload_n 0, 1) := by decide +kernel
theorem dX12_isSort_53 : decode cX12_isSort 53 = .ok (.getfield 106, 3) := by decide +kernel
theorem dX12_isSort_56 : decode cX12_isSort 56 = .ok (.aload_n 0, 1) := by decide +kernel
theorem dX12_isSort_57 : decode cX12_isSort 57 = .ok (.getfield 77, 3) := by decide +kernel
theorem dX12_isSort_60 : decode cX12_isSort 60 = .ok (.iastore, 1) := by decide +kernel
theorem dX12_isSort_61 : decode cX12_isSort 61 = .ok (.aload_n 0, 1) := by decide +kernel
theorem dX12_isSort_62 : decode cX12_isSort 62 = .ok (.dup, 1) := by decide +kernel
theorem dX12_isSort_63 : decode cX12_isSort 63 = .ok (.getfield 106, 3) := by decide +kernel
theorem dX12_isSort_66 : decode cX12_isSort 66 = .ok (.iconst 1, 1) := by decide +kernel
theorem dX12_isSort_67 : decode cX12_isSort 67 = .ok (.iadd, 1) := by decide +kernel
theorem dX12_isSort_68 : decode cX12_isSort 68 = .ok (.putfield 106, 3) := by decide +kernel
theorem dX12_isSort_71 : decode cX12_isSort 71 = .ok (.iconst 1, 1) := by decide +kernel
theorem dX12_isSort_72 : decode cX12_isSort 72 = .ok (.ireturn, 1) := by decide +kernel
theorem dX12_isItem_0 : decode cX12_isItem 0 = .ok (.aload_n 0, 1) := by decide +kernel
theorem dX12_isItem_1 : decode cX12_isItem 1 = .ok (.getfield 80, 3) := by decide +kernel
theorem dX12_isItem_4 : decode cX12_isItem 4 = .ok (.iconst 1, 1) := by decide +kernel
theorem dX12_isItem_5 : decode cX12_isItem 5 = .ok (.if_icmp .eq 5, 3) := by decide +kernel
theorem dX12_isItem_8 : decode cX12_isItem 8 = .ok (.iconst 0, 1) := by decide +kernel
theorem dX12_isItem_9 : decode cX12_isItem 9 = .ok (.ireturn, 1) := by decide +kernel
theorem dX12_isItem_10 : decode cX12_isItem 10 = .ok (.aload_n 0, 1) := by decide +kernel
theorem dX12_isItem_11 : decode cX12_isItem 11 = .ok (.getfield 77, 3) := by decide +kernel
theorem dX12_isItem_14 : decode cX12_isItem 14 = .ok (.lookupswitch 48 #[(104, 43), (114, 26)], 26) := by decide +kernel
theorem dX12_isItem_40 : decode cX12_isItem 40 = .ok (.iload_n 1, 1) := by decide +kernel
theorem dX12_isItem_41 : decode cX12_isItem 41 = .ok (.ifCond .ne 14, 3) := by decide +kernel
theorem dX12_isItem_44 : decode cX12_isItem 44 = .ok (.aload_n 0, 1) := by decide +kernel
theorem dX12_isItem_45 : decode cX12_isItem 45 = .ok (.invokevirtual 109, 3) := by decide +kernel
theorem dX12_isItem_48 : decode cX12_isItem 48 = .ok (.ifCond .eq 7, 3) := by decide +kernel
theorem dX12_isItem_51 : decode cX12_isItem 51 = .ok (.iconst 1, 1) := by decide +kernel
theorem dX12_isItem_52 : decode cX12_isItem 52 = .ok (.goto 4, 3) := by decide +kernel
theorem dX12_isItem_55 : decode cX12_isItem 55 = .ok (.iconst 0, 1) := by decide +kernel
theorem dX12_isItem_56 : decode cX12_isItem 56 = .ok (.ireturn, 1) := by decide +kernel
theorem dX12_isItem_57 : decode cX12_isItem 57 = .ok (.aload_n 0, 1) := by decide +kernel
theorem dX12_isItem_58 : decode cX12_isItem 58 = .ok (.invokevirtual 112, 3) := by decide +kernel
theorem dX12_isItem_61 : decode cX12_isItem 61 = .ok (.ireturn, 1) := by decide +kernel
theorem dX12_isItem_62 : decode cX12_isItem 62 = .ok (.aload_n 0, 1) := by decide +kernel
theorem dX12_isItem_63 : decode cX12_isItem 63 = .ok (.invokevirtual 115, 3) := by decide +kernel
theorem dX12_isItem_66 : decode cX12_isItem 66 = .ok (.ireturn, 1) := by decide +kernel
theorem dX12_reads_0 : decode cX12_reads 0 = .ok (.aload_n 0, 1) := by decide +kernel
theorem dX12_reads_1 : decode cX12_reads 1 = .ok (.iconst 4, 1) := by decide +kernel
theorem dX12_reads_2 : decode cX12_reads 2 = .ok (.putfield 97, 3) := by decide +kernel
theorem dX12_reads_5 : decode cX12_reads 5 = .ok (.aload_n 0, 1) := by decide +kernel
theorem dX12_reads_6 : decode cX12_reads 6 = .ok (.iconst 2, 1) := by decide +kernel
theorem dX12_reads_7 : decode cX12_reads 7 = .ok (.putfield 100, 3) := by decide +kernel
theorem dX12_reads_10 : decode cX12_reads 10 = .ok (.aload_n 0, 1) := by decide +kernel
theorem dX12_reads_11 : decode cX12_reads 11 = .ok (.bipush (-9), 2) := by decide +kernel
theorem dX12_reads_13 : decode cX12_reads 13 = .ok (.putfield 103, 3) := by decide +kernel
theorem dX12_reads_16 : decode cX12_reads 16 = .ok (.aload_n 0, 1) := by decide +kernel
theorem dX12_reads_17 : decode cX12_reads 17 = .ok (.iconst 0, 1) := by decide +kernel
theorem dX12_reads_18 : decode cX12_reads 18 = .ok (.putfield 106, 3) := by decide +kernel
theorem dX12_reads_21 : decode cX12_reads 21 = .ok (.aload_n 0, 1) := by decide +kernel
theorem dX12_reads_22 : decode cX12_reads 22 = .ok (.iconst 0, 1) := by decide +kernel
theorem dX12_reads_23 : decode cX12_reads 23 = .ok (.putfield 63, 3) := by decide +kernel
theorem dX12_reads_26 : decode cX12_reads 26 = .ok (.iconst 0, 1) := by decide +kernel
theorem dX12_reads_27 : decode cX12_reads 27 = .ok (.istore_n 1, 1) := by decide +kernel
theorem dX12_reads_28 : decode cX12_reads 28 = .ok (.aload_n 0, 1) := by decide +kernel
theorem dX12_reads_29 : decode cX12_reads 29 = .ok (.invokevirtual 90, 3) := by decide +kernel
theorem dX12_reads_32 : decode cX12_reads 32 = .ok (.aload_n 0, 1) := by decide +kernel
theorem dX12_reads_33 : decode cX12_reads 33 = .ok (.getfield 80, 3) := by decide +kernel
theorem dX12_reads_36 : decode cX12_reads 36 = .ok (.ifCond .eq 49, 3) := by decide +kernel
theorem dX12_reads_39 : decode cX12_reads 39 = .ok (.aload_n 0, 1) := by decide +kernel
theorem dX12_reads_40 : decode cX12_reads 40 = .ok (.iload_n 1, 1) := by decide +kernel
theorem dX12_reads_41 : decode cX12_reads 41 = .ok (.invokevirtual 118, 3) := by decide +kernel
theorem dX12_reads_44 : decode cX12_reads 44 = .ok (.ifCond .ne 11, 3) := by decide +kernel
theorem dX12_reads_47 : decode cX12_reads 47 = .ok (.bipush (-10), 2) := by decide +kernel
theorem dX12_reads_49 : decode cX12_reads 49 = .ok (.aload_n 0, 1) := by decide +kernel
theorem dX12_reads_50 : decode cX12_reads 50 = .ok (.getfield 74, 3) := by decide +kernel
theorem dX12_reads_53 : decode cX12_reads 53 = .ok (.isub, 1) := by decide +kernel
theorem dX12_reads_54 : decode cX12_reads 54 = .ok (.ireturn, 1) := by decide +kernel
theorem dX12_reads_55 : decode cX12_reads 55 = .ok (.aload_n 0, 1) := by decide +kernel
theorem dX12_reads_56 : decode cX12_reads 56 = .ok (.invokevirtual 90, 3) := by decide +kernel
theorem dX12_reads_59 : decode cX12_reads 59 = .ok (.aload_n 0, 1) := by decide +kernel
theorem dX12_reads_60 : decode cX12_reads 60 = .ok (.getfield 80, 3) := by decide +kernel
theorem dX12_reads_63 : decode cX12_reads 63 = .ok (.iconst 3, 1) := by decide +kernel
theorem dX12_reads_64 : decode cX12_reads 64 = .ok (.if_icmp .eq 11, 3) := by decide +kernel
theorem dX12_reads_67 : decode cX12_reads 67 = .ok (.bipush (-10), 2) := by decide +kernel
theorem dX12_reads_69 : decode cX12_reads 69 = .ok (.aload_n 0, 1) := by decide +kernel
theorem dX12_reads_70 : decode cX12_reads 70 = .ok (.getfield 74, 3) := by decide +kernel
theorem dX12_reads_73 : decode cX12_reads 73 = .ok (.isub, 1) := by decide +kernel
theorem dX12_reads_74 : decode cX12_reads 74 = .ok (.ireturn, 1) := by decide +kernel
theorem dX12_reads_75 : decode cX12_reads 75 = .ok (.iinc 1 1, 3) := by decide +kernel
theorem dX12_reads_78 : decode cX12_reads 78 = .ok (.aload_n 0, 1) := by decide +kernel
theorem dX12_reads_79 : decode cX12_reads 79 = .ok (.invokevirtual 90, 3) := by decide +kernel
theorem dX12_reads_82 : decode cX12_reads 82 = .ok (.goto (-50), 3) := by decide +kernel
theorem dX12_reads_85 : decode cX12_reads 85 = .ok (.iload_n 1, 1) := by decide +kernel
theorem dX12_reads_86 : decode cX12_reads 86 = .ok (.ireturn, 1) := by decide +kernel
theorem dX12_door_0 : decode cX12_door 0 = .ok (.aload_n 0, 1) := by decide +kernel
theorem dX12_door_1 : decode cX12_door 1 = .ok (.invokevirtual 122, 3) := by decide +kernel
theorem dX12_door_4 : decode cX12_door 4 = .ok (.istore_n 1, 1) := by decide +kernel
theorem dX12_door_5 : decode cX12_door 5 = .ok (.iload_n 1, 1) := by decide +kernel
theorem dX12_door_6 : decode cX12_door 6 = .ok (.ifCond .ge 5, 3) := by decide +kernel
theorem dX12_door_9 : decode cX12_door 9 = .ok (.iload_n 1, 1) := by decide +kernel
theorem dX12_door_10 : decode cX12_door 10 = .ok (.ireturn, 1) := by decide +kernel
theorem dX12_door_11 : decode cX12_door 11 = .ok (.aload_n 0, 1) := by decide +kernel
theorem dX12_door_12 : decode cX12_door 12 = .ok (.aload_n 0, 1) := by decide +kernel
theorem dX12_door_13 : decode cX12_door 13 = .ok (.getfield 97, 3) := by decide +kernel
theorem dX12_door_16 : decode cX12_door 16 = .ok (.putfield 7, 3) := by decide +kernel
theorem dX12_door_19 : decode cX12_door 19 = .ok (.aload_n 0, 1) := by decide +kernel
theorem dX12_door_20 : decode cX12_door 20 = .ok (.aload_n 0, 1) := by decide +kernel
theorem dX12_door_21 : decode cX12_door 21 = .ok (.getfield 100, 3) := by decide +kernel
theorem dX12_door_24 : decode cX12_door 24 = .ok (.putfield 13, 3) := by decide +kernel
theorem dX12_door_27 : decode cX12_door 27 = .ok (.aload_n 0, 1) := by decide +kernel
theorem dX12_door_28 : decode cX12_door 28 = .ok (.aload_n 0, 1) := by decide +kernel
theorem dX12_door_29 : decode cX12_door 29 = .ok (.getfield 103, 3) := by decide +kernel
theorem dX12_door_32 : decode cX12_door 32 = .ok (.bipush (-9), 2) := by decide +kernel
theorem dX12_door_34 : decode cX12_door 34 = .ok (.if_icmp .ne 7, 3) := by decide +kernel
theorem dX12_door_37 : decode cX12_door 37 = .ok (.iconst 3, 1) := by decide +kernel
theorem dX12_door_38 : decode cX12_door 38 = .ok (.goto 7, 3) := by decide +kernel
theorem dX12_door_41 : decode cX12_door 41 = .ok (.aload_n 0, 1) := by decide +kernel
theorem dX12_door_42 : decode cX12_door 42 = .ok (.getfield 103, 3) := by decide +kernel
theorem dX12_door_45 : decode cX12_door 45 = .ok (.putfield 16, 3) := by decide +kernel
theorem dX12_door_48 : decode cX12_door 48 = .ok (.aload_n 0, 1) := by decide +kernel
theorem dX12_door_49 : decode cX12_door 49 = .ok (.aload_n 0, 1) := by decide +kernel
theorem dX12_door_50 : decode cX12_door 50 = .ok (.getfield 106, 3) := by decide +kernel
theorem dX12_door_53 : decode cX12_door 53 = .ok (.putfield 125, 3) := by decide +kernel
theorem dX12_door_56 : decode cX12_door 56 = .ok (.aload_n 0, 1) := by decide +kernel
theorem dX12_door_57 : decode cX12_door 57 = .ok (.getfield 48, 3) := by decide +kernel
theorem dX12_door_60 : decode cX12_door 60 = .ok (.iconst 0, 1) := by decide +kernel
theorem dX12_door_61 : decode cX12_door 61 = .ok (.aload_n 0, 1) := by decide +kernel
theorem dX12_door_62 : decode cX12_door 62 = .ok (.getfield 19, 3) := by decide +kernel
theorem dX12_door_65 : decode cX12_door 65 = .ok (.iconst 0, 1) := by decide +kernel
theorem dX12_door_66 : decode cX12_door 66 = .ok (.bipush 6, 2) := by decide +kernel
theorem dX12_door_68 : decode cX12_door 68 = .ok (.invokestatic 128, 3) := by decide +kernel
theorem dX12_door_71 : decode cX12_door 71 = .ok (.aload_n 0, 1) := by decide +kernel
theorem dX12_door_72 : decode cX12_door 72 = .ok (.getfield 51, 3) := by decide +kernel
theorem dX12_door_75 : decode cX12_door 75 = .ok (.iconst 0, 1) := by decide +kernel
theorem dX12_door_76 : decode cX12_door 76 = .ok (.aload_n 0, 1) := by decide +kernel
theorem dX12_door_77 : decode cX12_door 77 = .ok (.getfield 23, 3) := by decide +kernel
theorem dX12_door_80 : decode cX12_door 80 = .ok (.iconst 0, 1) := by decide +kernel
theorem dX12_door_81 : decode cX12_door 81 = .ok (.bipush 6, 2) := by decide +kernel
theorem dX12_door_83 : decode cX12_door 83 = .ok (.invokestatic 128, 3) := by decide +kernel
theorem dX12_door_86 : decode cX12_door 86 = .ok (.iconst 0, 1) := by decide +kernel
theorem dX12_door_87 : decode cX12_door 87 = .ok (.istore_n 2, 1) := by decide +kernel
theorem dX12_door_88 : decode cX12_door 88 = .ok (.iload_n 2, 1) := by decide +kernel
theorem dX12_door_89 : decode cX12_door 89 = .ok (.bipush 47, 2) := by decide +kernel
theorem dX12_door_91 : decode cX12_door 91 = .ok (.if_icmp .ge 16, 3) := by decide +kernel
theorem dX12_door_94 : decode cX12_door 94 = .ok (.aload_n 0, 1) := by decide +kernel
theorem dX12_door_95 : decode cX12_door 95 = .ok (.getfield 26, 3) := by decide +kernel
theorem dX12_door_98 : decode cX12_door 98 = .ok (.iload_n 2, 1) := by decide +kernel
theorem dX12_door_99 : decode cX12_door 99 = .ok (.iconst 0, 1) := by decide +kernel
theorem dX12_door_100 : decode cX12_door 100 = .ok (.iastore, 1) := by decide +kernel
theorem dX12_door_101 : decode cX12_door 101 = .ok (.iinc 2 1, 3) := by decide +kernel
theorem dX12_door_104 : decode cX12_door 104 = .ok (.goto (-16), 3) := by decide +kernel
theorem dX12_door_107 : decode cX12_door 107 = .ok (.aload_n 0, 1) := by decide +kernel
theorem dX12_door_108 : decode cX12_door 108 = .ok (.iconst 0, 1) := by decide +kernel
theorem dX12_door_109 : decode cX12_door 109 = .ok (.putfield 132, 3) := by decide +kernel
theorem dX12_door_112 : decode cX12_door 112 = .ok (.aload_n 0, 1) := by decide +kernel
theorem dX12_door_113 : decode cX12_door 113 = .ok (.iconst 0, 1) := by decide +kernel
theorem dX12_door_114 : decode cX12_door 114 = .ok (.putfield 135, 3) := by decide +kernel
theorem dX12_door_117 : decode cX12_door 117 = .ok (.aload_n 0, 1) := by decide +kernel
theorem dX12_door_118 : decode cX12_door 118 = .ok (.getfield 38, 3) := by decide +kernel
theorem dX12_door_121 : decode cX12_door 121 = .ok (.iconst 0, 1) := by decide +kernel
theorem dX12_door_122 : decode cX12_door 122 = .ok (.iconst 0, 1) := by decide +kernel
theorem dX12_door_123 : decode cX12_door 123 = .ok (.bastore, 1) := by decide +kernel
theorem dX12_door_124 : decode cX12_door 124 = .ok (.aload_n 0, 1) := by decide +kernel
theorem dX12_door_125 : decode cX12_door 125 = .ok (.getfield 38, 3) := by decide +kernel
theorem dX12_door_128 : decode cX12_door 128 = .ok (.iconst 1, 1) := by decide +kernel
theorem dX12_door_129 : decode cX12_door 129 = .ok (.iconst 0, 1) := by decide +kernel
theorem dX12_door_130 : decode cX12_door 130 = .ok (.bastore, 1) := by decide +kernel
theorem dX12_door_131 : decode cX12_door 131 = .ok (.aload_n 0, 1) := by decide +kernel
theorem dX12_door_132 : decode cX12_door 132 = .ok (.iconst 0, 1) := by decide +kernel
theorem dX12_door_133 : decode cX12_door 133 = .ok (.putfield 60, 3) := by decide +kernel
theorem dX12_door_136 : decode cX12_door 136 = .ok (.iload_n 1, 1) := by decide +kernel
theorem dX12_door_137 : decode cX12_door 137 = .ok (.ireturn, 1) := by decide +kernel
theorem dX12_isBit_0 : decode cX12_isBit 0 = .ok (.iload_n 0, 1) := by decide +kernel
theorem dX12_isBit_1 : decode cX12_isBit 1 = .ok (.i2l, 1) := by decide +kernel
theorem dX12_isBit_2 : decode cX12_isBit 2 = .ok (.lconst 0, 1) := by decide +kernel
theorem dX12_isBit_3 : decode cX12_isBit 3 = .ok (.lconst 1, 1) := by decide +kernel
theorem dX12_isBit_4 : decode cX12_isBit 4 = .ok (.invokestatic 56, 3) := by decide +kernel
theorem dX12_isBit_7 : decode cX12_isBit 7 = .ok (.ireturn, 1) := by decide +kernel
theorem dX12_isGoer_0 : decode cX12_isGoer 0 = .ok (.iload_n 1, 1) := by decide +kernel
theorem dX12_isGoer_1 : decode cX12_isGoer 1 = .ok (.i2l, 1) := by decide +kernel
theorem dX12_isGoer_2 : decode cX12_isGoer 2 = .ok (.lconst 0, 1) := by decide +kernel
theorem dX12_isGoer_3 : decode cX12_isGoer 3 = .ok (.aload_n 0, 1) := by decide +kernel
theorem dX12_isGoer_4 : decode cX12_isGoer 4 = .ok (.getfield 26, 3) := by decide +kernel
theorem dX12_isGoer_7 : decode cX12_isGoer 7 = .ok (.iconst 0, 1) := by decide +kernel
theorem dX12_isGoer_8 : decode cX12_isGoer 8 = .ok (.iaload, 1) := by decide +kernel
theorem dX12_isGoer_9 : decode cX12_isGoer 9 = .ok (.iconst 1, 1) := by decide +kernel
theorem dX12_isGoer_10 : decode cX12_isGoer 10 = .ok (.isub, 1) := by decide +kernel
theorem dX12_isGoer_11 : decode cX12_isGoer 11 = .ok (.i2l, 1) := by decide +kernel
theorem dX12_isGoer_12 : decode cX12_isGoer 12 = .ok (.invokestatic 56, 3) := by decide +kernel
theorem dX12_isGoer_15 : decode cX12_isGoer 15 = .ok (.ireturn, 1) := by decide +kernel
theorem dX12_bulkOf_0 : decode cX12_bulkOf 0 = .ok (.aload_n 0, 1) := by decide +kernel
theorem dX12_bulkOf_1 : decode cX12_bulkOf 1 = .ok (.getfield 19, 3) := by decide +kernel
theorem dX12_bulkOf_4 : decode cX12_bulkOf 4 = .ok (.aload_n 1, 1) := by decide +kernel
theorem dX12_bulkOf_5 : decode cX12_bulkOf 5 = .ok (.iconst 2, 1) := by decide +kernel
theorem dX12_bulkOf_6 : decode cX12_bulkOf 6 = .ok (.iload_n 2, 1) := by decide +kernel
theorem dX12_bulkOf_7 : decode cX12_bulkOf 7 = .ok (.iadd, 1) := by decide +kernel
theorem dX12_bulkOf_8 : decode cX12_bulkOf 8 = .ok (.iaload, 1) := by decide +kernel
theorem dX12_bulkOf_9 : decode cX12_bulkOf 9 = .ok (.iaload, 1) := by decide +kernel
theorem dX12_bulkOf_10 : decode cX12_bulkOf 10 = .ok (.ireturn, 1) := by decide +kernel
theorem dX12_those_0 : decode cX12_those 0 = .ok (.iconst 0, 1) := by decide +kernel
theorem dX12_those_1 : decode cX12_those 1 = .ok (.istore_n 2, 1) := by decide +kernel
theorem dX12_those_2 : decode cX12_those 2 = .ok (.iconst 0, 1) := by decide +kernel
theorem dX12_those_3 : decode cX12_those 3 = .ok (.istore_n 3, 1) := by decide +kernel
theorem dX12_those_4 : decode cX12_those 4 = .ok (.iload_n 3, 1) := by decide +kernel
theorem dX12_those_5 : decode cX12_those 5 = .ok (.aload_n 0, 1) := by decide +kernel
theorem dX12_those_6 : decode cX12_those 6 = .ok (.iconst 0, 1) := by decide +kernel
theorem dX12_those_7 : decode cX12_those 7 = .ok (.iaload, 1) := by decide +kernel
theorem dX12_those_8 : decode cX12_those 8 = .ok (.if_icmp .ge 29, 3) := by decide +kernel
theorem dX12_those_11 : decode cX12_those 11 = .ok (.iload_n 2, 1) := by decide +kernel
theorem dX12_those_12 : decode cX12_those 12 = .ok (.aload_n 0, 1) := by decide +kernel
theorem dX12_those_13 : decode cX12_those 13 = .ok (.bipush 20, 2) := by decide +kernel
theorem dX12_those_15 : decode cX12_those 15 = .ok (.iload_n 3, 1) := by decide +kernel
theorem dX12_those_16 : decode cX12_those 16 = .ok (.iadd, 1) := by decide +kernel
theorem dX12_those_17 : decode cX12_those 17 = .ok (.iaload, 1) := by decide +kernel
theorem dX12_those_18 : decode cX12_those 18 = .ok (.iload_n 1, 1) := by decide +kernel
theorem dX12_those_19 : decode cX12_those 19 = .ok (.if_icmp .ne 9, 3) := by decide +kernel
theorem dX12_those_22 : decode cX12_those 22 = .ok (.iconst 1, 1) := by decide +kernel
theorem dX12_those_23 : decode cX12_those 23 = .ok (.iload_n 3, 1) := by decide +kernel
theorem dX12_those_24 : decode cX12_those 24 = .ok (.ishl, 1) := by decide +kernel
theorem dX12_those_25 : decode cX12_those 25 = .ok (.goto 4, 3) := by decide +kernel
theorem dX12_those_28 : decode cX12_those 28 = .ok (.iconst 0, 1) := by decide +kernel
theorem dX12_those_29 : decode cX12_those 29 = .ok (.ior, 1) := by decide +kernel
theorem dX12_those_30 : decode cX12_those 30 = .ok (.istore_n 2, 1) := by decide +kernel
theorem dX12_those_31 : decode cX12_those 31 = .ok (.iinc 3 1, 3) := by decide +kernel
theorem dX12_those_34 : decode cX12_those 34 = .ok (.goto (-30), 3) := by decide +kernel
theorem dX12_those_37 : decode cX12_those 37 = .ok (.iload_n 2, 1) := by decide +kernel
theorem dX12_those_38 : decode cX12_those 38 = .ok (.ireturn, 1) := by decide +kernel
theorem dX12_inRoom_0 : decode cX12_inRoom 0 = .ok (.iconst 0, 1) := by decide +kernel
theorem dX12_inRoom_1 : decode cX12_inRoom 1 = .ok (.istore_n 2, 1) := by decide +kernel
theorem dX12_inRoom_2 : decode cX12_inRoom 2 = .ok (.iconst 0, 1) := by decide +kernel
theorem dX12_inRoom_3 : decode cX12_inRoom 3 = .ok (.istore_n 3, 1) := by decide +kernel
theorem dX12_inRoom_4 : decode cX12_inRoom 4 = .ok (.iload_n 3, 1) := by decide +kernel
theorem dX12_inRoom_5 : decode cX12_inRoom 5 = .ok (.aload_n 0, 1) := by decide +kernel
theorem dX12_inRoom_6 : decode cX12_inRoom 6 = .ok (.iconst 0, 1) := by decide +kernel
theorem dX12_inRoom_7 : decode cX12_inRoom 7 = .ok (.iaload, 1) := by decide +kernel
theorem dX12_inRoom_8 : decode cX12_inRoom 8 = .ok (.if_icmp .ge 39, 3) := by decide +kernel
theorem dX12_inRoom_11 : decode cX12_inRoom 11 = .ok (.iload_n 2, 1) := by decide +kernel
theorem dX12_inRoom_12 : decode cX12_inRoom 12 = .ok (.aload_n 0, 1) := by decide +kernel
theorem dX12_inRoom_13 : decode cX12_inRoom 13 = .ok (.bipush 20, 2) := by decide +kernel
theorem dX12_inRoom_15 : decode cX12_inRoom 15 = .ok (.iload_n 3, 1) := by decide +kernel
theorem dX12_inRoom_16 : decode cX12_inRoom 16 = .ok (.iadd, 1) := by decide +kernel
theorem dX12_inRoom_17 : decode cX12_inRoom 17 = .ok (.iaload, 1) := by decide +kernel
theorem dX12_inRoom_18 : decode cX12_inRoom 18 = .ok (.iconst 1, 1) := by decide +kernel
theorem dX12_inRoom_19 : decode cX12_inRoom 19 = .ok (.if_icmp .ne 19, 3) := by decide +kernel
theorem dX12_inRoom_22 : decode cX12_inRoom 22 = .ok (.aload_n 0, 1) := by decide +kernel
theorem dX12_inRoom_23 : decode cX12_inRoom 23 = .ok (.bipush 29, 2) := by decide +kernel
theorem dX12_inRoom_25 : decode cX12_inRoom 25 = .ok (.iload_n 3, 1) := by decide +kernel
theorem dX12_inRoom_26 : decode cX12_inRoom 26 = .ok (.iadd, 1) := by decide +kernel
theorem dX12_inRoom_27 : decode cX12_inRoom 27 = .ok (.iaload, 1) := by decide +kernel
theorem dX12_inRoom_28 : decode cX12_inRoom 28 = .ok (.iload_n 1, 1) := by decide +kernel
theorem dX12_inRoom_29 : decode cX12_inRoom 29 = .ok (.if_icmp .ne 9, 3) := by decide +kernel
theorem dX12_inRoom_32 : decode cX12_inRoom 32 = .ok (.iconst 1, 1) := by decide +kernel
theorem dX12_inRoom_33 : decode cX12_inRoom 33 = .ok (.iload_n 3, 1) := by decide +kernel
theorem dX12_inRoom_34 : decode cX12_inRoom 34 = .ok (.ishl, 1) := by decide +kernel
theorem dX12_inRoom_35 : decode cX12_inRoom 35 = .ok (.goto 4, 3) := by decide +kernel
theorem dX12_inRoom_38 : decode cX12_inRoom 38 = .ok (.iconst 0, 1) := by decide +kernel
theorem dX12_inRoom_39 : decode cX12_inRoom 39 = .ok (.ior, 1) := by decide +kernel
theorem dX12_inRoom_40 : decode cX12_inRoom 40 = .ok (.istore_n 2, 1) := by decide +kernel
theorem dX12_inRoom_41 : decode cX12_inRoom 41 = .ok (.iinc 3 1, 3) := by decide +kernel
theorem dX12_inRoom_44 : decode cX12_inRoom 44 = .ok (.goto (-40), 3) := by decide +kernel
theorem dX12_inRoom_47 : decode cX12_inRoom 47 = .ok (.iload_n 2, 1) := by decide +kernel
theorem dX12_inRoom_48 : decode cX12_inRoom 48 = .ok (.ireturn, 1) := by decide +kernel
theorem dX12_bulkIn_0 : decode cX12_bulkIn 0 = .ok (.iconst 0, 1) := by decide +kernel
theorem dX12_bulkIn_1 : decode cX12_bulkIn 1 = .ok (.istore_n 3, 1) := by decide +kernel
theorem dX12_bulkIn_2 : decode cX12_bulkIn 2 = .ok (.iconst 0, 1) := by decide +kernel
theorem dX12_bulkIn_3 : decode cX12_bulkIn 3 = .ok (.istore 4, 2) := by decide +kernel
theorem dX12_bulkIn_5 : decode cX12_bulkIn 5 = .ok (.iload 4, 2) := by decide +kernel
theorem dX12_bulkIn_7 : decode cX12_bulkIn 7 = .ok (.aload_n 1, 1) := by decide +kernel
theorem dX12_bulkIn_8 : decode cX12_bulkIn 8 = .ok (.iconst 0, 1) := by decide +kernel
theorem dX12_bulkIn_9 : decode cX12_bulkIn 9 = .ok (.iaload, 1) := by decide +kernel
theorem dX12_bulkIn_10 : decode cX12_bulkIn 10 = .ok (.if_icmp .ge 36, 3) := by decide +kernel
theorem dX12_bulkIn_13 : decode cX12_bulkIn 13 = .ok (.iload_n 3, 1) := by decide +kernel
theorem dX12_bulkIn_14 : decode cX12_bulkIn 14 = .ok (.aload_n 1, 1) := by decide +kernel
theorem dX12_bulkIn_15 : decode cX12_bulkIn 15 = .ok (.iload_n 2, 1) := by decide +kernel
theorem dX12_bulkIn_16 : decode cX12_bulkIn 16 = .ok (.invokestatic 138, 3) := by decide +kernel
theorem dX12_bulkIn_19 : decode cX12_bulkIn 19 = .ok (.iload 4, 2) := by decide +kernel
theorem dX12_bulkIn_21 : decode cX12_bulkIn 21 = .ok (.invokestatic 142, 3) := by decide +kernel
theorem dX12_bulkIn_24 : decode cX12_bulkIn 24 = .ok (.ifCond .eq 13, 3) := by decide +kernel
theorem dX12_bulkIn_27 : decode cX12_bulkIn 27 = .ok (.aload_n 0, 1) := by decide +kernel
theorem dX12_bulkIn_28 : decode cX12_bulkIn 28 = .ok (.aload_n 1, 1) := by decide +kernel
theorem dX12_bulkIn_29 : decode cX12_bulkIn 29 = .ok (.iload 4, 2) := by decide +kernel
theorem dX12_bulkIn_31 : decode cX12_bulkIn 31 = .ok (.invokevirtual 145, 3) := by decide +kernel
theorem dX12_bulkIn_34 : decode cX12_bulkIn 34 = .ok (.goto 4, 3) := by decide +kernel
theorem dX12_bulkIn_37 : decode cX12_bulkIn 37 = .ok (.iconst 0, 1) := by decide +kernel
theorem dX12_bulkIn_38 : decode cX12_bulkIn 38 = .ok (.iadd, 1) := by decide +kernel
theorem dX12_bulkIn_39 : decode cX12_bulkIn 39 = .ok (.istore_n 3, 1) := by decide +kernel
theorem dX12_bulkIn_40 : decode cX12_bulkIn 40 = .ok (.iinc 4 1, 3) := by decide +kernel
theorem dX12_bulkIn_43 : decode cX12_bulkIn 43 = .ok (.goto (-38), 3) := by decide +kernel
theorem dX12_bulkIn_46 : decode cX12_bulkIn 46 = .ok (.iload_n 3, 1) := by decide +kernel
theorem dX12_bulkIn_47 : decode cX12_bulkIn 47 = .ok (.ireturn, 1) := by decide +kernel
theorem dX12_firstOn_0 : decode cX12_firstOn 0 = .ok (.bipush (-9), 2) := by decide +kernel
theorem dX12_firstOn_2 : decode cX12_firstOn 2 = .ok (.istore_n 2, 1) := by decide +kernel
theorem dX12_firstOn_3 : decode cX12_firstOn 3 = .ok (.iconst 0, 1) := by decide +kernel
theorem dX12_firstOn_4 : decode cX12_firstOn 4 = .ok (.istore_n 3, 1) := by decide +kernel
theorem dX12_firstOn_5 : decode cX12_firstOn 5 = .ok (.iload_n 3, 1) := by decide +kernel
theorem dX12_firstOn_6 : decode cX12_firstOn 6 = .ok (.aload_n 0, 1) := by decide +kernel
theorem dX12_firstOn_7 : decode cX12_firstOn 7 = .ok (.iconst 0, 1) := by decide +kernel
theorem dX12_firstOn_8 : decode cX12_firstOn 8 = .ok (.iaload, 1) := by decide +kernel
theorem dX12_firstOn_9 : decode cX12_firstOn 9 = .ok (.if_icmp .ge 67, 3) := by decide +kernel
theorem dX12_firstOn_12 : decode cX12_firstOn 12 = .ok (.aload_n 0, 1) := by decide +kernel
theorem dX12_firstOn_13 : decode cX12_firstOn 13 = .ok (.bipush 20, 2) := by decide +kernel
theorem dX12_firstOn_15 : decode cX12_firstOn 15 = .ok (.iload_n 3, 1) := by decide +kernel
theorem dX12_firstOn_16 : decode cX12_firstOn 16 = .ok (.iadd, 1) := by decide +kernel
theorem dX12_firstOn_17 : decode cX12_firstOn 17 = .ok (.iaload, 1) := by decide +kernel
theorem dX12_firstOn_18 : decode cX12_firstOn 18 = .ok (.ifCond .ne 17, 3) := by decide +kernel
theorem dX12_firstOn_21 : decode cX12_firstOn 21 = .ok (.aload_n 0, 1) := by decide +kernel
theorem dX12_firstOn_22 : decode cX12_firstOn 22 = .ok (.bipush 11, 2) := by decide +kernel
theorem dX12_firstOn_24 : decode cX12_firstOn 24 = .ok (.iload_n 3, 1) := by decide +kernel
theorem dX12_firstOn_25 : decode cX12_firstOn 25 = .ok (.iadd, 1) := by decide +kernel
theorem dX12_firstOn_26 : decode cX12_firstOn 26 = .ok (.iaload, 1) := by decide +kernel
theorem dX12_firstOn_27 : decode cX12_firstOn 27 = .ok (.iload_n 1, 1) := by decide +kernel
theorem dX12_firstOn_28 : decode cX12_firstOn 28 = .ok (.if_icmp .ne 7, 3) := by decide +kernel
theorem dX12_firstOn_31 : decode cX12_firstOn 31 = .ok (.iconst 1, 1) := by decide +kernel
theorem dX12_firstOn_32 : decode cX12_firstOn 32 = .ok (.goto 4, 3) := by decide +kernel
theorem dX12_firstOn_35 : decode cX12_firstOn 35 = .ok (.iconst 0, 1) := by decide +kernel
theorem dX12_firstOn_36 : decode cX12_firstOn 36 = .ok (.istore 4, 2) := by decide +kernel
theorem dX12_firstOn_38 : decode cX12_firstOn 38 = .ok (.iload 4, 2) := by decide +kernel
theorem dX12_firstOn_40 : decode cX12_firstOn 40 = .ok (.ifCond .eq 28, 3) := by decide +kernel
theorem dX12_firstOn_43 : decode cX12_firstOn 43 = .ok (.iload_n 2, 1) := by decide +kernel
theorem dX12_firstOn_44 : decode cX12_firstOn 44 = .ok (.bipush (-9), 2) := by decide +kernel
theorem dX12_firstOn_46 : decode cX12_firstOn 46 = .ok (.if_icmp .eq 18, 3) := by decide +kernel
theorem dX12_firstOn_49 : decode cX12_firstOn 49 = .ok (.aload_n 0, 1) := by decide +kernel
theorem dX12_firstOn_50 : decode cX12_firstOn 50 = .ok (.bipush 38, 2) := by decide +kernel
theorem dX12_firstOn_52 : decode cX12_firstOn 52 = .ok (.iload_n 3, 1) := by decide +kernel
theorem dX12_firstOn_53 : decode cX12_firstOn 53 = .ok (.iadd, 1) := by decide +kernel
theorem dX12_firstOn_54 : decode cX12_firstOn 54 = .ok (.iaload, 1) := by decide +kernel
theorem dX12_firstOn_55 : decode cX12_firstOn 55 = .ok (.aload_n 0, 1) := by decide +kernel
theorem dX12_firstOn_56 : decode cX12_firstOn 56 = .ok (.bipush 38, 2) := by decide +kernel
theorem dX12_firstOn_58 : decode cX12_firstOn 58 = .ok (.iload_n 2, 1) := by decide +kernel
theorem dX12_firstOn_59 : decode cX12_firstOn 59 = .ok (.iadd, 1) := by decide +kernel
theorem dX12_firstOn_60 : decode cX12_firstOn 60 = .ok (.iaload, 1) := by decide +kernel
theorem dX12_firstOn_61 : decode cX12_firstOn 61 = .ok (.if_icmp .ge 7, 3) := by decide +kernel
theorem dX12_firstOn_64 : decode cX12_firstOn 64 = .ok (.iload_n 3, 1) := by decide +kernel
theorem dX12_firstOn_65 : decode cX12_firstOn 65 = .ok (.goto 4, 3) := by decide +kernel
theorem dX12_firstOn_68 : decode cX12_firstOn 68 = .ok (.iload_n 2, 1) := by decide +kernel
theorem dX12_firstOn_69 : decode cX12_firstOn 69 = .ok (.istore_n 2, 1) := by decide +kernel
theorem dX12_firstOn_70 : decode cX12_firstOn 70 = .ok (.iinc 3 1, 3) := by decide +kernel
theorem dX12_firstOn_73 : decode cX12_firstOn 73 = .ok (.goto (-68), 3) := by decide +kernel
theorem dX12_firstOn_76 : decode cX12_firstOn 76 = .ok (.iload_n 2, 1) := by decide +kernel
theorem dX12_firstOn_77 : decode cX12_firstOn 77 = .ok (.ireturn, 1) := by decide +kernel
theorem dX12_placeOf_0 : decode cX12_placeOf 0 = .ok (.iload_n 1, 1) := by decide +kernel
theorem dX12_placeOf_1 : decode cX12_placeOf 1 = .ok (.ifCond .ne 7, 3) := by decide +kernel
theorem dX12_placeOf_4 : decode cX12_placeOf 4 = .ok (.iconst 0, 1) := by decide +kernel
theorem dX12_placeOf_5 : decode cX12_placeOf 5 = .ok (.goto 9, 3) := by decide +kernel
theorem dX12_placeOf_8 : decode cX12_placeOf 8 = .ok (.aload_n 0, 1) := by decide +kernel
theorem dX12_placeOf_9 : decode cX12_placeOf 9 = .ok (.getfield 7, 3) := by decide +kernel
theorem dX12_placeOf_12 : decode cX12_placeOf 12 = .ok (.iconst 2, 1) := by decide +kernel
theorem dX12_placeOf_13 : decode cX12_placeOf 13 = .ok (.idiv, 1) := by decide +kernel
theorem dX12_placeOf_14 : decode cX12_placeOf 14 = .ok (.ireturn, 1) := by decide +kernel
theorem dX12_fills_0 : decode cX12_fills 0 = .ok (.iconst 0, 1) := by decide +kernel
theorem dX12_fills_1 : decode cX12_fills 1 = .ok (.istore_n 2, 1) := by decide +kernel
theorem dX12_fills_2 : decode cX12_fills 2 = .ok (.iload_n 2, 1) := by decide +kernel
theorem dX12_fills_3 : decode cX12_fills 3 = .ok (.iconst 2, 1) := by decide +kernel
theorem dX12_fills_4 : decode cX12_fills 4 = .ok (.if_icmp .ge 72, 3) := by decide +kernel
theorem dX12_fills_7 : decode cX12_fills 7 = .ok (.aload_n 1, 1) := by decide +kernel
theorem dX12_fills_8 : decode cX12_fills 8 = .ok (.iload_n 2, 1) := by decide +kernel
theorem dX12_fills_9 : decode cX12_fills 9 = .ok (.invokestatic 148, 3) := by decide +kernel
theorem dX12_fills_12 : decode cX12_fills 12 = .ok (.istore_n 3, 1) := by decide +kernel
theorem dX12_fills_13 : decode cX12_fills 13 = .ok (.iload_n 3, 1) := by decide +kernel
theorem dX12_fills_14 : decode cX12_fills 14 = .ok (.bipush (-9), 2) := by decide +kernel
theorem dX12_fills_16 : decode cX12_fills 16 = .ok (.if_icmp .eq 54, 3) := by decide +kernel
theorem dX12_fills_19 : decode cX12_fills 19 = .ok (.aload_n 0, 1) := by decide +kernel
theorem dX12_fills_20 : decode cX12_fills 20 = .ok (.aload_n 1, 1) := by decide +kernel
theorem dX12_fills_21 : decode cX12_fills 21 = .ok (.aload_n 0, 1) := by decide +kernel
theorem dX12_fills_22 : decode cX12_fills 22 = .ok (.iload_n 2, 1) := by decide +kernel
theorem dX12_fills_23 : decode cX12_fills 23 = .ok (.invokevirtual 151, 3) := by decide +kernel
theorem dX12_fills_26 : decode cX12_fills 26 = .ok (.invokevirtual 155, 3) := by decide +kernel
theorem dX12_fills_29 : decode cX12_fills 29 = .ok (.aload_n 0, 1) := by decide +kernel
theorem dX12_fills_30 : decode cX12_fills 30 = .ok (.aload_n 1, 1) := by decide +kernel
theorem dX12_fills_31 : decode cX12_fills 31 = .ok (.iload_n 3, 1) := by decide +kernel
theorem dX12_fills_32 : decode cX12_fills 32 = .ok (.invokevirtual 145, 3) := by decide +kernel
theorem dX12_fills_35 : decode cX12_fills 35 = .ok (.iadd, 1) := by decide +kernel
theorem dX12_fills_36 : decode cX12_fills 36 = .ok (.aload_n 0, 1) := by decide +kernel
theorem dX12_fills_37 : decode cX12_fills 37 = .ok (.getfield 13, 3) := by decide +kernel
theorem dX12_fills_40 : decode cX12_fills 40 = .ok (.if_icmp .gt 30, 3) := by decide +kernel
theorem dX12_fills_43 : decode cX12_fills 43 = .ok (.aload_n 1, 1) := by decide +kernel
theorem dX12_fills_44 : decode cX12_fills 44 = .ok (.bipush 20, 2) := by decide +kernel
theorem dX12_fills_46 : decode cX12_fills 46 = .ok (.iload_n 3, 1) := by decide +kernel
theorem dX12_fills_47 : decode cX12_fills 47 = .ok (.iadd, 1) := by decide +kernel
theorem dX12_fills_48 : decode cX12_fills 48 = .ok (.iconst 1, 1) := by decide +kernel
theorem dX12_fills_49 : decode cX12_fills 49 = .ok (.iastore, 1) := by decide +kernel
theorem dX12_fills_50 : decode cX12_fills 50 = .ok (.aload_n 1, 1) := by decide +kernel
theorem dX12_fills_51 : decode cX12_fills 51 = .ok (.bipush 29, 2) := by decide +kernel
theorem dX12_fills_53 : decode cX12_fills 53 = .ok (.iload_n 3, 1) := by decide +kernel
theorem dX12_fills_54 : decode cX12_fills 54 = .ok (.iadd, 1) := by decide +kernel
theorem dX12_fills_55 : decode cX12_fills 55 = .ok (.aload_n 0, 1) := by decide +kernel
theorem dX12_fills_56 : decode cX12_fills 56 = .ok (.iload_n 2, 1) := by decide +kernel
theorem dX12_fills_57 : decode cX12_fills 57 = .ok (.invokevirtual 151, 3) := by decide +kernel
theorem dX12_fills_60 : decode cX12_fills 60 = .ok (.iastore, 1) := by decide +kernel
theorem dX12_fills_61 : decode cX12_fills 61 = .ok (.aload_n 1, 1) := by decide +kernel
theorem dX12_fills_62 : decode cX12_fills 62 = .ok (.iload_n 2, 1) := by decide +kernel
theorem dX12_fills_63 : decode cX12_fills 63 = .ok (.invokestatic 148, 3) := by decide +kernel
theorem dX12_fills_66 : decode cX12_fills 66 = .ok (.istore_n 3, 1) := by decide +kernel
theorem dX12_fills_67 : decode cX12_fills 67 = .ok (.goto (-54), 3) := by decide +kernel
theorem dX12_fills_70 : decode cX12_fills 70 = .ok (.iinc 2 1, 3) := by decide +kernel
theorem dX12_fills_73 : decode cX12_fills 73 = .ok (.goto (-71), 3) := by decide +kernel
theorem dX12_fills_76 : decode cX12_fills 76 = .ok (.return_, 1) := by decide +kernel
theorem dX12_loadOn_0 : decode cX12_loadOn 0 = .ok (.iconst 0, 1) := by decide +kernel
theorem dX12_loadOn_1 : decode cX12_loadOn 1 = .ok (.istore_n 2, 1) := by decide +kernel
theorem dX12_loadOn_2 : decode cX12_loadOn 2 = .ok (.iconst 0, 1) := by decide +kernel
theorem dX12_loadOn_3 : decode cX12_loadOn 3 = .ok (.istore_n 3, 1) := by decide +kernel
theorem dX12_loadOn_4 : decode cX12_loadOn 4 = .ok (.iload_n 3, 1) := by decide +kernel
theorem dX12_loadOn_5 : decode cX12_loadOn 5 = .ok (.aload_n 1, 1) := by decide +kernel
theorem dX12_loadOn_6 : decode cX12_loadOn 6 = .ok (.iconst 0, 1) := by decide +kernel
theorem dX12_loadOn_7 : decode cX12_loadOn 7 = .ok (.iaload, 1) := by decide +kernel
theorem dX12_loadOn_8 : decode cX12_loadOn 8 = .ok (.if_icmp .ge 36, 3) := by decide +kernel
theorem dX12_loadOn_11 : decode cX12_loadOn 11 = .ok (.iload_n 2, 1) := by decide +kernel
theorem dX12_loadOn_12 : decode cX12_loadOn 12 = .ok (.aload_n 1, 1) := by decide +kernel
theorem dX12_loadOn_13 : decode cX12_loadOn 13 = .ok (.bipush 20, 2) := by decide +kernel
theorem dX12_loadOn_15 : decode cX12_loadOn 15 = .ok (.iload_n 3, 1) := by decide +kernel
theorem dX12_loadOn_16 : decode cX12_loadOn 16 = .ok (.iadd, 1) := by decide +kernel
theorem dX12_loadOn_17 : decode cX12_loadOn 17 = .ok (.iaload, 1) := by decide +kernel
theorem dX12_loadOn_18 : decode cX12_loadOn 18 = .ok (.iconst 1, 1) := by decide +kernel
theorem dX12_loadOn_19 : decode cX12_loadOn 19 = .ok (.if_icmp .ne 16, 3) := by decide +kernel
theorem dX12_loadOn_22 : decode cX12_loadOn 22 = .ok (.aload_n 0, 1) := by decide +kernel
theorem dX12_loadOn_23 : decode cX12_loadOn 23 = .ok (.getfield 23, 3) := by decide +kernel
theorem dX12_loadOn_26 : decode cX12_loadOn 26 = .ok (.aload_n 1, 1) := by decide +kernel
theorem dX12_loadOn_27 : decode cX12_loadOn 27 = .ok (.iconst 2, 1) := by decide +kernel
theorem dX12_loadOn_28 : decode cX12_loadOn 28 = .ok (.iload_n 3, 1) := by decide +kernel
theorem dX12_loadOn_29 : decode cX12_loadOn 29 = .ok (.iadd, 1) := by decide +kernel
theorem dX12_loadOn_30 : decode cX12_loadOn 30 = .ok (.iaload, 1) := by decide +kernel
theorem dX12_loadOn_31 : decode cX12_loadOn 31 = .ok (.iaload, 1) := by decide +kernel
theorem dX12_loadOn_32 : decode cX12_loadOn 32 = .ok (.goto 4, 3) := by decide +kernel
theorem dX12_loadOn_35 : decode cX12_loadOn 35 = .ok (.iconst 0, 1) := by decide +kernel
theorem dX12_loadOn_36 : decode cX12_loadOn 36 = .ok (.iadd, 1) := by decide +kernel
theorem dX12_loadOn_37 : decode cX12_loadOn 37 = .ok (.istore_n 2, 1) := by decide +kernel
theorem dX12_loadOn_38 : decode cX12_loadOn 38 = .ok (.iinc 3 1, 3) := by decide +kernel
theorem dX12_loadOn_41 : decode cX12_loadOn 41 = .ok (.goto (-37), 3) := by decide +kernel
theorem dX12_loadOn_44 : decode cX12_loadOn 44 = .ok (.iload_n 2, 1) := by decide +kernel
theorem dX12_loadOn_45 : decode cX12_loadOn 45 = .ok (.ireturn, 1) := by decide +kernel
theorem dX12_dragOn_0 : decode cX12_dragOn 0 = .ok (.aload_n 0, 1) := by decide +kernel
theorem dX12_dragOn_1 : decode cX12_dragOn 1 = .ok (.getfield 16, 3) := by decide +kernel
theorem dX12_dragOn_4 : decode cX12_dragOn 4 = .ok (.aload_n 1, 1) := by decide +kernel
theorem dX12_dragOn_5 : decode cX12_dragOn 5 = .ok (.iconst 1, 1) := by decide +kernel
theorem dX12_dragOn_6 : decode cX12_dragOn 6 = .ok (.invokestatic 158, 3) := by decide +kernel
theorem dX12_dragOn_9 : decode cX12_dragOn 9 = .ok (.invokestatic 161, 3) := by decide +kernel
theorem dX12_dragOn_12 : decode cX12_dragOn 12 = .ok (.iadd, 1) := by decide +kernel
theorem dX12_dragOn_13 : decode cX12_dragOn 13 = .ok (.ireturn, 1) := by decide +kernel
theorem dX12_sticksOn_0 : decode cX12_sticksOn 0 = .ok (.aload_n 1, 1) := by decide +kernel
theorem dX12_sticksOn_1 : decode cX12_sticksOn 1 = .ok (.iconst 1, 1) := by decide +kernel
theorem dX12_sticksOn_2 : decode cX12_sticksOn 2 = .ok (.invokestatic 158, 3) := by decide +kernel
theorem dX12_sticksOn_5 : decode cX12_sticksOn 5 = .ok (.ifCond .eq 16, 3) := by decide +kernel
theorem dX12_sticksOn_8 : decode cX12_sticksOn 8 = .ok (.aload_n 0, 1) := by decide +kernel
theorem dX12_sticksOn_9 : decode cX12_sticksOn 9 = .ok (.aload_n 1, 1) := by decide +kernel
theorem dX12_sticksOn_10 : decode cX12_sticksOn 10 = .ok (.invokevirtual 164, 3) := by decide +kernel
theorem dX12_sticksOn_13 : decode cX12_sticksOn 13 = .ok (.aload_n 0, 1) := by decide +kernel
theorem dX12_sticksOn_14 : decode cX12_sticksOn 14 = .ok (.aload_n 1, 1) := by decide +kernel
theorem dX12_sticksOn_15 : decode cX12_sticksOn 15 = .ok (.invokevirtual 168, 3) := by decide +kernel
theorem dX12_sticksOn_18 : decode cX12_sticksOn 18 = .ok (.if_icmp .ge 7, 3) := by decide +kernel
theorem dX12_sticksOn_21 : decode cX12_sticksOn 21 = .ok (.iconst 1, 1) := by decide +kernel
theorem dX12_sticksOn_22 : decode cX12_sticksOn 22 = .ok (.goto 4, 3) := by decide +kernel
theorem dX12_sticksOn_25 : decode cX12_sticksOn 25 = .ok (.iconst 0, 1) := by decide +kernel
theorem dX12_sticksOn_26 : decode cX12_sticksOn 26 = .ok (.ireturn, 1) := by decide +kernel
theorem dX12_goes_0 : decode cX12_goes 0 = .ok (.iconst 0, 1) := by decide +kernel
theorem dX12_goes_1 : decode cX12_goes 1 = .ok (.istore_n 2, 1) := by decide +kernel
theorem dX12_goes_2 : decode cX12_goes 2 = .ok (.aload_n 0, 1) := by decide +kernel
theorem dX12_goes_3 : decode cX12_goes 3 = .ok (.aload_n 1, 1) := by decide +kernel
theorem dX12_goes_4 : decode cX12_goes 4 = .ok (.invokevirtual 171, 3) := by decide +kernel
theorem dX12_goes_7 : decode cX12_goes 7 = .ok (.ifCond .ne 109, 3) := by decide +kernel
theorem dX12_goes_10 : decode cX12_goes 10 = .ok (.iconst 0, 1) := by decide +kernel
theorem dX12_goes_11 : decode cX12_goes 11 = .ok (.istore_n 3, 1) := by decide +kernel
theorem dX12_goes_12 : decode cX12_goes 12 = .ok (.iload_n 3, 1) := by decide +kernel
theorem dX12_goes_13 : decode cX12_goes 13 = .ok (.aload_n 1, 1) := by decide +kernel
theorem dX12_goes_14 : decode cX12_goes 14 = .ok (.iconst 0, 1) := by decide +kernel
theorem dX12_goes_15 : decode cX12_goes 15 = .ok (.iaload, 1) := by decide +kernel
theorem dX12_goes_16 : decode cX12_goes 16 = .ok (.if_icmp .ge 95, 3) := by decide +kernel
theorem dX12_goes_19 : decode cX12_goes 19 = .ok (.aload_n 1, 1) := by decide +kernel
theorem dX12_goes_20 : decode cX12_goes 20 = .ok (.bipush 20, 2) := by decide +kernel
theorem dX12_goes_22 : decode cX12_goes 22 = .ok (.iload_n 3, 1) := by decide +kernel
theorem dX12_goes_23 : decode cX12_goes 23 = .ok (.iadd, 1) := by decide +kernel
theorem dX12_goes_24 : decode cX12_goes 24 = .ok (.iaload, 1) := by decide +kernel
theorem dX12_goes_25 : decode cX12_goes 25 = .ok (.iconst 1, 1) := by decide +kernel
theorem dX12_goes_26 : decode cX12_goes 26 = .ok (.if_icmp .ne 79, 3) := by decide +kernel
theorem dX12_goes_29 : decode cX12_goes 29 = .ok (.aload_n 1, 1) := by decide +kernel
theorem dX12_goes_30 : decode cX12_goes 30 = .ok (.bipush 29, 2) := by decide +kernel
theorem dX12_goes_32 : decode cX12_goes 32 = .ok (.iload_n 3, 1) := by decide +kernel
theorem dX12_goes_33 : decode cX12_goes 33 = .ok (.iadd, 1) := by decide +kernel
theorem dX12_goes_34 : decode cX12_goes 34 = .ok (.aload_n 1, 1) := by decide +kernel
theorem dX12_goes_35 : decode cX12_goes 35 = .ok (.bipush 29, 2) := by decide +kernel
theorem dX12_goes_37 : decode cX12_goes 37 = .ok (.iload_n 3, 1) := by decide +kernel
theorem dX12_goes_38 : decode cX12_goes 38 = .ok (.iadd, 1) := by decide +kernel
theorem dX12_goes_39 : decode cX12_goes 39 = .ok (.iaload, 1) := by decide +kernel
theorem dX12_goes_40 : decode cX12_goes 40 = .ok (.iconst 1, 1) := by decide +kernel
theorem dX12_goes_41 : decode cX12_goes 41 = .ok (.iadd, 1) := by decide +kernel
theorem dX12_goes_42 : decode cX12_goes 42 = .ok (.aload_n 0, 1) := by decide +kernel
theorem dX12_goes_43 : decode cX12_goes 43 = .ok (.getfield 7, 3) := by decide +kernel
theorem dX12_goes_46 : decode cX12_goes 46 = .ok (.irem, 1) := by decide +kernel
theorem dX12_goes_47 : decode cX12_goes 47 = .ok (.iastore, 1) := by decide +kernel
theorem dX12_goes_48 : decode cX12_goes 48 = .ok (.aload_n 1, 1) := by decide +kernel
theorem dX12_goes_49 : decode cX12_goes 49 = .ok (.bipush 29, 2) := by decide +kernel
theorem dX12_goes_51 : decode cX12_goes 51 = .ok (.iload_n 3, 1) := by decide +kernel
theorem dX12_goes_52 : decode cX12_goes 52 = .ok (.iadd, 1) := by decide +kernel
theorem dX12_goes_53 : decode cX12_goes 53 = .ok (.iaload, 1) := by decide +kernel
theorem dX12_goes_54 : decode cX12_goes 54 = .ok (.aload_n 0, 1) := by decide +kernel
theorem dX12_goes_55 : decode cX12_goes 55 = .ok (.iconst 1, 1) := by decide +kernel
theorem dX12_goes_56 : decode cX12_goes 56 = .ok (.aload_n 1, 1) := by decide +kernel
theorem dX12_goes_57 : decode cX12_goes 57 = .ok (.bipush 11, 2) := by decide +kernel
theorem dX12_goes_59 : decode cX12_goes 59 = .ok (.iload_n 3, 1) := by decide +kernel
theorem dX12_goes_60 : decode cX12_goes 60 = .ok (.iadd, 1) := by decide +kernel
theorem dX12_goes_61 : decode cX12_goes 61 = .ok (.iaload, 1) := by decide +kernel
theorem dX12_goes_62 : decode cX12_goes 62 = .ok (.isub, 1) := by decide +kernel
theorem dX12_goes_63 : decode cX12_goes 63 = .ok (.invokevirtual 151, 3) := by decide +kernel
theorem dX12_goes_66 : decode cX12_goes 66 = .ok (.if_icmp .ne 7, 3) := by decide +kernel
theorem dX12_goes_69 : decode cX12_goes 69 = .ok (.iconst 1, 1) := by decide +kernel
theorem dX12_goes_70 : decode cX12_goes 70 = .ok (.goto 4, 3) := by decide +kernel
theorem dX12_goes_73 : decode cX12_goes 73 = .ok (.iconst 0, 1) := by decide +kernel
theorem dX12_goes_74 : decode cX12_goes 74 = .ok (.istore 4, 2) := by decide +kernel
theorem dX12_goes_76 : decode cX12_goes 76 = .ok (.aload_n 1, 1) := by decide +kernel
theorem dX12_goes_77 : decode cX12_goes 77 = .ok (.bipush 20, 2) := by decide +kernel
theorem dX12_goes_79 : decode cX12_goes 79 = .ok (.iload_n 3, 1) := by decide +kernel
theorem dX12_goes_80 : decode cX12_goes 80 = .ok (.iadd, 1) := by decide +kernel
theorem dX12_goes_81 : decode cX12_goes 81 = .ok (.iload 4, 2) := by decide +kernel
theorem dX12_goes_83 : decode cX12_goes 83 = .ok (.ifCond .eq 7, 3) := by decide +kernel
theorem dX12_goes_86 : decode cX12_goes 86 = .ok (.iconst 2, 1) := by decide +kernel
theorem dX12_goes_87 : decode cX12_goes 87 = .ok (.goto 4, 3) := by decide +kernel
theorem dX12_goes_90 : decode cX12_goes 90 = .ok (.iconst 1, 1) := by decide +kernel
theorem dX12_goes_91 : decode cX12_goes 91 = .ok (.iastore, 1) := by decide +kernel
theorem dX12_goes_92 : decode cX12_goes 92 = .ok (.iload_n 2, 1) := by decide +kernel
theorem dX12_goes_93 : decode cX12_goes 93 = .ok (.iload 4, 2) := by decide +kernel
theorem dX12_goes_95 : decode cX12_goes 95 = .ok (.ifCond .eq 7, 3) := by decide +kernel
theorem dX12_goes_98 : decode cX12_goes 98 = .ok (.iconst 1, 1) := by decide +kernel
theorem dX12_goes_99 : decode cX12_goes 99 = .ok (.goto 4, 3) := by decide +kernel
theorem dX12_goes_102 : decode cX12_goes 102 = .ok (.iconst 0, 1) := by decide +kernel
theorem dX12_goes_103 : decode cX12_goes 103 = .ok (.iadd, 1) := by decide +kernel
theorem dX12_goes_104 : decode cX12_goes 104 = .ok (.istore_n 2, 1) := by decide +kernel
theorem dX12_goes_105 : decode cX12_goes 105 = .ok (.iinc 3 1, 3) := by decide +kernel
theorem dX12_goes_108 : decode cX12_goes 108 = .ok (.goto (-96), 3) := by decide +kernel
theorem dX12_goes_111 : decode cX12_goes 111 = .ok (.aload_n 0, 1) := by decide +kernel
theorem dX12_goes_112 : decode cX12_goes 112 = .ok (.aload_n 1, 1) := by decide +kernel
theorem dX12_goes_113 : decode cX12_goes 113 = .ok (.invokevirtual 175, 3) := by decide +kernel
theorem dX12_goes_116 : decode cX12_goes 116 = .ok (.aload_n 1, 1) := by decide +kernel
theorem dX12_goes_117 : decode cX12_goes 117 = .ok (.iconst 1, 1) := by decide +kernel
theorem dX12_goes_118 : decode cX12_goes 118 = .ok (.dup2, 1) := by decide +kernel
theorem dX12_goes_119 : decode cX12_goes 119 = .ok (.iaload, 1) := by decide +kernel
theorem dX12_goes_120 : decode cX12_goes 120 = .ok (.iconst 1, 1) := by decide +kernel
theorem dX12_goes_121 : decode cX12_goes 121 = .ok (.iadd, 1) := by decide +kernel
theorem dX12_goes_122 : decode cX12_goes 122 = .ok (.iastore, 1) := by decide +kernel
theorem dX12_goes_123 : decode cX12_goes 123 = .ok (.iload_n 2, 1) := by decide +kernel
theorem dX12_goes_124 : decode cX12_goes 124 = .ok (.ireturn, 1) := by decide +kernel
theorem dX12_aheadOf_0 : decode cX12_aheadOf 0 = .ok (.iconst 0, 1) := by decide +kernel
theorem dX12_aheadOf_1 : decode cX12_aheadOf 1 = .ok (.istore_n 2, 1) := by decide +kernel
theorem dX12_aheadOf_2 : decode cX12_aheadOf 2 = .ok (.iconst 0, 1) := by decide +kernel
theorem dX12_aheadOf_3 : decode cX12_aheadOf 3 = .ok (.istore_n 3, 1) := by decide +kernel
theorem dX12_aheadOf_4 : decode cX12_aheadOf 4 = .ok (.iload_n 3, 1) := by decide +kernel
theorem dX12_aheadOf_5 : decode cX12_aheadOf 5 = .ok (.aload_n 0, 1) := by decide +kernel
theorem dX12_aheadOf_6 : decode cX12_aheadOf 6 = .ok (.iconst 0, 1) := by decide +kernel
theorem dX12_aheadOf_7 : decode cX12_aheadOf 7 = .ok (.iaload, 1) := by decide +kernel
theorem dX12_aheadOf_8 : decode cX12_aheadOf 8 = .ok (.if_icmp .ge 56, 3) := by decide +kernel
theorem dX12_aheadOf_11 : decode cX12_aheadOf 11 = .ok (.iload_n 2, 1) := by decide +kernel
theorem dX12_aheadOf_12 : decode cX12_aheadOf 12 = .ok (.aload_n 0, 1) := by decide +kernel
theorem dX12_aheadOf_13 : decode cX12_aheadOf 13 = .ok (.bipush 20, 2) := by decide +kernel
theorem dX12_aheadOf_15 : decode cX12_aheadOf 15 = .ok (.iload_n 3, 1) := by decide +kernel
theorem dX12_aheadOf_16 : decode cX12_aheadOf 16 = .ok (.iadd, 1) := by decide +kernel
theorem dX12_aheadOf_17 : decode cX12_aheadOf 17 = .ok (.iaload, 1) := by decide +kernel
theorem dX12_aheadOf_18 : decode cX12_aheadOf 18 = .ok (.ifCond .ne 37, 3) := by decide +kernel
theorem dX12_aheadOf_21 : decode cX12_aheadOf 21 = .ok (.aload_n 0, 1) := by decide +kernel
theorem dX12_aheadOf_22 : decode cX12_aheadOf 22 = .ok (.bipush 11, 2) := by decide +kernel
theorem dX12_aheadOf_24 : decode cX12_aheadOf 24 = .ok (.iload_n 3, 1) := by decide +kernel
theorem dX12_aheadOf_25 : decode cX12_aheadOf 25 = .ok (.iadd, 1) := by decide +kernel
theorem dX12_aheadOf_26 : decode cX12_aheadOf 26 = .ok (.iaload, 1) := by decide +kernel
theorem dX12_aheadOf_27 : decode cX12_aheadOf 27 = .ok (.aload_n 0, 1) := by decide +kernel
theorem dX12_aheadOf_28 : decode cX12_aheadOf 28 = .ok (.bipush 11, 2) := by decide +kernel
theorem dX12_aheadOf_30 : decode cX12_aheadOf 30 = .ok (.iload_n 1, 1) := by decide +kernel
theorem dX12_aheadOf_31 : decode cX12_aheadOf 31 = .ok (.iadd, 1) := by decide +kernel
theorem dX12_aheadOf_32 : decode cX12_aheadOf 32 = .ok (.iaload, 1) := by decide +kernel
theorem dX12_aheadOf_33 : decode cX12_aheadOf 33 = .ok (.if_icmp .ne 22, 3) := by decide +kernel
theorem dX12_aheadOf_36 : decode cX12_aheadOf 36 = .ok (.aload_n 0, 1) := by decide +kernel
theorem dX12_aheadOf_37 : decode cX12_aheadOf 37 = .ok (.bipush 38, 2) := by decide +kernel
theorem dX12_aheadOf_39 : decode cX12_aheadOf 39 = .ok (.iload_n 3, 1) := by decide +kernel
theorem dX12_aheadOf_40 : decode cX12_aheadOf 40 = .ok (.iadd, 1) := by decide +kernel
theorem dX12_aheadOf_41 : decode cX12_aheadOf 41 = .ok (.iaload, 1) := by decide +kernel
theorem dX12_aheadOf_42 : decode cX12_aheadOf 42 = .ok (.aload_n 0, 1) := by decide +kernel
theorem dX12_aheadOf_43 : decode cX12_aheadOf 43 = .ok (.bipush 38, 2) := by decide +kernel
theorem dX12_aheadOf_45 : decode cX12_aheadOf 45 = .ok (.iload_n 1, 1) := by decide +kernel
theorem dX12_aheadOf_46 : decode cX12_aheadOf 46 = .ok (.iadd, 1) := by decide +kernel
theorem dX12_aheadOf_47 : decode cX12_aheadOf 47 = .ok (.iaload, 1) := by decide +kernel
theorem dX12_aheadOf_48 : decode cX12_aheadOf 48 = .ok (.if_icmp .ge 7, 3) := by decide +kernel
theorem dX12_aheadOf_51 : decode cX12_aheadOf 51 = .ok (.iconst 1, 1) := by decide +kernel
theorem dX12_aheadOf_52 : decode cX12_aheadOf 52 = .ok (.goto 4, 3) := by decide +kernel
theorem dX12_aheadOf_55 : decode cX12_aheadOf 55 = .ok (.iconst 0, 1) := by decide +kernel
theorem dX12_aheadOf_56 : decode cX12_aheadOf 56 = .ok (.iadd, 1) := by decide +kernel
theorem dX12_aheadOf_57 : decode cX12_aheadOf 57 = .ok (.istore_n 2, 1) := by decide +kernel
theorem dX12_aheadOf_58 : decode cX12_aheadOf 58 = .ok (.iinc 3 1, 3) := by decide +kernel
theorem dX12_aheadOf_61 : decode cX12_aheadOf 61 = .ok (.goto (-57), 3) := by decide +kernel
theorem dX12_aheadOf_64 : decode cX12_aheadOf 64 = .ok (.iload_n 2, 1) := by decide +kernel
theorem dX12_aheadOf_65 : decode cX12_aheadOf 65 = .ok (.ireturn, 1) := by decide +kernel
theorem dX12_layAside_0 : decode cX12_layAside 0 = .ok (.aload_n 0, 1) := by decide +kernel
theorem dX12_layAside_1 : decode cX12_layAside 1 = .ok (.getfield 26, 3) := by decide +kernel
theorem dX12_layAside_4 : decode cX12_layAside 4 = .ok (.iconst 0, 1) := by decide +kernel
theorem dX12_layAside_5 : decode cX12_layAside 5 = .ok (.aload_n 0, 1) := by decide +kernel
theorem dX12_layAside_6 : decode cX12_layAside 6 = .ok (.getfield 29, 3) := by decide +kernel
theorem dX12_layAside_9 : decode cX12_layAside 9 = .ok (.iconst 0, 1) := by decide +kernel
theorem dX12_layAside_10 : decode cX12_layAside 10 = .ok (.bipush 47, 2) := by decide +kernel
theorem dX12_layAside_12 : decode cX12_layAside 12 = .ok (.invokestatic 128, 3) := by decide +kernel
theorem dX12_layAside_15 : decode cX12_layAside 15 = .ok (.return_, 1) := by decide +kernel
theorem dX12_whenAside_0 : decode cX12_whenAside 0 = .ok (.iconst 0, 1) := by decide +kernel
theorem dX12_whenAside_1 : decode cX12_whenAside 1 = .ok (.istore_n 2, 1) := by decide +kernel
theorem dX12_whenAside_2 : decode cX12_whenAside 2 = .ok (.iload_n 2, 1) := by decide +kernel
theorem dX12_whenAside_3 : decode cX12_whenAside 3 = .ok (.bipush 61, 2) := by decide +kernel
theorem dX12_whenAside_5 : decode cX12_whenAside 5 = .ok (.if_icmp .ge 33, 3) := by decide +kernel
theorem dX12_whenAside_8 : decode cX12_whenAside 8 = .ok (.aload_n 0, 1) := by decide +kernel
theorem dX12_whenAside_9 : decode cX12_whenAside 9 = .ok (.getfield 29, 3) := by decide +kernel
theorem dX12_whenAside_12 : decode cX12_whenAside 12 = .ok (.bipush 20, 2) := by decide +kernel
theorem dX12_whenAside_14 : decode cX12_whenAside 14 = .ok (.iload_n 1, 1) := by decide +kernel
theorem dX12_whenAside_15 : decode cX12_whenAside 15 = .ok (.iadd, 1) := by decide +kernel
theorem dX12_whenAside_16 : decode cX12_whenAside 16 = .ok (.iaload, 1) := by decide +kernel
theorem dX12_whenAside_17 : decode cX12_whenAside 17 = .ok (.iconst 2, 1) := by decide +kernel
theorem dX12_whenAside_18 : decode cX12_whenAside 18 = .ok (.if_icmp .ne 5, 3) := by decide +kernel
theorem dX12_whenAside_21 : decode cX12_whenAside 21 = .ok (.iload_n 2, 1) := by decide +kernel
theorem dX12_whenAside_22 : decode cX12_whenAside 22 = .ok (.ireturn, 1) := by decide +kernel
theorem dX12_whenAside_23 : decode cX12_whenAside 23 = .ok (.aload_n 0, 1) := by decide +kernel
theorem dX12_whenAside_24 : decode cX12_whenAside 24 = .ok (.aload_n 0, 1) := by decide +kernel
theorem dX12_whenAside_25 : decode cX12_whenAside 25 = .ok (.getfield 29, 3) := by decide +kernel
theorem dX12_whenAside_28 : decode cX12_whenAside 28 = .ok (.invokevirtual 179, 3) := by decide +kernel
theorem dX12_whenAside_31 : decode cX12_whenAside 31 = .ok (.istore_n 3, 1) := by decide +kernel
theorem dX12_whenAside_32 : decode cX12_whenAside 32 = .ok (.iinc 2 1, 3) := by decide +kernel
theorem dX12_whenAside_35 : decode cX12_whenAside 35 = .ok (.goto (-33), 3) := by decide +kernel
theorem dX12_whenAside_38 : decode cX12_whenAside 38 = .ok (.bipush 61, 2) := by decide +kernel
theorem dX12_whenAside_40 : decode cX12_whenAside 40 = .ok (.ireturn, 1) := by decide +kernel
theorem dX12_when_0 : decode cX12_when 0 = .ok (.aload_n 0, 1) := by decide +kernel
theorem dX12_when_1 : decode cX12_when 1 = .ok (.invokevirtual 182, 3) := by decide +kernel
theorem dX12_when_4 : decode cX12_when 4 = .ok (.aload_n 0, 1) := by decide +kernel
theorem dX12_when_5 : decode cX12_when 5 = .ok (.iload_n 1, 1) := by decide +kernel
theorem dX12_when_6 : decode cX12_when 6 = .ok (.invokevirtual 185, 3) := by decide +kernel
theorem dX12_when_9 : decode cX12_when 9 = .ok (.istore_n 2, 1) := by decide +kernel
theorem dX12_when_10 : decode cX12_when 10 = .ok (.iload_n 2, 1) := by decide +kernel
theorem dX12_when_11 : decode cX12_when 11 = .ok (.bipush 61, 2) := by decide +kernel
theorem dX12_when_13 : decode cX12_when 13 = .ok (.if_icmp .ne 8, 3) := by decide +kernel
theorem dX12_when_16 : decode cX12_when 16 = .ok (.bipush (-9), 2) := by decide +kernel
theorem dX12_when_18 : decode cX12_when 18 = .ok (.goto 4, 3) := by decide +kernel
theorem dX12_when_21 : decode cX12_when 21 = .ok (.iload_n 2, 1) := by decide +kernel
theorem dX12_when_22 : decode cX12_when 22 = .ok (.ireturn, 1) := by decide +kernel
theorem dX12_sticksFirst_0 : decode cX12_sticksFirst 0 = .ok (.aload_n 0, 1) := by decide +kernel
theorem dX12_sticksFirst_1 : decode cX12_sticksFirst 1 = .ok (.invokevirtual 182, 3) := by decide +kernel
theorem dX12_sticksFirst_4 : decode cX12_sticksFirst 4 = .ok (.iconst 0, 1) := by decide +kernel
theorem dX12_sticksFirst_5 : decode cX12_sticksFirst 5 = .ok (.istore_n 1, 1) := by decide +kernel
theorem dX12_sticksFirst_6 : decode cX12_sticksFirst 6 = .ok (.iload_n 1, 1) := by decide +kernel
theorem dX12_sticksFirst_7 : decode cX12_sticksFirst 7 = .ok (.bipush 61, 2) := by decide +kernel
theorem dX12_sticksFirst_9 : decode cX12_sticksFirst 9 = .ok (.if_icmp .ge 31, 3) := by decide +kernel
theorem dX12_sticksFirst_12 : decode cX12_sticksFirst 12 = .ok (.aload_n 0, 1) := by decide +kernel
theorem dX12_sticksFirst_13 : decode cX12_sticksFirst 13 = .ok (.aload_n 0, 1) := by decide +kernel
theorem dX12_sticksFirst_14 : decode cX12_sticksFirst 14 = .ok (.getfield 29, 3) := by decide +kernel
theorem dX12_sticksFirst_17 : decode cX12_sticksFirst 17 = .ok (.invokevirtual 171, 3) := by decide +kernel
theorem dX12_sticksFirst_20 : decode cX12_sticksFirst 20 = .ok (.ifCond .eq 5, 3) := by decide +kernel
theorem dX12_sticksFirst_23 : decode cX12_sticksFirst 23 = .ok (.iload_n 1, 1) := by decide +kernel
theorem dX12_sticksFirst_24 : decode cX12_sticksFirst 24 = .ok (.ireturn, 1) := by decide +kernel
theorem dX12_sticksFirst_25 : decode cX12_sticksFirst 25 = .ok (.aload_n 0, 1) := by decide +kernel
theorem dX12_sticksFirst_26 : decode cX12_sticksFirst 26 = .ok (.aload_n 0, 1) := by decide +kernel
theorem dX12_sticksFirst_27 : decode cX12_sticksFirst 27 = .ok (.getfield 29, 3) := by decide +kernel
theorem dX12_sticksFirst_30 : decode cX12_sticksFirst 30 = .ok (.invokevirtual 179, 3) := by decide +kernel
theorem dX12_sticksFirst_33 : decode cX12_sticksFirst 33 = .ok (.istore_n 2, 1) := by decide +kernel
theorem dX12_sticksFirst_34 : decode cX12_sticksFirst 34 = .ok (.iinc 1 1, 3) := by decide +kernel
theorem dX12_sticksFirst_37 : decode cX12_sticksFirst 37 = .ok (.goto (-31), 3) := by decide +kernel
theorem dX12_sticksFirst_40 : decode cX12_sticksFirst 40 = .ok (.bipush (-9), 2) := by decide +kernel
theorem dX12_sticksFirst_42 : decode cX12_sticksFirst 42 = .ok (.ireturn, 1) := by decide +kernel
theorem dX12_allOut_0 : decode cX12_allOut 0 = .ok (.aload_n 0, 1) := by decide +kernel
theorem dX12_allOut_1 : decode cX12_allOut 1 = .ok (.invokevirtual 182, 3) := by decide +kernel
theorem dX12_allOut_4 : decode cX12_allOut 4 = .ok (.iconst 0, 1) := by decide +kernel
theorem dX12_allOut_5 : decode cX12_allOut 5 = .ok (.istore_n 1, 1) := by decide +kernel
theorem dX12_allOut_6 : decode cX12_allOut 6 = .ok (.iload_n 1, 1) := by decide +kernel
theorem dX12_allOut_7 : decode cX12_allOut 7 = .ok (.bipush 61, 2) := by decide +kernel
theorem dX12_allOut_9 : decode cX12_allOut 9 = .ok (.if_icmp .ge 40, 3) := by decide +kernel
theorem dX12_allOut_12 : decode cX12_allOut 12 = .ok (.aload_n 0, 1) := by decide +kernel
theorem dX12_allOut_13 : decode cX12_allOut 13 = .ok (.getfield 29, 3) := by decide +kernel
theorem dX12_allOut_16 : decode cX12_allOut 16 = .ok (.iconst 0, 1) := by decide +kernel
theorem dX12_allOut_17 : decode cX12_allOut 17 = .ok (.invokestatic 158, 3) := by decide +kernel
theorem dX12_allOut_20 : decode cX12_allOut 20 = .ok (.aload_n 0, 1) := by decide +kernel
theorem dX12_allOut_21 : decode cX12_allOut 21 = .ok (.getfield 29, 3) := by decide +kernel
theorem dX12_allOut_24 : decode cX12_allOut 24 = .ok (.iconst 1, 1) := by decide +kernel
theorem dX12_allOut_25 : decode cX12_allOut 25 = .ok (.invokestatic 158, 3) := by decide +kernel
theorem dX12_allOut_28 : decode cX12_allOut 28 = .ok (.ior, 1) := by decide +kernel
theorem dX12_allOut_29 : decode cX12_allOut 29 = .ok (.ifCond .ne 5, 3) := by decide +kernel
theorem dX12_allOut_32 : decode cX12_allOut 32 = .ok (.iload_n 1, 1) := by decide +kernel
theorem dX12_allOut_33 : decode cX12_allOut 33 = .ok (.ireturn, 1) := by decide +kernel
theorem dX12_allOut_34 : decode cX12_allOut 34 = .ok (.aload_n 0, 1) := by decide +kernel
theorem dX12_allOut_35 : decode cX12_allOut 35 = .ok (.aload_n 0, 1) := by decide +kernel
theorem dX12_allOut_36 : decode cX12_allOut 36 = .ok (.getfield 29, 3) := by decide +kernel
theorem dX12_allOut_39 : decode cX12_allOut 39 = .ok (.invokevirtual 179, 3) := by decide +kernel
theorem dX12_allOut_42 : decode cX12_allOut 42 = .ok (.istore_n 2, 1) := by decide +kernel
theorem dX12_allOut_43 : decode cX12_allOut 43 = .ok (.iinc 1 1, 3) := by decide +kernel
theorem dX12_allOut_46 : decode cX12_allOut 46 = .ok (.goto (-40), 3) := by decide +kernel
theorem dX12_allOut_49 : decode cX12_allOut 49 = .ok (.bipush (-9), 2) := by decide +kernel
theorem dX12_allOut_51 : decode cX12_allOut 51 = .ok (.ireturn, 1) := by decide +kernel
theorem dX12_sort_0 : decode cX12_sort 0 = .ok (.iload_n 1, 1) := by decide +kernel
theorem dX12_sort_1 : decode cX12_sort 1 = .ok (.i2l, 1) := by decide +kernel
theorem dX12_sort_2 : decode cX12_sort 2 = .ok (.lconst 0, 1) := by decide +kernel
theorem dX12_sort_3 : decode cX12_sort 3 = .ok (.aload_n 0, 1) := by decide +kernel
theorem dX12_sort_4 : decode cX12_sort 4 = .ok (.getfield 125, 3) := by decide +kernel
theorem dX12_sort_7 : decode cX12_sort 7 = .ok (.iconst 1, 1) := by decide +kernel
theorem dX12_sort_8 : decode cX12_sort 8 = .ok (.isub, 1) := by decide +kernel
theorem dX12_sort_9 : decode cX12_sort 9 = .ok (.i2l, 1) := by decide +kernel
theorem dX12_sort_10 : decode cX12_sort 10 = .ok (.invokestatic 56, 3) := by decide +kernel
theorem dX12_sort_13 : decode cX12_sort 13 = .ok (.ifCond .ne 5, 3) := by decide +kernel
theorem dX12_sort_16 : decode cX12_sort 16 = .ok (.iconst (-1), 1) := by decide +kernel
theorem dX12_sort_17 : decode cX12_sort 17 = .ok (.ireturn, 1) := by decide +kernel
theorem dX12_sort_18 : decode cX12_sort 18 = .ok (.iload_n 2, 1) := by decide +kernel
theorem dX12_sort_19 : decode cX12_sort 19 = .ok (.tableswitch 84 0 2 #[25, 32, 39], 25) := by decide +kernel
theorem dX12_sort_44 : decode cX12_sort 44 = .ok (.aload_n 0, 1) := by decide +kernel
theorem dX12_sort_45 : decode cX12_sort 45 = .ok (.getfield 19, 3) := by decide +kernel
theorem dX12_sort_48 : decode cX12_sort 48 = .ok (.iload_n 1, 1) := by decide +kernel
theorem dX12_sort_49 : decode cX12_sort 49 = .ok (.iaload, 1) := by decide +kernel
theorem dX12_sort_50 : decode cX12_sort 50 = .ok (.ireturn, 1) := by decide +kernel
theorem dX12_sort_51 : decode cX12_sort 51 = .ok (.aload_n 0, 1) := by decide +kernel
theorem dX12_sort_52 : decode cX12_sort 52 = .ok (.getfield 23, 3) := by decide +kernel
theorem dX12_sort_55 : decode cX12_sort 55 = .ok (.iload_n 1, 1) := by decide +kernel
theorem dX12_sort_56 : decode cX12_sort 56 = .ok (.iaload, 1) := by decide +kernel
theorem dX12_sort_57 : decode cX12_sort 57 = .ok (.ireturn, 1) := by decide +kernel
theorem dX12_sort_58 : decode cX12_sort 58 = .ok (.iconst 0, 1) := by decide +kernel
theorem dX12_sort_59 : decode cX12_sort 59 = .ok (.istore_n 3, 1) := by decide +kernel
theorem dX12_sort_60 : decode cX12_sort 60 = .ok (.iconst 0, 1) := by decide +kernel
theorem dX12_sort_61 : decode cX12_sort 61 = .ok (.istore 4, 2) := by decide +kernel
theorem dX12_sort_63 : decode cX12_sort 63 = .ok (.iload 4, 2) := by decide +kernel
theorem dX12_sort_65 : decode cX12_sort 65 = .ok (.aload_n 0, 1) := by decide +kernel
theorem dX12_sort_66 : decode cX12_sort 66 = .ok (.getfield 26, 3) := by decide +kernel
theorem dX12_sort_69 : decode cX12_sort 69 = .ok (.iconst 0, 1) := by decide +kernel
theorem dX12_sort_70 : decode cX12_sort 70 = .ok (.iaload, 1) := by decide +kernel
theorem dX12_sort_71 : decode cX12_sort 71 = .ok (.if_icmp .ge 30, 3) := by decide +kernel
theorem dX12_sort_74 : decode cX12_sort 74 = .ok (.iload_n 3, 1) := by decide +kernel
theorem dX12_sort_75 : decode cX12_sort 75 = .ok (.aload_n 0, 1) := by decide +kernel
theorem dX12_sort_76 : decode cX12_sort 76 = .ok (.getfield 26, 3) := by decide +kernel
theorem dX12_sort_79 : decode cX12_sort 79 = .ok (.iconst 2, 1) := by decide +kernel
theorem dX12_sort_80 : decode cX12_sort 80 = .ok (.iload 4, 2) := by decide +kernel
theorem dX12_sort_82 : decode cX12_sort 82 = .ok (.iadd, 1) := by decide +kernel
theorem dX12_sort_83 : decode cX12_sort 83 = .ok (.iaload, 1) := by decide +kernel
theorem dX12_sort_84 : decode cX12_sort 84 = .ok (.iload_n 1, 1) := by decide +kernel
theorem dX12_sort_85 : decode cX12_sort 85 = .ok (.if_icmp .ne 7, 3) := by decide +kernel
theorem dX12_sort_88 : decode cX12_sort 88 = .ok (.iconst 1, 1) := by decide +kernel
theorem dX12_sort_89 : decode cX12_sort 89 = .ok (.goto 4, 3) := by decide +kernel
theorem dX12_sort_92 : decode cX12_sort 92 = .ok (.iconst 0, 1) := by decide +kernel
theorem dX12_sort_93 : decode cX12_sort 93 = .ok (.iadd, 1) := by decide +kernel
theorem dX12_sort_94 : decode cX12_sort 94 = .ok (.istore_n 3, 1) := by decide +kernel
theorem dX12_sort_95 : decode cX12_sort 95 = .ok (.iinc 4 1, 3) := by decide +kernel
end
section
theorem dX12_sort_98 : decode cX12_sort 98 = .ok (.goto (-35), 3) := by decide +kernel
theorem dX12_sort_101 : decode cX12_sort 101 = .ok (.iload_n 3, 1) := by decide +kernel
theorem dX12_sort_102 : decode cX12_sort 102 = .ok (.ireturn, 1) := by decide +kernel
theorem dX12_sort_103 : decode cX12_sort 103 = .ok (.iconst (-1), 1) := by decide +kernel
theorem dX12_sort_104 : decode cX12_sort 104 = .ok (.ireturn, 1) := by decide +kernel
theorem dX12_goer_0 : decode cX12_goer 0 = .ok (.aload_n 0, 1) := by decide +kernel
theorem dX12_goer_1 : decode cX12_goer 1 = .ok (.iload_n 1, 1) := by decide +kernel
theorem dX12_goer_2 : decode cX12_goer 2 = .ok (.invokevirtual 188, 3) := by decide +kernel
theorem dX12_goer_5 : decode cX12_goer 5 = .ok (.ifCond .ne 5, 3) := by decide +kernel
theorem dX12_goer_8 : decode cX12_goer 8 = .ok (.iconst (-1), 1) := by decide +kernel
theorem dX12_goer_9 : decode cX12_goer 9 = .ok (.ireturn, 1) := by decide +kernel
theorem dX12_goer_10 : decode cX12_goer 10 = .ok (.iload_n 2, 1) := by decide +kernel
theorem dX12_goer_11 : decode cX12_goer 11 = .ok (.tableswitch 126 0 5 #[37, 46, 56, 66, 94, 120], 37) := by decide +kernel
theorem dX12_goer_48 : decode cX12_goer 48 = .ok (.aload_n 0, 1) := by decide +kernel
theorem dX12_goer_49 : decode cX12_goer 49 = .ok (.getfield 26, 3) := by decide +kernel
theorem dX12_goer_52 : decode cX12_goer 52 = .ok (.iconst 2, 1) := by decide +kernel
theorem dX12_goer_53 : decode cX12_goer 53 = .ok (.iload_n 1, 1) := by decide +kernel
theorem dX12_goer_54 : decode cX12_goer 54 = .ok (.iadd, 1) := by decide +kernel
theorem dX12_goer_55 : decode cX12_goer 55 = .ok (.iaload, 1) := by decide +kernel
theorem dX12_goer_56 : decode cX12_goer 56 = .ok (.ireturn, 1) := by decide +kernel
theorem dX12_goer_57 : decode cX12_goer 57 = .ok (.aload_n 0, 1) := by decide +kernel
theorem dX12_goer_58 : decode cX12_goer 58 = .ok (.getfield 26, 3) := by decide +kernel
theorem dX12_goer_61 : decode cX12_goer 61 = .ok (.bipush 11, 2) := by decide +kernel
theorem dX12_goer_63 : decode cX12_goer 63 = .ok (.iload_n 1, 1) := by decide +kernel
theorem dX12_goer_64 : decode cX12_goer 64 = .ok (.iadd, 1) := by decide +kernel
theorem dX12_goer_65 : decode cX12_goer 65 = .ok (.iaload, 1) := by decide +kernel
theorem dX12_goer_66 : decode cX12_goer 66 = .ok (.ireturn, 1) := by decide +kernel
theorem dX12_goer_67 : decode cX12_goer 67 = .ok (.aload_n 0, 1) := by decide +kernel
theorem dX12_goer_68 : decode cX12_goer 68 = .ok (.getfield 26, 3) := by decide +kernel
theorem dX12_goer_71 : decode cX12_goer 71 = .ok (.bipush 20, 2) := by decide +kernel
theorem dX12_goer_73 : decode cX12_goer 73 = .ok (.iload_n 1, 1) := by decide +kernel
theorem dX12_goer_74 : decode cX12_goer 74 = .ok (.iadd, 1) := by decide +kernel
theorem dX12_goer_75 : decode cX12_goer 75 = .ok (.iaload, 1) := by decide +kernel
theorem dX12_goer_76 : decode cX12_goer 76 = .ok (.ireturn, 1) := by decide +kernel
theorem dX12_goer_77 : decode cX12_goer 77 = .ok (.aload_n 0, 1) := by decide +kernel
theorem dX12_goer_78 : decode cX12_goer 78 = .ok (.getfield 26, 3) := by decide +kernel
theorem dX12_goer_81 : decode cX12_goer 81 = .ok (.bipush 20, 2) := by decide +kernel
theorem dX12_goer_83 : decode cX12_goer 83 = .ok (.iload_n 1, 1) := by decide +kernel
theorem dX12_goer_84 : decode cX12_goer 84 = .ok (.iadd, 1) := by decide +kernel
theorem dX12_goer_85 : decode cX12_goer 85 = .ok (.iaload, 1) := by decide +kernel
theorem dX12_goer_86 : decode cX12_goer 86 = .ok (.iconst 1, 1) := by decide +kernel
theorem dX12_goer_87 : decode cX12_goer 87 = .ok (.if_icmp .ne 15, 3) := by decide +kernel
theorem dX12_goer_90 : decode cX12_goer 90 = .ok (.aload_n 0, 1) := by decide +kernel
theorem dX12_goer_91 : decode cX12_goer 91 = .ok (.getfield 26, 3) := by decide +kernel
theorem dX12_goer_94 : decode cX12_goer 94 = .ok (.bipush 29, 2) := by decide +kernel
theorem dX12_goer_96 : decode cX12_goer 96 = .ok (.iload_n 1, 1) := by decide +kernel
theorem dX12_goer_97 : decode cX12_goer 97 = .ok (.iadd, 1) := by decide +kernel
theorem dX12_goer_98 : decode cX12_goer 98 = .ok (.iaload, 1) := by decide +kernel
theorem dX12_goer_99 : decode cX12_goer 99 = .ok (.goto 5, 3) := by decide +kernel
theorem dX12_goer_102 : decode cX12_goer 102 = .ok (.bipush (-9), 2) := by decide +kernel
theorem dX12_goer_104 : decode cX12_goer 104 = .ok (.ireturn, 1) := by decide +kernel
theorem dX12_goer_105 : decode cX12_goer 105 = .ok (.aload_n 0, 1) := by decide +kernel
theorem dX12_goer_106 : decode cX12_goer 106 = .ok (.getfield 26, 3) := by decide +kernel
theorem dX12_goer_109 : decode cX12_goer 109 = .ok (.bipush 20, 2) := by decide +kernel
theorem dX12_goer_111 : decode cX12_goer 111 = .ok (.iload_n 1, 1) := by decide +kernel
theorem dX12_goer_112 : decode cX12_goer 112 = .ok (.iadd, 1) := by decide +kernel
theorem dX12_goer_113 : decode cX12_goer 113 = .ok (.iaload, 1) := by decide +kernel
theorem dX12_goer_114 : decode cX12_goer 114 = .ok (.ifCond .ne 14, 3) := by decide +kernel
theorem dX12_goer_117 : decode cX12_goer 117 = .ok (.aload_n 0, 1) := by decide +kernel
theorem dX12_goer_118 : decode cX12_goer 118 = .ok (.getfield 26, 3) := by decide +kernel
theorem dX12_goer_121 : decode cX12_goer 121 = .ok (.iload_n 1, 1) := by decide +kernel
theorem dX12_goer_122 : decode cX12_goer 122 = .ok (.invokestatic 191, 3) := by decide +kernel
theorem dX12_goer_125 : decode cX12_goer 125 = .ok (.goto 5, 3) := by decide +kernel
theorem dX12_goer_128 : decode cX12_goer 128 = .ok (.bipush (-9), 2) := by decide +kernel
theorem dX12_goer_130 : decode cX12_goer 130 = .ok (.ireturn, 1) := by decide +kernel
theorem dX12_goer_131 : decode cX12_goer 131 = .ok (.aload_n 0, 1) := by decide +kernel
theorem dX12_goer_132 : decode cX12_goer 132 = .ok (.iload_n 1, 1) := by decide +kernel
theorem dX12_goer_133 : decode cX12_goer 133 = .ok (.invokevirtual 194, 3) := by decide +kernel
theorem dX12_goer_136 : decode cX12_goer 136 = .ok (.ireturn, 1) := by decide +kernel
theorem dX12_goer_137 : decode cX12_goer 137 = .ok (.iconst (-1), 1) := by decide +kernel
theorem dX12_goer_138 : decode cX12_goer 138 = .ok (.ireturn, 1) := by decide +kernel
theorem dX12_room_0 : decode cX12_room 0 = .ok (.iload_n 1, 1) := by decide +kernel
theorem dX12_room_1 : decode cX12_room 1 = .ok (.i2l, 1) := by decide +kernel
theorem dX12_room_2 : decode cX12_room 2 = .ok (.lconst 0, 1) := by decide +kernel
theorem dX12_room_3 : decode cX12_room 3 = .ok (.aload_n 0, 1) := by decide +kernel
theorem dX12_room_4 : decode cX12_room 4 = .ok (.getfield 7, 3) := by decide +kernel
theorem dX12_room_7 : decode cX12_room 7 = .ok (.iconst 1, 1) := by decide +kernel
theorem dX12_room_8 : decode cX12_room 8 = .ok (.isub, 1) := by decide +kernel
theorem dX12_room_9 : decode cX12_room 9 = .ok (.i2l, 1) := by decide +kernel
theorem dX12_room_10 : decode cX12_room 10 = .ok (.invokestatic 56, 3) := by decide +kernel
theorem dX12_room_13 : decode cX12_room 13 = .ok (.ifCond .eq 10, 3) := by decide +kernel
theorem dX12_room_16 : decode cX12_room 16 = .ok (.iload_n 2, 1) := by decide +kernel
theorem dX12_room_17 : decode cX12_room 17 = .ok (.invokestatic 197, 3) := by decide +kernel
theorem dX12_room_20 : decode cX12_room 20 = .ok (.ifCond .ne 5, 3) := by decide +kernel
theorem dX12_room_23 : decode cX12_room 23 = .ok (.iconst (-1), 1) := by decide +kernel
theorem dX12_room_24 : decode cX12_room 24 = .ok (.ireturn, 1) := by decide +kernel
theorem dX12_room_25 : decode cX12_room 25 = .ok (.iload_n 2, 1) := by decide +kernel
theorem dX12_room_26 : decode cX12_room 26 = .ok (.ifCond .ne 14, 3) := by decide +kernel
theorem dX12_room_29 : decode cX12_room 29 = .ok (.aload_n 0, 1) := by decide +kernel
theorem dX12_room_30 : decode cX12_room 30 = .ok (.getfield 26, 3) := by decide +kernel
theorem dX12_room_33 : decode cX12_room 33 = .ok (.iload_n 1, 1) := by decide +kernel
theorem dX12_room_34 : decode cX12_room 34 = .ok (.invokestatic 138, 3) := by decide +kernel
theorem dX12_room_37 : decode cX12_room 37 = .ok (.goto 12, 3) := by decide +kernel
theorem dX12_room_40 : decode cX12_room 40 = .ok (.aload_n 0, 1) := by decide +kernel
theorem dX12_room_41 : decode cX12_room 41 = .ok (.aload_n 0, 1) := by decide +kernel
theorem dX12_room_42 : decode cX12_room 42 = .ok (.getfield 26, 3) := by decide +kernel
theorem dX12_room_45 : decode cX12_room 45 = .ok (.iload_n 1, 1) := by decide +kernel
theorem dX12_room_46 : decode cX12_room 46 = .ok (.invokevirtual 155, 3) := by decide +kernel
theorem dX12_room_49 : decode cX12_room 49 = .ok (.ireturn, 1) := by decide +kernel
theorem dX12_now_0 : decode cX12_now 0 = .ok (.iload_n 1, 1) := by decide +kernel
theorem dX12_now_1 : decode cX12_now 1 = .ok (.tableswitch 105 0 7 #[47, 54, 63, 72, 81, 90, 95, 100], 47) := by decide +kernel
theorem dX12_now_48 : decode cX12_now 48 = .ok (.aload_n 0, 1) := by decide +kernel
theorem dX12_now_49 : decode cX12_now 49 = .ok (.getfield 26, 3) := by decide +kernel
theorem dX12_now_52 : decode cX12_now 52 = .ok (.iconst 1, 1) := by decide +kernel
theorem dX12_now_53 : decode cX12_now 53 = .ok (.iaload, 1) := by decide +kernel
theorem dX12_now_54 : decode cX12_now 54 = .ok (.ireturn, 1) := by decide +kernel
theorem dX12_now_55 : decode cX12_now 55 = .ok (.aload_n 0, 1) := by decide +kernel
theorem dX12_now_56 : decode cX12_now 56 = .ok (.aload_n 0, 1) := by decide +kernel
theorem dX12_now_57 : decode cX12_now 57 = .ok (.getfield 26, 3) := by decide +kernel
theorem dX12_now_60 : decode cX12_now 60 = .ok (.invokevirtual 164, 3) := by decide +kernel
theorem dX12_now_63 : decode cX12_now 63 = .ok (.ireturn, 1) := by decide +kernel
theorem dX12_now_64 : decode cX12_now 64 = .ok (.aload_n 0, 1) := by decide +kernel
theorem dX12_now_65 : decode cX12_now 65 = .ok (.aload_n 0, 1) := by decide +kernel
theorem dX12_now_66 : decode cX12_now 66 = .ok (.getfield 26, 3) := by decide +kernel
theorem dX12_now_69 : decode cX12_now 69 = .ok (.invokevirtual 168, 3) := by decide +kernel
theorem dX12_now_72 : decode cX12_now 72 = .ok (.ireturn, 1) := by decide +kernel
theorem dX12_now_73 : decode cX12_now 73 = .ok (.aload_n 0, 1) := by decide +kernel
theorem dX12_now_74 : decode cX12_now 74 = .ok (.getfield 26, 3) := by decide +kernel
theorem dX12_now_77 : decode cX12_now 77 = .ok (.iconst 0, 1) := by decide +kernel
theorem dX12_now_78 : decode cX12_now 78 = .ok (.invokestatic 158, 3) := by decide +kernel
theorem dX12_now_81 : decode cX12_now 81 = .ok (.ireturn, 1) := by decide +kernel
theorem dX12_now_82 : decode cX12_now 82 = .ok (.aload_n 0, 1) := by decide +kernel
theorem dX12_now_83 : decode cX12_now 83 = .ok (.getfield 26, 3) := by decide +kernel
theorem dX12_now_86 : decode cX12_now 86 = .ok (.iconst 2, 1) := by decide +kernel
theorem dX12_now_87 : decode cX12_now 87 = .ok (.invokestatic 158, 3) := by decide +kernel
theorem dX12_now_90 : decode cX12_now 90 = .ok (.ireturn, 1) := by decide +kernel
theorem dX12_now_91 : decode cX12_now 91 = .ok (.aload_n 0, 1) := by decide +kernel
theorem dX12_now_92 : decode cX12_now 92 = .ok (.invokevirtual 200, 3) := by decide +kernel
theorem dX12_now_95 : decode cX12_now 95 = .ok (.ireturn, 1) := by decide +kernel
theorem dX12_now_96 : decode cX12_now 96 = .ok (.aload_n 0, 1) := by decide +kernel
theorem dX12_now_97 : decode cX12_now 97 = .ok (.invokevirtual 203, 3) := by decide +kernel
theorem dX12_now_100 : decode cX12_now 100 = .ok (.ireturn, 1) := by decide +kernel
theorem dX12_now_101 : decode cX12_now 101 = .ok (.aload_n 0, 1) := by decide +kernel
theorem dX12_now_102 : decode cX12_now 102 = .ok (.getfield 132, 3) := by decide +kernel
theorem dX12_now_105 : decode cX12_now 105 = .ok (.ireturn, 1) := by decide +kernel
theorem dX12_now_106 : decode cX12_now 106 = .ok (.iconst (-1), 1) := by decide +kernel
theorem dX12_now_107 : decode cX12_now 107 = .ok (.ireturn, 1) := by decide +kernel
theorem dX12_notes_0 : decode cX12_notes 0 = .ok (.aload_n 0, 1) := by decide +kernel
theorem dX12_notes_1 : decode cX12_notes 1 = .ok (.getfield 132, 3) := by decide +kernel
theorem dX12_notes_4 : decode cX12_notes 4 = .ok (.bipush 10, 2) := by decide +kernel
theorem dX12_notes_6 : decode cX12_notes 6 = .ok (.if_icmp .ne 43, 3) := by decide +kernel
theorem dX12_notes_9 : decode cX12_notes 9 = .ok (.iconst 0, 1) := by decide +kernel
theorem dX12_notes_10 : decode cX12_notes 10 = .ok (.istore_n 1, 1) := by decide +kernel
theorem dX12_notes_11 : decode cX12_notes 11 = .ok (.iload_n 1, 1) := by decide +kernel
theorem dX12_notes_12 : decode cX12_notes 12 = .ok (.sipush 423, 3) := by decide +kernel
theorem dX12_notes_15 : decode cX12_notes 15 = .ok (.if_icmp .ge 24, 3) := by decide +kernel
theorem dX12_notes_18 : decode cX12_notes 18 = .ok (.aload_n 0, 1) := by decide +kernel
theorem dX12_notes_19 : decode cX12_notes 19 = .ok (.getfield 32, 3) := by decide +kernel
theorem dX12_notes_22 : decode cX12_notes 22 = .ok (.iload_n 1, 1) := by decide +kernel
theorem dX12_notes_23 : decode cX12_notes 23 = .ok (.aload_n 0, 1) := by decide +kernel
theorem dX12_notes_24 : decode cX12_notes 24 = .ok (.getfield 32, 3) := by decide +kernel
theorem dX12_notes_27 : decode cX12_notes 27 = .ok (.iload_n 1, 1) := by decide +kernel
theorem dX12_notes_28 : decode cX12_notes 28 = .ok (.bipush 47, 2) := by decide +kernel
theorem dX12_notes_30 : decode cX12_notes 30 = .ok (.iadd, 1) := by decide +kernel
theorem dX12_notes_31 : decode cX12_notes 31 = .ok (.iaload, 1) := by decide +kernel
theorem dX12_notes_32 : decode cX12_notes 32 = .ok (.iastore, 1) := by decide +kernel
theorem dX12_notes_33 : decode cX12_notes 33 = .ok (.iinc 1 1, 3) := by decide +kernel
theorem dX12_notes_36 : decode cX12_notes 36 = .ok (.goto (-25), 3) := by decide +kernel
theorem dX12_notes_39 : decode cX12_notes 39 = .ok (.aload_n 0, 1) := by decide +kernel
theorem dX12_notes_40 : decode cX12_notes 40 = .ok (.dup, 1) := by decide +kernel
theorem dX12_notes_41 : decode cX12_notes 41 = .ok (.getfield 132, 3) := by decide +kernel
theorem dX12_notes_44 : decode cX12_notes 44 = .ok (.iconst 1, 1) := by decide +kernel
theorem dX12_notes_45 : decode cX12_notes 45 = .ok (.isub, 1) := by decide +kernel
theorem dX12_notes_46 : decode cX12_notes 46 = .ok (.putfield 132, 3) := by decide +kernel
theorem dX12_notes_49 : decode cX12_notes 49 = .ok (.aload_n 0, 1) := by decide +kernel
theorem dX12_notes_50 : decode cX12_notes 50 = .ok (.getfield 26, 3) := by decide +kernel
theorem dX12_notes_53 : decode cX12_notes 53 = .ok (.iconst 0, 1) := by decide +kernel
theorem dX12_notes_54 : decode cX12_notes 54 = .ok (.aload_n 0, 1) := by decide +kernel
theorem dX12_notes_55 : decode cX12_notes 55 = .ok (.getfield 32, 3) := by decide +kernel
theorem dX12_notes_58 : decode cX12_notes 58 = .ok (.bipush 47, 2) := by decide +kernel
theorem dX12_notes_60 : decode cX12_notes 60 = .ok (.aload_n 0, 1) := by decide +kernel
theorem dX12_notes_61 : decode cX12_notes 61 = .ok (.getfield 132, 3) := by decide +kernel
theorem dX12_notes_64 : decode cX12_notes 64 = .ok (.imul, 1) := by decide +kernel
theorem dX12_notes_65 : decode cX12_notes 65 = .ok (.bipush 47, 2) := by decide +kernel
theorem dX12_notes_67 : decode cX12_notes 67 = .ok (.invokestatic 128, 3) := by decide +kernel
theorem dX12_notes_70 : decode cX12_notes 70 = .ok (.aload_n 0, 1) := by decide +kernel
theorem dX12_notes_71 : decode cX12_notes 71 = .ok (.dup, 1) := by decide +kernel
theorem dX12_notes_72 : decode cX12_notes 72 = .ok (.getfield 132, 3) := by decide +kernel
theorem dX12_notes_75 : decode cX12_notes 75 = .ok (.iconst 1, 1) := by decide +kernel
theorem dX12_notes_76 : decode cX12_notes 76 = .ok (.iadd, 1) := by decide +kernel
theorem dX12_notes_77 : decode cX12_notes 77 = .ok (.putfield 132, 3) := by decide +kernel
theorem dX12_notes_80 : decode cX12_notes 80 = .ok (.return_, 1) := by decide +kernel
theorem dX12_comes_0 : decode cX12_comes 0 = .ok (.iload_n 1, 1) := by decide +kernel
theorem dX12_comes_1 : decode cX12_comes 1 = .ok (.i2l, 1) := by decide +kernel
theorem dX12_comes_2 : decode cX12_comes 2 = .ok (.lconst 0, 1) := by decide +kernel
theorem dX12_comes_3 : decode cX12_comes 3 = .ok (.aload_n 0, 1) := by decide +kernel
theorem dX12_comes_4 : decode cX12_comes 4 = .ok (.getfield 125, 3) := by decide +kernel
theorem dX12_comes_7 : decode cX12_comes 7 = .ok (.iconst 1, 1) := by decide +kernel
theorem dX12_comes_8 : decode cX12_comes 8 = .ok (.isub, 1) := by decide +kernel
theorem dX12_comes_9 : decode cX12_comes 9 = .ok (.i2l, 1) := by decide +kernel
theorem dX12_comes_10 : decode cX12_comes 10 = .ok (.invokestatic 56, 3) := by decide +kernel
theorem dX12_comes_13 : decode cX12_comes 13 = .ok (.ifCond .eq 10, 3) := by decide +kernel
theorem dX12_comes_16 : decode cX12_comes 16 = .ok (.iload_n 2, 1) := by decide +kernel
theorem dX12_comes_17 : decode cX12_comes 17 = .ok (.invokestatic 197, 3) := by decide +kernel
theorem dX12_comes_20 : decode cX12_comes 20 = .ok (.ifCond .ne 5, 3) := by decide +kernel
theorem dX12_comes_23 : decode cX12_comes 23 = .ok (.iconst (-1), 1) := by decide +kernel
theorem dX12_comes_24 : decode cX12_comes 24 = .ok (.ireturn, 1) := by decide +kernel
theorem dX12_comes_25 : decode cX12_comes 25 = .ok (.aload_n 0, 1) := by decide +kernel
theorem dX12_comes_26 : decode cX12_comes 26 = .ok (.getfield 26, 3) := by decide +kernel
theorem dX12_comes_29 : decode cX12_comes 29 = .ok (.iconst 0, 1) := by decide +kernel
theorem dX12_comes_30 : decode cX12_comes 30 = .ok (.iaload, 1) := by decide +kernel
theorem dX12_comes_31 : decode cX12_comes 31 = .ok (.bipush 9, 2) := by decide +kernel
theorem dX12_comes_33 : decode cX12_comes 33 = .ok (.if_icmp .ne 6, 3) := by decide +kernel
theorem dX12_comes_36 : decode cX12_comes 36 = .ok (.bipush (-3), 2) := by decide +kernel
theorem dX12_comes_38 : decode cX12_comes 38 = .ok (.ireturn, 1) := by decide +kernel
theorem dX12_comes_39 : decode cX12_comes 39 = .ok (.aload_n 0, 1) := by decide +kernel
theorem dX12_comes_40 : decode cX12_comes 40 = .ok (.invokevirtual 206, 3) := by decide +kernel
theorem dX12_comes_43 : decode cX12_comes 43 = .ok (.aload_n 0, 1) := by decide +kernel
theorem dX12_comes_44 : decode cX12_comes 44 = .ok (.getfield 26, 3) := by decide +kernel
theorem dX12_comes_47 : decode cX12_comes 47 = .ok (.iconst 0, 1) := by decide +kernel
theorem dX12_comes_48 : decode cX12_comes 48 = .ok (.iaload, 1) := by decide +kernel
theorem dX12_comes_49 : decode cX12_comes 49 = .ok (.istore_n 3, 1) := by decide +kernel
theorem dX12_comes_50 : decode cX12_comes 50 = .ok (.iconst 0, 1) := by decide +kernel
theorem dX12_comes_51 : decode cX12_comes 51 = .ok (.istore 4, 2) := by decide +kernel
theorem dX12_comes_53 : decode cX12_comes 53 = .ok (.iconst 0, 1) := by decide +kernel
theorem dX12_comes_54 : decode cX12_comes 54 = .ok (.istore 5, 2) := by decide +kernel
theorem dX12_comes_56 : decode cX12_comes 56 = .ok (.iload 5, 2) := by decide +kernel
theorem dX12_comes_58 : decode cX12_comes 58 = .ok (.iload_n 3, 1) := by decide +kernel
theorem dX12_comes_59 : decode cX12_comes 59 = .ok (.if_icmp .ge 41, 3) := by decide +kernel
theorem dX12_comes_62 : decode cX12_comes 62 = .ok (.aload_n 0, 1) := by decide +kernel
theorem dX12_comes_63 : decode cX12_comes 63 = .ok (.getfield 26, 3) := by decide +kernel
theorem dX12_comes_66 : decode cX12_comes 66 = .ok (.bipush 38, 2) := by decide +kernel
theorem dX12_comes_68 : decode cX12_comes 68 = .ok (.iload 5, 2) := by decide +kernel
theorem dX12_comes_70 : decode cX12_comes 70 = .ok (.iadd, 1) := by decide +kernel
theorem dX12_comes_71 : decode cX12_comes 71 = .ok (.iaload, 1) := by decide +kernel
theorem dX12_comes_72 : decode cX12_comes 72 = .ok (.iload 4, 2) := by decide +kernel
theorem dX12_comes_74 : decode cX12_comes 74 = .ok (.if_icmp .le 16, 3) := by decide +kernel
theorem dX12_comes_77 : decode cX12_comes 77 = .ok (.aload_n 0, 1) := by decide +kernel
theorem dX12_comes_78 : decode cX12_comes 78 = .ok (.getfield 26, 3) := by decide +kernel
theorem dX12_comes_81 : decode cX12_comes 81 = .ok (.bipush 38, 2) := by decide +kernel
theorem dX12_comes_83 : decode cX12_comes 83 = .ok (.iload 5, 2) := by decide +kernel
theorem dX12_comes_85 : decode cX12_comes 85 = .ok (.iadd, 1) := by decide +kernel
theorem dX12_comes_86 : decode cX12_comes 86 = .ok (.iaload, 1) := by decide +kernel
theorem dX12_comes_87 : decode cX12_comes 87 = .ok (.goto 5, 3) := by decide +kernel
theorem dX12_comes_90 : decode cX12_comes 90 = .ok (.iload 4, 2) := by decide +kernel
theorem dX12_comes_92 : decode cX12_comes 92 = .ok (.istore 4, 2) := by decide +kernel
theorem dX12_comes_94 : decode cX12_comes 94 = .ok (.iinc 5 1, 3) := by decide +kernel
theorem dX12_comes_97 : decode cX12_comes 97 = .ok (.goto (-41), 3) := by decide +kernel
theorem dX12_comes_100 : decode cX12_comes 100 = .ok (.aload_n 0, 1) := by decide +kernel
theorem dX12_comes_101 : decode cX12_comes 101 = .ok (.getfield 26, 3) := by decide +kernel
theorem dX12_comes_104 : decode cX12_comes 104 = .ok (.iconst 2, 1) := by decide +kernel
theorem dX12_comes_105 : decode cX12_comes 105 = .ok (.iload_n 3, 1) := by decide +kernel
theorem dX12_comes_106 : decode cX12_comes 106 = .ok (.iadd, 1) := by decide +kernel
theorem dX12_comes_107 : decode cX12_comes 107 = .ok (.iload_n 1, 1) := by decide +kernel
theorem dX12_comes_108 : decode cX12_comes 108 = .ok (.iastore, 1) := by decide +kernel
theorem dX12_comes_109 : decode cX12_comes 109 = .ok (.aload_n 0, 1) := by decide +kernel
theorem dX12_comes_110 : decode cX12_comes 110 = .ok (.getfield 26, 3) := by decide +kernel
theorem dX12_comes_113 : decode cX12_comes 113 = .ok (.bipush 11, 2) := by decide +kernel
theorem dX12_comes_115 : decode cX12_comes 115 = .ok (.iload_n 3, 1) := by decide +kernel
theorem dX12_comes_116 : decode cX12_comes 116 = .ok (.iadd, 1) := by decide +kernel
theorem dX12_comes_117 : decode cX12_comes 117 = .ok (.iload_n 2, 1) := by decide +kernel
theorem dX12_comes_118 : decode cX12_comes 118 = .ok (.iastore, 1) := by decide +kernel
theorem dX12_comes_119 : decode cX12_comes 119 = .ok (.aload_n 0, 1) := by decide +kernel
theorem dX12_comes_120 : decode cX12_comes 120 = .ok (.getfield 26, 3) := by decide +kernel
theorem dX12_comes_123 : decode cX12_comes 123 = .ok (.bipush 20, 2) := by decide +kernel
theorem dX12_comes_125 : decode cX12_comes 125 = .ok (.iload_n 3, 1) := by decide +kernel
theorem dX12_comes_126 : decode cX12_comes 126 = .ok (.iadd, 1) := by decide +kernel
theorem dX12_comes_127 : decode cX12_comes 127 = .ok (.iconst 0, 1) := by decide +kernel
theorem dX12_comes_128 : decode cX12_comes 128 = .ok (.iastore, 1) := by decide +kernel
theorem dX12_comes_129 : decode cX12_comes 129 = .ok (.aload_n 0, 1) := by decide +kernel
theorem dX12_comes_130 : decode cX12_comes 130 = .ok (.getfield 26, 3) := by decide +kernel
theorem dX12_comes_133 : decode cX12_comes 133 = .ok (.bipush 29, 2) := by decide +kernel
theorem dX12_comes_135 : decode cX12_comes 135 = .ok (.iload_n 3, 1) := by decide +kernel
theorem dX12_comes_136 : decode cX12_comes 136 = .ok (.iadd, 1) := by decide +kernel
theorem dX12_comes_137 : decode cX12_comes 137 = .ok (.iconst 0, 1) := by decide +kernel
theorem dX12_comes_138 : decode cX12_comes 138 = .ok (.iastore, 1) := by decide +kernel
theorem dX12_comes_139 : decode cX12_comes 139 = .ok (.aload_n 0, 1) := by decide +kernel
theorem dX12_comes_140 : decode cX12_comes 140 = .ok (.getfield 26, 3) := by decide +kernel
theorem dX12_comes_143 : decode cX12_comes 143 = .ok (.bipush 38, 2) := by decide +kernel
theorem dX12_comes_145 : decode cX12_comes 145 = .ok (.iload_n 3, 1) := by decide +kernel
theorem dX12_comes_146 : decode cX12_comes 146 = .ok (.iadd, 1) := by decide +kernel
theorem dX12_comes_147 : decode cX12_comes 147 = .ok (.iload 4, 2) := by decide +kernel
theorem dX12_comes_149 : decode cX12_comes 149 = .ok (.iconst 1, 1) := by decide +kernel
theorem dX12_comes_150 : decode cX12_comes 150 = .ok (.iadd, 1) := by decide +kernel
theorem dX12_comes_151 : decode cX12_comes 151 = .ok (.iastore, 1) := by decide +kernel
theorem dX12_comes_152 : decode cX12_comes 152 = .ok (.aload_n 0, 1) := by decide +kernel
theorem dX12_comes_153 : decode cX12_comes 153 = .ok (.getfield 26, 3) := by decide +kernel
theorem dX12_comes_156 : decode cX12_comes 156 = .ok (.iconst 0, 1) := by decide +kernel
theorem dX12_comes_157 : decode cX12_comes 157 = .ok (.dup2, 1) := by decide +kernel
theorem dX12_comes_158 : decode cX12_comes 158 = .ok (.iaload, 1) := by decide +kernel
theorem dX12_comes_159 : decode cX12_comes 159 = .ok (.iconst 1, 1) := by decide +kernel
theorem dX12_comes_160 : decode cX12_comes 160 = .ok (.iadd, 1) := by decide +kernel
theorem dX12_comes_161 : decode cX12_comes 161 = .ok (.iastore, 1) := by decide +kernel
theorem dX12_comes_162 : decode cX12_comes 162 = .ok (.aload_n 0, 1) := by decide +kernel
theorem dX12_comes_163 : decode cX12_comes 163 = .ok (.aload_n 0, 1) := by decide +kernel
theorem dX12_comes_164 : decode cX12_comes 164 = .ok (.getfield 26, 3) := by decide +kernel
theorem dX12_comes_167 : decode cX12_comes 167 = .ok (.invokevirtual 175, 3) := by decide +kernel
theorem dX12_comes_170 : decode cX12_comes 170 = .ok (.iload_n 3, 1) := by decide +kernel
theorem dX12_comes_171 : decode cX12_comes 171 = .ok (.ireturn, 1) := by decide +kernel
theorem dX12_steps_0 : decode cX12_steps 0 = .ok (.aload_n 0, 1) := by decide +kernel
theorem dX12_steps_1 : decode cX12_steps 1 = .ok (.getfield 26, 3) := by decide +kernel
theorem dX12_steps_4 : decode cX12_steps 4 = .ok (.iconst 1, 1) := by decide +kernel
theorem dX12_steps_5 : decode cX12_steps 5 = .ok (.iaload, 1) := by decide +kernel
theorem dX12_steps_6 : decode cX12_steps 6 = .ok (.sipush 999, 3) := by decide +kernel
theorem dX12_steps_9 : decode cX12_steps 9 = .ok (.if_icmp .ne 6, 3) := by decide +kernel
theorem dX12_steps_12 : decode cX12_steps 12 = .ok (.bipush (-2), 2) := by decide +kernel
theorem dX12_steps_14 : decode cX12_steps 14 = .ok (.ireturn, 1) := by decide +kernel
theorem dX12_steps_15 : decode cX12_steps 15 = .ok (.aload_n 0, 1) := by decide +kernel
theorem dX12_steps_16 : decode cX12_steps 16 = .ok (.invokevirtual 206, 3) := by decide +kernel
theorem dX12_steps_19 : decode cX12_steps 19 = .ok (.aload_n 0, 1) := by decide +kernel
theorem dX12_steps_20 : decode cX12_steps 20 = .ok (.aload_n 0, 1) := by decide +kernel
theorem dX12_steps_21 : decode cX12_steps 21 = .ok (.getfield 26, 3) := by decide +kernel
theorem dX12_steps_24 : decode cX12_steps 24 = .ok (.invokevirtual 179, 3) := by decide +kernel
theorem dX12_steps_27 : decode cX12_steps 27 = .ok (.ireturn, 1) := by decide +kernel
theorem dX12_leavesOn_0 : decode cX12_leavesOn 0 = .ok (.aload_n 0, 1) := by decide +kernel
theorem dX12_leavesOn_1 : decode cX12_leavesOn 1 = .ok (.bipush 20, 2) := by decide +kernel
theorem dX12_leavesOn_3 : decode cX12_leavesOn 3 = .ok (.iload_n 1, 1) := by decide +kernel
theorem dX12_leavesOn_4 : decode cX12_leavesOn 4 = .ok (.iadd, 1) := by decide +kernel
theorem dX12_leavesOn_5 : decode cX12_leavesOn 5 = .ok (.iconst 3, 1) := by decide +kernel
theorem dX12_leavesOn_6 : decode cX12_leavesOn 6 = .ok (.iastore, 1) := by decide +kernel
theorem dX12_leavesOn_7 : decode cX12_leavesOn 7 = .ok (.return_, 1) := by decide +kernel
theorem dX12_leaves_0 : decode cX12_leaves 0 = .ok (.aload_n 0, 1) := by decide +kernel
theorem dX12_leaves_1 : decode cX12_leaves 1 = .ok (.iload_n 1, 1) := by decide +kernel
theorem dX12_leaves_2 : decode cX12_leaves 2 = .ok (.invokevirtual 188, 3) := by decide +kernel
theorem dX12_leaves_5 : decode cX12_leaves 5 = .ok (.ifCond .ne 5, 3) := by decide +kernel
theorem dX12_leaves_8 : decode cX12_leaves 8 = .ok (.iconst (-1), 1) := by decide +kernel
theorem dX12_leaves_9 : decode cX12_leaves 9 = .ok (.ireturn, 1) := by decide +kernel
theorem dX12_leaves_10 : decode cX12_leaves 10 = .ok (.aload_n 0, 1) := by decide +kernel
theorem dX12_leaves_11 : decode cX12_leaves 11 = .ok (.getfield 26, 3) := by decide +kernel
theorem dX12_leaves_14 : decode cX12_leaves 14 = .ok (.bipush 20, 2) := by decide +kernel
theorem dX12_leaves_16 : decode cX12_leaves 16 = .ok (.iload_n 1, 1) := by decide +kernel
theorem dX12_leaves_17 : decode cX12_leaves 17 = .ok (.iadd, 1) := by decide +kernel
theorem dX12_leaves_18 : decode cX12_leaves 18 = .ok (.iaload, 1) := by decide +kernel
theorem dX12_leaves_19 : decode cX12_leaves 19 = .ok (.ifCond .eq 6, 3) := by decide +kernel
theorem dX12_leaves_22 : decode cX12_leaves 22 = .ok (.bipush (-2), 2) := by decide +kernel
theorem dX12_leaves_24 : decode cX12_leaves 24 = .ok (.ireturn, 1) := by decide +kernel
theorem dX12_leaves_25 : decode cX12_leaves 25 = .ok (.aload_n 0, 1) := by decide +kernel
theorem dX12_leaves_26 : decode cX12_leaves 26 = .ok (.invokevirtual 206, 3) := by decide +kernel
theorem dX12_leaves_29 : decode cX12_leaves 29 = .ok (.aload_n 0, 1) := by decide +kernel
theorem dX12_leaves_30 : decode cX12_leaves 30 = .ok (.getfield 26, 3) := by decide +kernel
theorem dX12_leaves_33 : decode cX12_leaves 33 = .ok (.iload_n 1, 1) := by decide +kernel
theorem dX12_leaves_34 : decode cX12_leaves 34 = .ok (.invokestatic 209, 3) := by decide +kernel
theorem dX12_leaves_37 : decode cX12_leaves 37 = .ok (.aload_n 0, 1) := by decide +kernel
theorem dX12_leaves_38 : decode cX12_leaves 38 = .ok (.aload_n 0, 1) := by decide +kernel
theorem dX12_leaves_39 : decode cX12_leaves 39 = .ok (.getfield 26, 3) := by decide +kernel
theorem dX12_leaves_42 : decode cX12_leaves 42 = .ok (.invokevirtual 175, 3) := by decide +kernel
theorem dX12_leaves_45 : decode cX12_leaves 45 = .ok (.aload_n 0, 1) := by decide +kernel
theorem dX12_leaves_46 : decode cX12_leaves 46 = .ok (.getfield 26, 3) := by decide +kernel
theorem dX12_leaves_49 : decode cX12_leaves 49 = .ok (.iconst 0, 1) := by decide +kernel
theorem dX12_leaves_50 : decode cX12_leaves 50 = .ok (.invokestatic 158, 3) := by decide +kernel
theorem dX12_leaves_53 : decode cX12_leaves 53 = .ok (.invokestatic 161, 3) := by decide +kernel
theorem dX12_leaves_56 : decode cX12_leaves 56 = .ok (.ireturn, 1) := by decide +kernel
theorem dX12_letsOn_0 : decode cX12_letsOn 0 = .ok (.aload_n 0, 1) := by decide +kernel
theorem dX12_letsOn_1 : decode cX12_letsOn 1 = .ok (.bipush 38, 2) := by decide +kernel
theorem dX12_letsOn_3 : decode cX12_letsOn 3 = .ok (.iload_n 1, 1) := by decide +kernel
theorem dX12_letsOn_4 : decode cX12_letsOn 4 = .ok (.iadd, 1) := by decide +kernel
theorem dX12_letsOn_5 : decode cX12_letsOn 5 = .ok (.aload_n 0, 1) := by decide +kernel
theorem dX12_letsOn_6 : decode cX12_letsOn 6 = .ok (.bipush 38, 2) := by decide +kernel
theorem dX12_letsOn_8 : decode cX12_letsOn 8 = .ok (.aload_n 0, 1) := by decide +kernel
theorem dX12_letsOn_9 : decode cX12_letsOn 9 = .ok (.aload_n 0, 1) := by decide +kernel
theorem dX12_letsOn_10 : decode cX12_letsOn 10 = .ok (.bipush 11, 2) := by decide +kernel
theorem dX12_letsOn_12 : decode cX12_letsOn 12 = .ok (.iload_n 1, 1) := by decide +kernel
theorem dX12_letsOn_13 : decode cX12_letsOn 13 = .ok (.iadd, 1) := by decide +kernel
theorem dX12_letsOn_14 : decode cX12_letsOn 14 = .ok (.iaload, 1) := by decide +kernel
theorem dX12_letsOn_15 : decode cX12_letsOn 15 = .ok (.invokestatic 148, 3) := by decide +kernel
theorem dX12_letsOn_18 : decode cX12_letsOn 18 = .ok (.iadd, 1) := by decide +kernel
theorem dX12_letsOn_19 : decode cX12_letsOn 19 = .ok (.iaload, 1) := by decide +kernel
theorem dX12_letsOn_20 : decode cX12_letsOn 20 = .ok (.iconst 1, 1) := by decide +kernel
theorem dX12_letsOn_21 : decode cX12_letsOn 21 = .ok (.isub, 1) := by decide +kernel
theorem dX12_letsOn_22 : decode cX12_letsOn 22 = .ok (.iastore, 1) := by decide +kernel
theorem dX12_letsOn_23 : decode cX12_letsOn 23 = .ok (.return_, 1) := by decide +kernel
theorem dX12_lets_0 : decode cX12_lets 0 = .ok (.aload_n 0, 1) := by decide +kernel
theorem dX12_lets_1 : decode cX12_lets 1 = .ok (.iload_n 1, 1) := by decide +kernel
theorem dX12_lets_2 : decode cX12_lets 2 = .ok (.invokevirtual 188, 3) := by decide +kernel
theorem dX12_lets_5 : decode cX12_lets 5 = .ok (.ifCond .ne 5, 3) := by decide +kernel
theorem dX12_lets_8 : decode cX12_lets 8 = .ok (.iconst (-1), 1) := by decide +kernel
theorem dX12_lets_9 : decode cX12_lets 9 = .ok (.ireturn, 1) := by decide +kernel
theorem dX12_lets_10 : decode cX12_lets 10 = .ok (.aload_n 0, 1) := by decide +kernel
theorem dX12_lets_11 : decode cX12_lets 11 = .ok (.getfield 26, 3) := by decide +kernel
theorem dX12_lets_14 : decode cX12_lets 14 = .ok (.iload_n 1, 1) := by decide +kernel
theorem dX12_lets_15 : decode cX12_lets 15 = .ok (.invokestatic 191, 3) := by decide +kernel
theorem dX12_lets_18 : decode cX12_lets 18 = .ok (.istore_n 2, 1) := by decide +kernel
theorem dX12_lets_19 : decode cX12_lets 19 = .ok (.aload_n 0, 1) := by decide +kernel
theorem dX12_lets_20 : decode cX12_lets 20 = .ok (.getfield 26, 3) := by decide +kernel
theorem dX12_lets_23 : decode cX12_lets 23 = .ok (.bipush 20, 2) := by decide +kernel
theorem dX12_lets_25 : decode cX12_lets 25 = .ok (.iload_n 1, 1) := by decide +kernel
theorem dX12_lets_26 : decode cX12_lets 26 = .ok (.iadd, 1) := by decide +kernel
theorem dX12_lets_27 : decode cX12_lets 27 = .ok (.iaload, 1) := by decide +kernel
theorem dX12_lets_28 : decode cX12_lets 28 = .ok (.ifCond .ne 7, 3) := by decide +kernel
theorem dX12_lets_31 : decode cX12_lets 31 = .ok (.iload_n 2, 1) := by decide +kernel
theorem dX12_lets_32 : decode cX12_lets 32 = .ok (.ifCond .ne 6, 3) := by decide +kernel
theorem dX12_lets_35 : decode cX12_lets 35 = .ok (.bipush (-2), 2) := by decide +kernel
theorem dX12_lets_37 : decode cX12_lets 37 = .ok (.ireturn, 1) := by decide +kernel
theorem dX12_lets_38 : decode cX12_lets 38 = .ok (.aload_n 0, 1) := by decide +kernel
theorem dX12_lets_39 : decode cX12_lets 39 = .ok (.invokevirtual 206, 3) := by decide +kernel
theorem dX12_lets_42 : decode cX12_lets 42 = .ok (.aload_n 0, 1) := by decide +kernel
theorem dX12_lets_43 : decode cX12_lets 43 = .ok (.getfield 26, 3) := by decide +kernel
theorem dX12_lets_46 : decode cX12_lets 46 = .ok (.iload_n 1, 1) := by decide +kernel
theorem dX12_lets_47 : decode cX12_lets 47 = .ok (.invokestatic 213, 3) := by decide +kernel
theorem dX12_lets_50 : decode cX12_lets 50 = .ok (.aload_n 0, 1) := by decide +kernel
theorem dX12_lets_51 : decode cX12_lets 51 = .ok (.aload_n 0, 1) := by decide +kernel
theorem dX12_lets_52 : decode cX12_lets 52 = .ok (.getfield 26, 3) := by decide +kernel
theorem dX12_lets_55 : decode cX12_lets 55 = .ok (.invokevirtual 175, 3) := by decide +kernel
theorem dX12_lets_58 : decode cX12_lets 58 = .ok (.iload_n 2, 1) := by decide +kernel
theorem dX12_lets_59 : decode cX12_lets 59 = .ok (.ireturn, 1) := by decide +kernel
theorem dX12_undo_0 : decode cX12_undo 0 = .ok (.aload_n 0, 1) := by decide +kernel
theorem dX12_undo_1 : decode cX12_undo 1 = .ok (.getfield 132, 3) := by decide +kernel
theorem dX12_undo_4 : decode cX12_undo 4 = .ok (.ifCond .ne 6, 3) := by decide +kernel
theorem dX12_undo_7 : decode cX12_undo 7 = .ok (.bipush (-2), 2) := by decide +kernel
theorem dX12_undo_9 : decode cX12_undo 9 = .ok (.ireturn, 1) := by decide +kernel
theorem dX12_undo_10 : decode cX12_undo 10 = .ok (.aload_n 0, 1) := by decide +kernel
theorem dX12_undo_11 : decode cX12_undo 11 = .ok (.dup, 1) := by decide +kernel
theorem dX12_undo_12 : decode cX12_undo 12 = .ok (.getfield 132, 3) := by decide +kernel
theorem dX12_undo_15 : decode cX12_undo 15 = .ok (.iconst 1, 1) := by decide +kernel
theorem dX12_undo_16 : decode cX12_undo 16 = .ok (.isub, 1) := by decide +kernel
theorem dX12_undo_17 : decode cX12_undo 17 = .ok (.putfield 132, 3) := by decide +kernel
theorem dX12_undo_20 : decode cX12_undo 20 = .ok (.aload_n 0, 1) := by decide +kernel
theorem dX12_undo_21 : decode cX12_undo 21 = .ok (.getfield 32, 3) := by decide +kernel
theorem dX12_undo_24 : decode cX12_undo 24 = .ok (.bipush 47, 2) := by decide +kernel
theorem dX12_undo_26 : decode cX12_undo 26 = .ok (.aload_n 0, 1) := by decide +kernel
theorem dX12_undo_27 : decode cX12_undo 27 = .ok (.getfield 132, 3) := by decide +kernel
theorem dX12_undo_30 : decode cX12_undo 30 = .ok (.imul, 1) := by decide +kernel
theorem dX12_undo_31 : decode cX12_undo 31 = .ok (.aload_n 0, 1) := by decide +kernel
theorem dX12_undo_32 : decode cX12_undo 32 = .ok (.getfield 26, 3) := by decide +kernel
theorem dX12_undo_35 : decode cX12_undo 35 = .ok (.iconst 0, 1) := by decide +kernel
theorem dX12_undo_36 : decode cX12_undo 36 = .ok (.bipush 47, 2) := by decide +kernel
theorem dX12_undo_38 : decode cX12_undo 38 = .ok (.invokestatic 128, 3) := by decide +kernel
theorem dX12_undo_41 : decode cX12_undo 41 = .ok (.aload_n 0, 1) := by decide +kernel
theorem dX12_undo_42 : decode cX12_undo 42 = .ok (.getfield 132, 3) := by decide +kernel
theorem dX12_undo_45 : decode cX12_undo 45 = .ok (.ireturn, 1) := by decide +kernel
theorem dX12_best_0 : decode cX12_best 0 = .ok (.aload_n 0, 1) := by decide +kernel
theorem dX12_best_1 : decode cX12_best 1 = .ok (.invokevirtual 182, 3) := by decide +kernel
theorem dX12_best_4 : decode cX12_best 4 = .ok (.aload_n 0, 1) := by decide +kernel
theorem dX12_best_5 : decode cX12_best 5 = .ok (.iload_n 1, 1) := by decide +kernel
theorem dX12_best_6 : decode cX12_best 6 = .ok (.invokevirtual 185, 3) := by decide +kernel
theorem dX12_best_9 : decode cX12_best 9 = .ok (.istore_n 3, 1) := by decide +kernel
theorem dX12_best_10 : decode cX12_best 10 = .ok (.bipush (-9), 2) := by decide +kernel
theorem dX12_best_12 : decode cX12_best 12 = .ok (.istore 4, 2) := by decide +kernel
theorem dX12_best_14 : decode cX12_best 14 = .ok (.iconst 0, 1) := by decide +kernel
theorem dX12_best_15 : decode cX12_best 15 = .ok (.istore 5, 2) := by decide +kernel
theorem dX12_best_17 : decode cX12_best 17 = .ok (.iload 5, 2) := by decide +kernel
theorem dX12_best_19 : decode cX12_best 19 = .ok (.aload_n 0, 1) := by decide +kernel
theorem dX12_best_20 : decode cX12_best 20 = .ok (.getfield 26, 3) := by decide +kernel
theorem dX12_best_23 : decode cX12_best 23 = .ok (.iconst 0, 1) := by decide +kernel
theorem dX12_best_24 : decode cX12_best 24 = .ok (.iaload, 1) := by decide +kernel
theorem dX12_best_25 : decode cX12_best 25 = .ok (.if_icmp .ge 116, 3) := by decide +kernel
theorem dX12_best_28 : decode cX12_best 28 = .ok (.iload 5, 2) := by decide +kernel
theorem dX12_best_30 : decode cX12_best 30 = .ok (.iload_n 1, 1) := by decide +kernel
theorem dX12_best_31 : decode cX12_best 31 = .ok (.if_icmp .eq 104, 3) := by decide +kernel
theorem dX12_best_34 : decode cX12_best 34 = .ok (.aload_n 0, 1) := by decide +kernel
theorem dX12_best_35 : decode cX12_best 35 = .ok (.getfield 26, 3) := by decide +kernel
theorem dX12_best_38 : decode cX12_best 38 = .ok (.bipush 20, 2) := by decide +kernel
theorem dX12_best_40 : decode cX12_best 40 = .ok (.iload 5, 2) := by decide +kernel
theorem dX12_best_42 : decode cX12_best 42 = .ok (.iadd, 1) := by decide +kernel
theorem dX12_best_43 : decode cX12_best 43 = .ok (.iaload, 1) := by decide +kernel
theorem dX12_best_44 : decode cX12_best 44 = .ok (.ifCond .ne 91, 3) := by decide +kernel
theorem dX12_best_47 : decode cX12_best 47 = .ok (.iload_n 2, 1) := by decide +kernel
theorem dX12_best_48 : decode cX12_best 48 = .ok (.ifCond .ne 15, 3) := by decide +kernel
theorem dX12_best_51 : decode cX12_best 51 = .ok (.aload_n 0, 1) := by decide +kernel
theorem dX12_best_52 : decode cX12_best 52 = .ok (.getfield 26, 3) := by decide +kernel
theorem dX12_best_55 : decode cX12_best 55 = .ok (.iload 5, 2) := by decide +kernel
theorem dX12_best_57 : decode cX12_best 57 = .ok (.invokestatic 191, 3) := by decide +kernel
theorem dX12_best_60 : decode cX12_best 60 = .ok (.ifCond .le 75, 3) := by decide +kernel
theorem dX12_best_63 : decode cX12_best 63 = .ok (.aload_n 0, 1) := by decide +kernel
theorem dX12_best_64 : decode cX12_best 64 = .ok (.invokevirtual 182, 3) := by decide +kernel
theorem dX12_best_67 : decode cX12_best 67 = .ok (.iload_n 2, 1) := by decide +kernel
theorem dX12_best_68 : decode cX12_best 68 = .ok (.ifCond .eq 15, 3) := by decide +kernel
theorem dX12_best_71 : decode cX12_best 71 = .ok (.aload_n 0, 1) := by decide +kernel
theorem dX12_best_72 : decode cX12_best 72 = .ok (.getfield 29, 3) := by decide +kernel
theorem dX12_best_75 : decode cX12_best 75 = .ok (.iload 5, 2) := by decide +kernel
theorem dX12_best_77 : decode cX12_best 77 = .ok (.invokestatic 209, 3) := by decide +kernel
theorem dX12_best_80 : decode cX12_best 80 = .ok (.goto 12, 3) := by decide +kernel
theorem dX12_best_83 : decode cX12_best 83 = .ok (.aload_n 0, 1) := by decide +kernel
theorem dX12_best_84 : decode cX12_best 84 = .ok (.getfield 29, 3) := by decide +kernel
theorem dX12_best_87 : decode cX12_best 87 = .ok (.iload 5, 2) := by decide +kernel
theorem dX12_best_89 : decode cX12_best 89 = .ok (.invokestatic 213, 3) := by decide +kernel
theorem dX12_best_92 : decode cX12_best 92 = .ok (.aload_n 0, 1) := by decide +kernel
theorem dX12_best_93 : decode cX12_best 93 = .ok (.aload_n 0, 1) := by decide +kernel
theorem dX12_best_94 : decode cX12_best 94 = .ok (.getfield 29, 3) := by decide +kernel
theorem dX12_best_97 : decode cX12_best 97 = .ok (.invokevirtual 175, 3) := by decide +kernel
theorem dX12_best_100 : decode cX12_best 100 = .ok (.aload_n 0, 1) := by decide +kernel
theorem dX12_best_101 : decode cX12_best 101 = .ok (.iload_n 1, 1) := by decide +kernel
theorem dX12_best_102 : decode cX12_best 102 = .ok (.invokevirtual 185, 3) := by decide +kernel
theorem dX12_best_105 : decode cX12_best 105 = .ok (.istore 6, 2) := by decide +kernel
theorem dX12_best_107 : decode cX12_best 107 = .ok (.iload 6, 2) := by decide +kernel
theorem dX12_best_109 : decode cX12_best 109 = .ok (.iload_n 3, 1) := by decide +kernel
theorem dX12_best_110 : decode cX12_best 110 = .ok (.if_icmp .ge 8, 3) := by decide +kernel
theorem dX12_best_113 : decode cX12_best 113 = .ok (.iload 5, 2) := by decide +kernel
theorem dX12_best_115 : decode cX12_best 115 = .ok (.goto 5, 3) := by decide +kernel
theorem dX12_best_118 : decode cX12_best 118 = .ok (.iload 4, 2) := by decide +kernel
theorem dX12_best_120 : decode cX12_best 120 = .ok (.istore 4, 2) := by decide +kernel
theorem dX12_best_122 : decode cX12_best 122 = .ok (.iload 6, 2) := by decide +kernel
theorem dX12_best_124 : decode cX12_best 124 = .ok (.iload_n 3, 1) := by decide +kernel
theorem dX12_best_125 : decode cX12_best 125 = .ok (.if_icmp .ge 8, 3) := by decide +kernel
theorem dX12_best_128 : decode cX12_best 128 = .ok (.iload 6, 2) := by decide +kernel
theorem dX12_best_130 : decode cX12_best 130 = .ok (.goto 4, 3) := by decide +kernel
theorem dX12_best_133 : decode cX12_best 133 = .ok (.iload_n 3, 1) := by decide +kernel
theorem dX12_best_134 : decode cX12_best 134 = .ok (.istore_n 3, 1) := by decide +kernel
theorem dX12_best_135 : decode cX12_best 135 = .ok (.iinc 5 1, 3) := by decide +kernel
theorem dX12_best_138 : decode cX12_best 138 = .ok (.goto (-121), 3) := by decide +kernel
theorem dX12_best_141 : decode cX12_best 141 = .ok (.iload 4, 2) := by decide +kernel
theorem dX12_best_143 : decode cX12_best 143 = .ok (.ireturn, 1) := by decide +kernel
theorem dX12_spare_0 : decode cX12_spare 0 = .ok (.aload_n 0, 1) := by decide +kernel
theorem dX12_spare_1 : decode cX12_spare 1 = .ok (.iload_n 1, 1) := by decide +kernel
theorem dX12_spare_2 : decode cX12_spare 2 = .ok (.invokevirtual 188, 3) := by decide +kernel
theorem dX12_spare_5 : decode cX12_spare 5 = .ok (.ifCond .eq 12, 3) := by decide +kernel
theorem dX12_spare_8 : decode cX12_spare 8 = .ok (.aload_n 0, 1) := by decide +kernel
theorem dX12_spare_9 : decode cX12_spare 9 = .ok (.iload_n 1, 1) := by decide +kernel
theorem dX12_spare_10 : decode cX12_spare 10 = .ok (.iconst 1, 1) := by decide +kernel
theorem dX12_spare_11 : decode cX12_spare 11 = .ok (.invokevirtual 216, 3) := by decide +kernel
theorem dX12_spare_14 : decode cX12_spare 14 = .ok (.goto 4, 3) := by decide +kernel
theorem dX12_spare_17 : decode cX12_spare 17 = .ok (.iconst (-1), 1) := by decide +kernel
theorem dX12_spare_18 : decode cX12_spare 18 = .ok (.ireturn, 1) := by decide +kernel
theorem dX12_ahead_0 : decode cX12_ahead 0 = .ok (.aload_n 0, 1) := by decide +kernel
theorem dX12_ahead_1 : decode cX12_ahead 1 = .ok (.iload_n 1, 1) := by decide +kernel
theorem dX12_ahead_2 : decode cX12_ahead 2 = .ok (.invokevirtual 188, 3) := by decide +kernel
theorem dX12_ahead_5 : decode cX12_ahead 5 = .ok (.ifCond .eq 12, 3) := by decide +kernel
theorem dX12_ahead_8 : decode cX12_ahead 8 = .ok (.aload_n 0, 1) := by decide +kernel
theorem dX12_ahead_9 : decode cX12_ahead 9 = .ok (.iload_n 1, 1) := by decide +kernel
theorem dX12_ahead_10 : decode cX12_ahead 10 = .ok (.iconst 0, 1) := by decide +kernel
theorem dX12_ahead_11 : decode cX12_ahead 11 = .ok (.invokevirtual 216, 3) := by decide +kernel
theorem dX12_ahead_14 : decode cX12_ahead 14 = .ok (.goto 4, 3) := by decide +kernel
theorem dX12_ahead_17 : decode cX12_ahead 17 = .ok (.iconst (-1), 1) := by decide +kernel
theorem dX12_ahead_18 : decode cX12_ahead 18 = .ok (.ireturn, 1) := by decide +kernel
theorem dX12_power_0 : decode cX12_power 0 = .ok (.lconst 1, 1) := by decide +kernel
theorem dX12_power_1 : decode cX12_power 1 = .ok (.lstore_n 3, 1) := by decide +kernel
theorem dX12_power_2 : decode cX12_power 2 = .ok (.iconst 0, 1) := by decide +kernel
theorem dX12_power_3 : decode cX12_power 3 = .ok (.istore 5, 2) := by decide +kernel
theorem dX12_power_5 : decode cX12_power 5 = .ok (.iload 5, 2) := by decide +kernel
theorem dX12_power_7 : decode cX12_power 7 = .ok (.iload_n 2, 1) := by decide +kernel
theorem dX12_power_8 : decode cX12_power 8 = .ok (.if_icmp .ge 13, 3) := by decide +kernel
theorem dX12_power_11 : decode cX12_power 11 = .ok (.lload_n 3, 1) := by decide +kernel
theorem dX12_power_12 : decode cX12_power 12 = .ok (.lload_n 0, 1) := by decide +kernel
theorem dX12_power_13 : decode cX12_power 13 = .ok (.lmul, 1) := by decide +kernel
theorem dX12_power_14 : decode cX12_power 14 = .ok (.lstore_n 3, 1) := by decide +kernel
theorem dX12_power_15 : decode cX12_power 15 = .ok (.iinc 5 1, 3) := by decide +kernel
theorem dX12_power_18 : decode cX12_power 18 = .ok (.goto (-13), 3) := by decide +kernel
theorem dX12_power_21 : decode cX12_power 21 = .ok (.lload_n 3, 1) := by decide +kernel
theorem dX12_power_22 : decode cX12_power 22 = .ok (.lreturn, 1) := by decide +kernel
theorem dX12_odds_0 : decode cX12_odds 0 = .ok (.iload_n 1, 1) := by decide +kernel
theorem dX12_odds_1 : decode cX12_odds 1 = .ok (.i2l, 1) := by decide +kernel
theorem dX12_odds_2 : decode cX12_odds 2 = .ok (.lconst 0, 1) := by decide +kernel
theorem dX12_odds_3 : decode cX12_odds 3 = .ok (.ldc2_w 220, 3) := by decide +kernel
theorem dX12_odds_6 : decode cX12_odds 6 = .ok (.invokestatic 56, 3) := by decide +kernel
theorem dX12_odds_9 : decode cX12_odds 9 = .ok (.ifCond .eq 10, 3) := by decide +kernel
theorem dX12_odds_12 : decode cX12_odds 12 = .ok (.iload_n 2, 1) := by decide +kernel
theorem dX12_odds_13 : decode cX12_odds 13 = .ok (.invokestatic 197, 3) := by decide +kernel
theorem dX12_odds_16 : decode cX12_odds 16 = .ok (.ifCond .ne 5, 3) := by decide +kernel
theorem dX12_odds_19 : decode cX12_odds 19 = .ok (.iconst (-1), 1) := by decide +kernel
theorem dX12_odds_20 : decode cX12_odds 20 = .ok (.ireturn, 1) := by decide +kernel
theorem dX12_odds_21 : decode cX12_odds 21 = .ok (.aload_n 0, 1) := by decide +kernel
theorem dX12_odds_22 : decode cX12_odds 22 = .ok (.getfield 26, 3) := by decide +kernel
theorem dX12_odds_25 : decode cX12_odds 25 = .ok (.iconst 1, 1) := by decide +kernel
theorem dX12_odds_26 : decode cX12_odds 26 = .ok (.invokestatic 158, 3) := by decide +kernel
theorem dX12_odds_29 : decode cX12_odds 29 = .ok (.istore_n 3, 1) := by decide +kernel
theorem dX12_odds_30 : decode cX12_odds 30 = .ok (.iload_n 3, 1) := by decide +kernel
theorem dX12_odds_31 : decode cX12_odds 31 = .ok (.invokestatic 161, 3) := by decide +kernel
theorem dX12_odds_34 : decode cX12_odds 34 = .ok (.istore 4, 2) := by decide +kernel
theorem dX12_odds_36 : decode cX12_odds 36 = .ok (.iload 4, 2) := by decide +kernel
theorem dX12_odds_38 : decode cX12_odds 38 = .ok (.ifCond .ne 5, 3) := by decide +kernel
theorem dX12_odds_41 : decode cX12_odds 41 = .ok (.iload_n 2, 1) := by decide +kernel
theorem dX12_odds_42 : decode cX12_odds 42 = .ok (.ireturn, 1) := by decide +kernel
theorem dX12_odds_43 : decode cX12_odds 43 = .ok (.aload_n 0, 1) := by decide +kernel
theorem dX12_odds_44 : decode cX12_odds 44 = .ok (.aload_n 0, 1) := by decide +kernel
theorem dX12_odds_45 : decode cX12_odds 45 = .ok (.getfield 26, 3) := by decide +kernel
theorem dX12_odds_48 : decode cX12_odds 48 = .ok (.invokevirtual 168, 3) := by decide +kernel
theorem dX12_odds_51 : decode cX12_odds 51 = .ok (.istore 5, 2) := by decide +kernel
theorem dX12_odds_53 : decode cX12_odds 53 = .ok (.lconst 0, 1) := by decide +kernel
theorem dX12_odds_54 : decode cX12_odds 54 = .ok (.lstore 6, 2) := by decide +kernel
theorem dX12_odds_56 : decode cX12_odds 56 = .ok (.iconst 0, 1) := by decide +kernel
theorem dX12_odds_57 : decode cX12_odds 57 = .ok (.istore 8, 2) := by decide +kernel
theorem dX12_odds_59 : decode cX12_odds 59 = .ok (.iload 8, 2) := by decide +kernel
theorem dX12_odds_61 : decode cX12_odds 61 = .ok (.sipush 512, 3) := by decide +kernel
theorem dX12_odds_64 : decode cX12_odds 64 = .ok (.if_icmp .ge 117, 3) := by decide +kernel
theorem dX12_odds_67 : decode cX12_odds 67 = .ok (.iload 8, 2) := by decide +kernel
theorem dX12_odds_69 : decode cX12_odds 69 = .ok (.iload_n 3, 1) := by decide +kernel
theorem dX12_odds_70 : decode cX12_odds 70 = .ok (.iconst (-1), 1) := by decide +kernel
theorem dX12_odds_71 : decode cX12_odds 71 = .ok (.ixor, 1) := by decide +kernel
theorem dX12_odds_72 : decode cX12_odds 72 = .ok (.iand, 1) := by decide +kernel
theorem dX12_odds_73 : decode cX12_odds 73 = .ok (.ifCond .ne 102, 3) := by decide +kernel
theorem dX12_odds_76 : decode cX12_odds 76 = .ok (.iconst 0, 1) := by decide +kernel
theorem dX12_odds_77 : decode cX12_odds 77 = .ok (.istore 9, 2) := by decide +kernel
theorem dX12_odds_79 : decode cX12_odds 79 = .ok (.iconst 0, 1) := by decide +kernel
theorem dX12_odds_80 : decode cX12_odds 80 = .ok (.istore 10, 2) := by decide +kernel
theorem dX12_odds_82 : decode cX12_odds 82 = .ok (.iload 10, 2) := by decide +kernel
theorem dX12_odds_84 : decode cX12_odds 84 = .ok (.aload_n 0, 1) := by decide +kernel
theorem dX12_odds_85 : decode cX12_odds 85 = .ok (.getfield 26, 3) := by decide +kernel
theorem dX12_odds_88 : decode cX12_odds 88 = .ok (.iconst 0, 1) := by decide +kernel
theorem dX12_odds_89 : decode cX12_odds 89 = .ok (.iaload, 1) := by decide +kernel
theorem dX12_odds_90 : decode cX12_odds 90 = .ok (.if_icmp .ge 42, 3) := by decide +kernel
theorem dX12_odds_93 : decode cX12_odds 93 = .ok (.iload 9, 2) := by decide +kernel
theorem dX12_odds_95 : decode cX12_odds 95 = .ok (.iload 8, 2) := by decide +kernel
theorem dX12_odds_97 : decode cX12_odds 97 = .ok (.iload 10, 2) := by decide +kernel
theorem dX12_odds_99 : decode cX12_odds 99 = .ok (.invokestatic 142, 3) := by decide +kernel
theorem dX12_odds_102 : decode cX12_odds 102 = .ok (.ifCond .eq 20, 3) := by decide +kernel
theorem dX12_odds_105 : decode cX12_odds 105 = .ok (.aload_n 0, 1) := by decide +kernel
theorem dX12_odds_106 : decode cX12_odds 106 = .ok (.getfield 23, 3) := by decide +kernel
theorem dX12_odds_109 : decode cX12_odds 109 = .ok (.aload_n 0, 1) := by decide +kernel
theorem dX12_odds_110 : decode cX12_odds 110 = .ok (.getfield 26, 3) := by decide +kernel
theorem dX12_odds_113 : decode cX12_odds 113 = .ok (.iconst 2, 1) := by decide +kernel
theorem dX12_odds_114 : decode cX12_odds 114 = .ok (.iload 10, 2) := by decide +kernel
theorem dX12_odds_116 : decode cX12_odds 116 = .ok (.iadd, 1) := by decide +kernel
theorem dX12_odds_117 : decode cX12_odds 117 = .ok (.iaload, 1) := by decide +kernel
theorem dX12_odds_118 : decode cX12_odds 118 = .ok (.iaload, 1) := by decide +kernel
theorem dX12_odds_119 : decode cX12_odds 119 = .ok (.goto 4, 3) := by decide +kernel
theorem dX12_odds_122 : decode cX12_odds 122 = .ok (.iconst 0, 1) := by decide +kernel
theorem dX12_odds_123 : decode cX12_odds 123 = .ok (.iadd, 1) := by decide +kernel
theorem dX12_odds_124 : decode cX12_odds 124 = .ok (.istore 9, 2) := by decide +kernel
theorem dX12_odds_126 : decode cX12_odds 126 = .ok (.iinc 10 1, 3) := by decide +kernel
theorem dX12_odds_129 : decode cX12_odds 129 = .ok (.goto (-47), 3) := by decide +kernel
theorem dX12_odds_132 : decode cX12_odds 132 = .ok (.lload 6, 2) := by decide +kernel
theorem dX12_odds_134 : decode cX12_odds 134 = .ok (.iload 9, 2) := by decide +kernel
theorem dX12_odds_136 : decode cX12_odds 136 = .ok (.iload 5, 2) := by decide +kernel
theorem dX12_odds_138 : decode cX12_odds 138 = .ok (.if_icmp .ge 7, 3) := by decide +kernel
theorem dX12_odds_141 : decode cX12_odds 141 = .ok (.lconst 0, 1) := by decide +kernel
theorem dX12_odds_142 : decode cX12_odds 142 = .ok (.goto 30, 3) := by decide +kernel
theorem dX12_odds_145 : decode cX12_odds 145 = .ok (.bipush 10, 2) := by decide +kernel
theorem dX12_odds_147 : decode cX12_odds 147 = .ok (.iload_n 1, 1) := by decide +kernel
theorem dX12_odds_148 : decode cX12_odds 148 = .ok (.isub, 1) := by decide +kernel
theorem dX12_odds_149 : decode cX12_odds 149 = .ok (.i2l, 1) := by decide +kernel
theorem dX12_odds_150 : decode cX12_odds 150 = .ok (.iload 8, 2) := by decide +kernel
theorem dX12_odds_152 : decode cX12_odds 152 = .ok (.invokestatic 161, 3) := by decide +kernel
theorem dX12_odds_155 : decode cX12_odds 155 = .ok (.invokestatic 222, 3) := by decide +kernel
theorem dX12_odds_158 : decode cX12_odds 158 = .ok (.iload_n 1, 1) := by decide +kernel
theorem dX12_odds_159 : decode cX12_odds 159 = .ok (.i2l, 1) := by decide +kernel
theorem dX12_odds_160 : decode cX12_odds 160 = .ok (.iload 4, 2) := by decide +kernel
theorem dX12_odds_162 : decode cX12_odds 162 = .ok (.iload 8, 2) := by decide +kernel
theorem dX12_odds_164 : decode cX12_odds 164 = .ok (.invokestatic 161, 3) := by decide +kernel
theorem dX12_odds_167 : decode cX12_odds 167 = .ok (.isub, 1) := by decide +kernel
theorem dX12_odds_168 : decode cX12_odds 168 = .ok (.invokestatic 222, 3) := by decide +kernel
theorem dX12_odds_171 : decode cX12_odds 171 = .ok (.lmul, 1) := by decide +kernel
theorem dX12_odds_172 : decode cX12_odds 172 = .ok (.ladd, 1) := by decide +kernel
theorem dX12_odds_173 : decode cX12_odds 173 = .ok (.lstore 6, 2) := by decide +kernel
theorem dX12_odds_175 : decode cX12_odds 175 = .ok (.iinc 8 1, 3) := by decide +kernel
theorem dX12_odds_178 : decode cX12_odds 178 = .ok (.goto (-119), 3) := by decide +kernel
theorem dX12_odds_181 : decode cX12_odds 181 = .ok (.ldc2_w 220, 3) := by decide +kernel
theorem dX12_odds_184 : decode cX12_odds 184 = .ok (.iload 4, 2) := by decide +kernel
theorem dX12_odds_186 : decode cX12_odds 186 = .ok (.invokestatic 222, 3) := by decide +kernel
theorem dX12_odds_189 : decode cX12_odds 189 = .ok (.lstore 8, 2) := by decide +kernel
theorem dX12_odds_191 : decode cX12_odds 191 = .ok (.lload 6, 2) := by decide +kernel
theorem dX12_odds_193 : decode cX12_odds 193 = .ok (.lstore 10, 2) := by decide +kernel
theorem dX12_odds_195 : decode cX12_odds 195 = .ok (.lload 8, 2) := by decide +kernel
theorem dX12_odds_197 : decode cX12_odds 197 = .ok (.lstore 12, 2) := by decide +kernel
theorem dX12_odds_199 : decode cX12_odds 199 = .ok (.lload 12, 2) := by decide +kernel
theorem dX12_odds_201 : decode cX12_odds 201 = .ok (.lconst 0, 1) := by decide +kernel
theorem dX12_odds_202 : decode cX12_odds 202 = .ok (.lcmp, 1) := by decide +kernel
theorem dX12_odds_203 : decode cX12_odds 203 = .ok (.ifCond .eq 21, 3) := by decide +kernel
theorem dX12_odds_206 : decode cX12_odds 206 = .ok (.lload 10, 2) := by decide +kernel
theorem dX12_odds_208 : decode cX12_odds 208 = .ok (.lload 12, 2) := by decide +kernel
theorem dX12_odds_210 : decode cX12_odds 210 = .ok (.lrem, 1) := by decide +kernel
theorem dX12_odds_211 : decode cX12_odds 211 = .ok (.lstore 14, 2) := by decide +kernel
theorem dX12_odds_213 : decode cX12_odds 213 = .ok (.lload 12, 2) := by decide +kernel
theorem dX12_odds_215 : decode cX12_odds 215 = .ok (.lstore 10, 2) := by decide +kernel
theorem dX12_odds_217 : decode cX12_odds 217 = .ok (.lload 14, 2) := by decide +kernel
theorem dX12_odds_219 : decode cX12_odds 219 = .ok (.lstore 12, 2) := by decide +kernel
theorem dX12_odds_221 : decode cX12_odds 221 = .ok (.goto (-22), 3) := by decide +kernel
theorem dX12_odds_224 : decode cX12_odds 224 = .ok (.iload_n 2, 1) := by decide +kernel
theorem dX12_odds_225 : decode cX12_odds 225 = .ok (.ifCond .ne 8, 3) := by decide +kernel
theorem dX12_odds_228 : decode cX12_odds 228 = .ok (.lload 6, 2) := by decide +kernel
theorem dX12_odds_230 : decode cX12_odds 230 = .ok (.goto 5, 3) := by decide +kernel
theorem dX12_odds_233 : decode cX12_odds 233 = .ok (.lload 8, 2) := by decide +kernel
theorem dX12_odds_235 : decode cX12_odds 235 = .ok (.lload 10, 2) := by decide +kernel
theorem dX12_odds_237 : decode cX12_odds 237 = .ok (.ldiv, 1) := by decide +kernel
theorem dX12_odds_238 : decode cX12_odds 238 = .ok (.l2i, 1) := by decide +kernel
theorem dX12_odds_239 : decode cX12_odds 239 = .ok (.ireturn, 1) := by decide +kernel
theorem dX12_sees_0 : decode cX12_sees 0 = .ok (.iload_n 1, 1) := by decide +kernel
theorem dX12_sees_1 : decode cX12_sees 1 = .ok (.invokestatic 197, 3) := by decide +kernel
theorem dX12_sees_4 : decode cX12_sees 4 = .ok (.ifCond .eq 41, 3) := by decide +kernel
theorem dX12_sees_7 : decode cX12_sees 7 = .ok (.iload_n 1, 1) := by decide +kernel
theorem dX12_sees_8 : decode cX12_sees 8 = .ok (.ifCond .ne 18, 3) := by decide +kernel
theorem dX12_sees_11 : decode cX12_sees 11 = .ok (.iload_n 2, 1) := by decide +kernel
theorem dX12_sees_12 : decode cX12_sees 12 = .ok (.i2l, 1) := by decide +kernel
theorem dX12_sees_13 : decode cX12_sees 13 = .ok (.lconst 1, 1) := by decide +kernel
theorem dX12_sees_14 : decode cX12_sees 14 = .ok (.ldc2_w 226, 3) := by decide +kernel
theorem dX12_sees_17 : decode cX12_sees 17 = .ok (.invokestatic 56, 3) := by decide +kernel
theorem dX12_sees_20 : decode cX12_sees 20 = .ok (.ifCond .eq 25, 3) := by decide +kernel
theorem dX12_sees_23 : decode cX12_sees 23 = .ok (.goto 15, 3) := by decide +kernel
theorem dX12_sees_26 : decode cX12_sees 26 = .ok (.iload_n 2, 1) := by decide +kernel
theorem dX12_sees_27 : decode cX12_sees 27 = .ok (.i2l, 1) := by decide +kernel
theorem dX12_sees_28 : decode cX12_sees 28 = .ok (.lconst 0, 1) := by decide +kernel
theorem dX12_sees_29 : decode cX12_sees 29 = .ok (.ldc2_w 228, 3) := by decide +kernel
theorem dX12_sees_32 : decode cX12_sees 32 = .ok (.invokestatic 56, 3) := by decide +kernel
theorem dX12_sees_35 : decode cX12_sees 35 = .ok (.ifCond .eq 10, 3) := by decide +kernel
theorem dX12_sees_38 : decode cX12_sees 38 = .ok (.iload_n 3, 1) := by decide +kernel
theorem dX12_sees_39 : decode cX12_sees 39 = .ok (.invokestatic 197, 3) := by decide +kernel
theorem dX12_sees_42 : decode cX12_sees 42 = .ok (.ifCond .ne 5, 3) := by decide +kernel
theorem dX12_sees_45 : decode cX12_sees 45 = .ok (.iconst (-1), 1) := by decide +kernel
theorem dX12_sees_46 : decode cX12_sees 46 = .ok (.ireturn, 1) := by decide +kernel
theorem dX12_sees_47 : decode cX12_sees 47 = .ok (.aload_n 0, 1) := by decide +kernel
theorem dX12_sees_48 : decode cX12_sees 48 = .ok (.getfield 135, 3) := by decide +kernel
theorem dX12_sees_51 : decode cX12_sees 51 = .ok (.bipush 6, 2) := by decide +kernel
theorem dX12_sees_53 : decode cX12_sees 53 = .ok (.if_icmp .ne 6, 3) := by decide +kernel
theorem dX12_sees_56 : decode cX12_sees 56 = .ok (.bipush (-3), 2) := by decide +kernel
theorem dX12_sees_58 : decode cX12_sees 58 = .ok (.ireturn, 1) := by decide +kernel
theorem dX12_sees_59 : decode cX12_sees 59 = .ok (.aload_n 0, 1) := by decide +kernel
theorem dX12_sees_60 : decode cX12_sees 60 = .ok (.getfield 42, 3) := by decide +kernel
theorem dX12_sees_63 : decode cX12_sees 63 = .ok (.iconst 3, 1) := by decide +kernel
theorem dX12_sees_64 : decode cX12_sees 64 = .ok (.aload_n 0, 1) := by decide +kernel
theorem dX12_sees_65 : decode cX12_sees 65 = .ok (.getfield 135, 3) := by decide +kernel
theorem dX12_sees_68 : decode cX12_sees 68 = .ok (.imul, 1) := by decide +kernel
theorem dX12_sees_69 : decode cX12_sees 69 = .ok (.iload_n 1, 1) := by decide +kernel
theorem dX12_sees_70 : decode cX12_sees 70 = .ok (.iastore, 1) := by decide +kernel
theorem dX12_sees_71 : decode cX12_sees 71 = .ok (.aload_n 0, 1) := by decide +kernel
theorem dX12_sees_72 : decode cX12_sees 72 = .ok (.getfield 42, 3) := by decide +kernel
theorem dX12_sees_75 : decode cX12_sees 75 = .ok (.iconst 3, 1) := by decide +kernel
theorem dX12_sees_76 : decode cX12_sees 76 = .ok (.aload_n 0, 1) := by decide +kernel
theorem dX12_sees_77 : decode cX12_sees 77 = .ok (.getfield 135, 3) := by decide +kernel
theorem dX12_sees_80 : decode cX12_sees 80 = .ok (.imul, 1) := by decide +kernel
theorem dX12_sees_81 : decode cX12_sees 81 = .ok (.iconst 1, 1) := by decide +kernel
theorem dX12_sees_82 : decode cX12_sees 82 = .ok (.iadd, 1) := by decide +kernel
theorem dX12_sees_83 : decode cX12_sees 83 = .ok (.iload_n 2, 1) := by decide +kernel
theorem dX12_sees_84 : decode cX12_sees 84 = .ok (.iastore, 1) := by decide +kernel
theorem dX12_sees_85 : decode cX12_sees 85 = .ok (.aload_n 0, 1) := by decide +kernel
theorem dX12_sees_86 : decode cX12_sees 86 = .ok (.getfield 42, 3) := by decide +kernel
theorem dX12_sees_89 : decode cX12_sees 89 = .ok (.iconst 3, 1) := by decide +kernel
theorem dX12_sees_90 : decode cX12_sees 90 = .ok (.aload_n 0, 1) := by decide +kernel
theorem dX12_sees_91 : decode cX12_sees 91 = .ok (.getfield 135, 3) := by decide +kernel
theorem dX12_sees_94 : decode cX12_sees 94 = .ok (.imul, 1) := by decide +kernel
theorem dX12_sees_95 : decode cX12_sees 95 = .ok (.iconst 2, 1) := by decide +kernel
theorem dX12_sees_96 : decode cX12_sees 96 = .ok (.iadd, 1) := by decide +kernel
theorem dX12_sees_97 : decode cX12_sees 97 = .ok (.iload_n 3, 1) := by decide +kernel
theorem dX12_sees_98 : decode cX12_sees 98 = .ok (.iastore, 1) := by decide +kernel
theorem dX12_sees_99 : decode cX12_sees 99 = .ok (.aload_n 0, 1) := by decide +kernel
theorem dX12_sees_100 : decode cX12_sees 100 = .ok (.dup, 1) := by decide +kernel
theorem dX12_sees_101 : decode cX12_sees 101 = .ok (.getfield 135, 3) := by decide +kernel
theorem dX12_sees_104 : decode cX12_sees 104 = .ok (.iconst 1, 1) := by decide +kernel
theorem dX12_sees_105 : decode cX12_sees 105 = .ok (.iadd, 1) := by decide +kernel
theorem dX12_sees_106 : decode cX12_sees 106 = .ok (.putfield 135, 3) := by decide +kernel
theorem dX12_sees_109 : decode cX12_sees 109 = .ok (.aload_n 0, 1) := by decide +kernel
theorem dX12_sees_110 : decode cX12_sees 110 = .ok (.getfield 135, 3) := by decide +kernel
theorem dX12_sees_113 : decode cX12_sees 113 = .ok (.ireturn, 1) := by decide +kernel
theorem dX12_forget_0 : decode cX12_forget 0 = .ok (.aload_n 0, 1) := by decide +kernel
theorem dX12_forget_1 : decode cX12_forget 1 = .ok (.getfield 135, 3) := by decide +kernel
theorem dX12_forget_4 : decode cX12_forget 4 = .ok (.istore_n 1, 1) := by decide +kernel
theorem dX12_forget_5 : decode cX12_forget 5 = .ok (.aload_n 0, 1) := by decide +kernel
theorem dX12_forget_6 : decode cX12_forget 6 = .ok (.iconst 0, 1) := by decide +kernel
theorem dX12_forget_7 : decode cX12_forget 7 = .ok (.putfield 135, 3) := by decide +kernel
theorem dX12_forget_10 : decode cX12_forget 10 = .ok (.iload_n 1, 1) := by decide +kernel
theorem dX12_forget_11 : decode cX12_forget 11 = .ok (.ireturn, 1) := by decide +kernel
theorem dX12_of_0 : decode cX12_of 0 = .ok (.iload_n 2, 1) := by decide +kernel
theorem dX12_of_1 : decode cX12_of 1 = .ok (.ifCond .ne 12, 3) := by decide +kernel
theorem dX12_of_4 : decode cX12_of 4 = .ok (.aload_n 0, 1) := by decide +kernel
theorem dX12_of_5 : decode cX12_of 5 = .ok (.getfield 19, 3) := by decide +kernel
theorem dX12_of_8 : decode cX12_of 8 = .ok (.iload_n 1, 1) := by decide +kernel
theorem dX12_of_9 : decode cX12_of 9 = .ok (.iaload, 1) := by decide +kernel
theorem dX12_of_10 : decode cX12_of 10 = .ok (.goto 9, 3) := by decide +kernel
theorem dX12_of_13 : decode cX12_of 13 = .ok (.aload_n 0, 1) := by decide +kernel
theorem dX12_of_14 : decode cX12_of 14 = .ok (.getfield 23, 3) := by decide +kernel
theorem dX12_of_17 : decode cX12_of 17 = .ok (.iload_n 1, 1) := by decide +kernel
theorem dX12_of_18 : decode cX12_of 18 = .ok (.iaload, 1) := by decide +kernel
theorem dX12_of_19 : decode cX12_of 19 = .ok (.ireturn, 1) := by decide +kernel
theorem dX12_which_0 : decode cX12_which 0 = .ok (.iconst 0, 1) := by decide +kernel
theorem dX12_which_1 : decode cX12_which 1 = .ok (.istore_n 1, 1) := by decide +kernel
theorem dX12_which_2 : decode cX12_which 2 = .ok (.iconst 0, 1) := by decide +kernel
theorem dX12_which_3 : decode cX12_which 3 = .ok (.istore_n 2, 1) := by decide +kernel
theorem dX12_which_4 : decode cX12_which 4 = .ok (.iload_n 2, 1) := by decide +kernel
theorem dX12_which_5 : decode cX12_which 5 = .ok (.aload_n 0, 1) := by decide +kernel
theorem dX12_which_6 : decode cX12_which 6 = .ok (.getfield 125, 3) := by decide +kernel
theorem dX12_which_9 : decode cX12_which 9 = .ok (.if_icmp .ge 105, 3) := by decide +kernel
theorem dX12_which_12 : decode cX12_which 12 = .ok (.iconst 1, 1) := by decide +kernel
theorem dX12_which_13 : decode cX12_which 13 = .ok (.istore_n 3, 1) := by decide +kernel
theorem dX12_which_14 : decode cX12_which 14 = .ok (.iconst 0, 1) := by decide +kernel
theorem dX12_which_15 : decode cX12_which 15 = .ok (.istore 4, 2) := by decide +kernel
theorem dX12_which_17 : decode cX12_which 17 = .ok (.iload 4, 2) := by decide +kernel
theorem dX12_which_19 : decode cX12_which 19 = .ok (.iconst 3, 1) := by decide +kernel
theorem dX12_which_20 : decode cX12_which 20 = .ok (.aload_n 0, 1) := by decide +kernel
theorem dX12_which_21 : decode cX12_which 21 = .ok (.getfield 135, 3) := by decide +kernel
theorem dX12_which_24 : decode cX12_which 24 = .ok (.imul, 1) := by decide +kernel
theorem dX12_which_25 : decode cX12_which 25 = .ok (.if_icmp .ge 69, 3) := by decide +kernel
theorem dX12_which_28 : decode cX12_which 28 = .ok (.iload_n 3, 1) := by decide +kernel
theorem dX12_which_29 : decode cX12_which 29 = .ok (.ifCond .eq 57, 3) := by decide +kernel
theorem dX12_which_32 : decode cX12_which 32 = .ok (.aload_n 0, 1) := by decide +kernel
theorem dX12_which_33 : decode cX12_which 33 = .ok (.iload_n 2, 1) := by decide +kernel
theorem dX12_which_34 : decode cX12_which 34 = .ok (.aload_n 0, 1) := by decide +kernel
theorem dX12_which_35 : decode cX12_which 35 = .ok (.getfield 42, 3) := by decide +kernel
theorem dX12_which_38 : decode cX12_which 38 = .ok (.iload 4, 2) := by decide +kernel
theorem dX12_which_40 : decode cX12_which 40 = .ok (.iaload, 1) := by decide +kernel
theorem dX12_which_41 : decode cX12_which 41 = .ok (.invokevirtual 230, 3) := by decide +kernel
theorem dX12_which_44 : decode cX12_which 44 = .ok (.aload_n 0, 1) := by decide +kernel
theorem dX12_which_45 : decode cX12_which 45 = .ok (.getfield 42, 3) := by decide +kernel
theorem dX12_which_48 : decode cX12_which 48 = .ok (.iload 4, 2) := by decide +kernel
theorem dX12_which_50 : decode cX12_which 50 = .ok (.iconst 1, 1) := by decide +kernel
theorem dX12_which_51 : decode cX12_which 51 = .ok (.iadd, 1) := by decide +kernel
theorem dX12_which_52 : decode cX12_which 52 = .ok (.iaload, 1) := by decide +kernel
theorem dX12_which_53 : decode cX12_which 53 = .ok (.if_icmp .gt 7, 3) := by decide +kernel
theorem dX12_which_56 : decode cX12_which 56 = .ok (.iconst 1, 1) := by decide +kernel
theorem dX12_which_57 : decode cX12_which 57 = .ok (.goto 4, 3) := by decide +kernel
theorem dX12_which_60 : decode cX12_which 60 = .ok (.iconst 0, 1) := by decide +kernel
theorem dX12_which_61 : decode cX12_which 61 = .ok (.aload_n 0, 1) := by decide +kernel
theorem dX12_which_62 : decode cX12_which 62 = .ok (.getfield 42, 3) := by decide +kernel
theorem dX12_which_65 : decode cX12_which 65 = .ok (.iload 4, 2) := by decide +kernel
theorem dX12_which_67 : decode cX12_which 67 = .ok (.iconst 2, 1) := by decide +kernel
theorem dX12_which_68 : decode cX12_which 68 = .ok (.iadd, 1) := by decide +kernel
theorem dX12_which_69 : decode cX12_which 69 = .ok (.iaload, 1) := by decide +kernel
theorem dX12_which_70 : decode cX12_which 70 = .ok (.iconst 1, 1) := by decide +kernel
theorem dX12_which_71 : decode cX12_which 71 = .ok (.if_icmp .ne 7, 3) := by decide +kernel
theorem dX12_which_74 : decode cX12_which 74 = .ok (.iconst 1, 1) := by decide +kernel
theorem dX12_which_75 : decode cX12_which 75 = .ok (.goto 4, 3) := by decide +kernel
theorem dX12_which_78 : decode cX12_which 78 = .ok (.iconst 0, 1) := by decide +kernel
theorem dX12_which_79 : decode cX12_which 79 = .ok (.if_icmp .ne 7, 3) := by decide +kernel
theorem dX12_which_82 : decode cX12_which 82 = .ok (.iconst 1, 1) := by decide +kernel
theorem dX12_which_83 : decode cX12_which 83 = .ok (.goto 4, 3) := by decide +kernel
theorem dX12_which_86 : decode cX12_which 86 = .ok (.iconst 0, 1) := by decide +kernel
theorem dX12_which_87 : decode cX12_which 87 = .ok (.istore_n 3, 1) := by decide +kernel
theorem dX12_which_88 : decode cX12_which 88 = .ok (.iinc 4 3, 3) := by decide +kernel
theorem dX12_which_91 : decode cX12_which 91 = .ok (.goto (-74), 3) := by decide +kernel
theorem dX12_which_94 : decode cX12_which 94 = .ok (.iload_n 1, 1) := by decide +kernel
theorem dX12_which_95 : decode cX12_which 95 = .ok (.iload_n 3, 1) := by decide +kernel
theorem dX12_which_96 : decode cX12_which 96 = .ok (.ifCond .eq 9, 3) := by decide +kernel
theorem dX12_which_99 : decode cX12_which 99 = .ok (.iconst 1, 1) := by decide +kernel
theorem dX12_which_100 : decode cX12_which 100 = .ok (.iload_n 2, 1) := by decide +kernel
theorem dX12_which_101 : decode cX12_which 101 = .ok (.ishl, 1) := by decide +kernel
theorem dX12_which_102 : decode cX12_which 102 = .ok (.goto 4, 3) := by decide +kernel
theorem dX12_which_105 : decode cX12_which 105 = .ok (.iconst 0, 1) := by decide +kernel
theorem dX12_which_106 : decode cX12_which 106 = .ok (.ior, 1) := by decide +kernel
theorem dX12_which_107 : decode cX12_which 107 = .ok (.istore_n 1, 1) := by decide +kernel
theorem dX12_which_108 : decode cX12_which 108 = .ok (.iinc 2 1, 3) := by decide +kernel
theorem dX12_which_111 : decode cX12_which 111 = .ok (.goto (-107), 3) := by decide +kernel
theorem dX12_which_114 : decode cX12_which 114 = .ok (.iload_n 1, 1) := by decide +kernel
theorem dX12_which_115 : decode cX12_which 115 = .ok (.ireturn, 1) := by decide +kernel
theorem dX12_look_0 : decode cX12_look 0 = .ok (.iload_n 1, 1) := by decide +kernel
theorem dX12_look_1 : decode cX12_look 1 = .ok (.invokestatic 197, 3) := by decide +kernel
theorem dX12_look_4 : decode cX12_look 4 = .ok (.ifCond .ne 5, 3) := by decide +kernel
theorem dX12_look_7 : decode cX12_look 7 = .ok (.iconst (-1), 1) := by decide +kernel
theorem dX12_look_8 : decode cX12_look 8 = .ok (.ireturn, 1) := by decide +kernel
theorem dX12_look_9 : decode cX12_look 9 = .ok (.aload_n 0, 1) := by decide +kernel
theorem dX12_look_10 : decode cX12_look 10 = .ok (.invokevirtual 234, 3) := by decide +kernel
theorem dX12_look_13 : decode cX12_look 13 = .ok (.istore_n 2, 1) := by decide +kernel
theorem dX12_look_14 : decode cX12_look 14 = .ok (.iload_n 2, 1) := by decide +kernel
theorem dX12_look_15 : decode cX12_look 15 = .ok (.invokestatic 161, 3) := by decide +kernel
theorem dX12_look_18 : decode cX12_look 18 = .ok (.istore_n 3, 1) := by decide +kernel
theorem dX12_look_19 : decode cX12_look 19 = .ok (.bipush 7, 2) := by decide +kernel
theorem dX12_look_21 : decode cX12_look 21 = .ok (.istore 4, 2) := by decide +kernel
theorem dX12_look_23 : decode cX12_look 23 = .ok (.bipush (-9), 2) := by decide +kernel
theorem dX12_look_25 : decode cX12_look 25 = .ok (.istore 5, 2) := by decide +kernel
theorem dX12_look_27 : decode cX12_look 27 = .ok (.iload_n 1, 1) := by decide +kernel
theorem dX12_look_28 : decode cX12_look 28 = .ok (.ifCond .ne 7, 3) := by decide +kernel
theorem dX12_look_31 : decode cX12_look 31 = .ok (.iconst 1, 1) := by decide +kernel
theorem dX12_look_32 : decode cX12_look 32 = .ok (.goto 4, 3) := by decide +kernel
theorem dX12_look_35 : decode cX12_look 35 = .ok (.iconst 0, 1) := by decide +kernel
theorem dX12_look_36 : decode cX12_look 36 = .ok (.istore 6, 2) := by decide +kernel
theorem dX12_look_38 : decode cX12_look 38 = .ok (.iload 6, 2) := by decide +kernel
theorem dX12_look_40 : decode cX12_look 40 = .ok (.iload_n 1, 1) := by decide +kernel
theorem dX12_look_41 : decode cX12_look 41 = .ok (.ifCond .ne 8, 3) := by decide +kernel
theorem dX12_look_44 : decode cX12_look 44 = .ok (.bipush 6, 2) := by decide +kernel
theorem dX12_look_46 : decode cX12_look 46 = .ok (.goto 5, 3) := by decide +kernel
theorem dX12_look_49 : decode cX12_look 49 = .ok (.bipush 10, 2) := by decide +kernel
theorem dX12_look_51 : decode cX12_look 51 = .ok (.if_icmp .ge 118, 3) := by decide +kernel
theorem dX12_look_54 : decode cX12_look 54 = .ok (.iload_n 3, 1) := by decide +kernel
theorem dX12_look_55 : decode cX12_look 55 = .ok (.iconst 1, 1) := by decide +kernel
theorem dX12_look_56 : decode cX12_look 56 = .ok (.if_icmp .le 113, 3) := by decide +kernel
theorem dX12_look_59 : decode cX12_look 59 = .ok (.iconst 0, 1) := by decide +kernel
theorem dX12_look_60 : decode cX12_look 60 = .ok (.istore 7, 2) := by decide +kernel
theorem dX12_look_62 : decode cX12_look 62 = .ok (.iconst 0, 1) := by decide +kernel
theorem dX12_look_63 : decode cX12_look 63 = .ok (.istore 8, 2) := by decide +kernel
theorem dX12_look_65 : decode cX12_look 65 = .ok (.iload 8, 2) := by decide +kernel
theorem dX12_look_67 : decode cX12_look 67 = .ok (.aload_n 0, 1) := by decide +kernel
theorem dX12_look_68 : decode cX12_look 68 = .ok (.getfield 125, 3) := by decide +kernel
theorem dX12_look_71 : decode cX12_look 71 = .ok (.if_icmp .ge 40, 3) := by decide +kernel
theorem dX12_look_74 : decode cX12_look 74 = .ok (.iload 7, 2) := by decide +kernel
theorem dX12_look_76 : decode cX12_look 76 = .ok (.iload_n 2, 1) := by decide +kernel
theorem dX12_look_77 : decode cX12_look 77 = .ok (.iload 8, 2) := by decide +kernel
theorem dX12_look_79 : decode cX12_look 79 = .ok (.invokestatic 142, 3) := by decide +kernel
theorem dX12_look_82 : decode cX12_look 82 = .ok (.ifCond .eq 19, 3) := by decide +kernel
theorem dX12_look_85 : decode cX12_look 85 = .ok (.aload_n 0, 1) := by decide +kernel
theorem dX12_look_86 : decode cX12_look 86 = .ok (.iload 8, 2) := by decide +kernel
theorem dX12_look_88 : decode cX12_look 88 = .ok (.iload_n 1, 1) := by decide +kernel
theorem dX12_look_89 : decode cX12_look 89 = .ok (.invokevirtual 230, 3) := by decide +kernel
theorem dX12_look_92 : decode cX12_look 92 = .ok (.iload 6, 2) := by decide +kernel
theorem dX12_look_94 : decode cX12_look 94 = .ok (.if_icmp .gt 7, 3) := by decide +kernel
theorem dX12_look_97 : decode cX12_look 97 = .ok (.iconst 1, 1) := by decide +kernel
theorem dX12_look_98 : decode cX12_look 98 = .ok (.goto 4, 3) := by decide +kernel
theorem dX12_look_101 : decode cX12_look 101 = .ok (.iconst 0, 1) := by decide +kernel
theorem dX12_look_102 : decode cX12_look 102 = .ok (.iadd, 1) := by decide +kernel
theorem dX12_look_103 : decode cX12_look 103 = .ok (.istore 7, 2) := by decide +kernel
theorem dX12_look_105 : decode cX12_look 105 = .ok (.iinc 8 1, 3) := by decide +kernel
theorem dX12_look_108 : decode cX12_look 108 = .ok (.goto (-43), 3) := by decide +kernel
theorem dX12_look_111 : decode cX12_look 111 = .ok (.iload 7, 2) := by decide +kernel
theorem dX12_look_113 : decode cX12_look 113 = .ok (.iload_n 3, 1) := by decide +kernel
theorem dX12_look_114 : decode cX12_look 114 = .ok (.iload 7, 2) := by decide +kernel
theorem dX12_look_116 : decode cX12_look 116 = .ok (.isub, 1) := by decide +kernel
theorem dX12_look_117 : decode cX12_look 117 = .ok (.if_icmp .le 8, 3) := by decide +kernel
theorem dX12_look_120 : decode cX12_look 120 = .ok (.iload 7, 2) := by decide +kernel
theorem dX12_look_122 : decode cX12_look 122 = .ok (.goto 7, 3) := by decide +kernel
theorem dX12_look_125 : decode cX12_look 125 = .ok (.iload_n 3, 1) := by decide +kernel
theorem dX12_look_126 : decode cX12_look 126 = .ok (.iload 7, 2) := by decide +kernel
theorem dX12_look_128 : decode cX12_look 128 = .ok (.isub, 1) := by decide +kernel
theorem dX12_look_129 : decode cX12_look 129 = .ok (.istore 8, 2) := by decide +kernel
theorem dX12_look_131 : decode cX12_look 131 = .ok (.iload 8, 2) := by decide +kernel
theorem dX12_look_133 : decode cX12_look 133 = .ok (.iload 4, 2) := by decide +kernel
theorem dX12_look_135 : decode cX12_look 135 = .ok (.if_icmp .ge 8, 3) := by decide +kernel
theorem dX12_look_138 : decode cX12_look 138 = .ok (.iload 6, 2) := by decide +kernel
theorem dX12_look_140 : decode cX12_look 140 = .ok (.goto 5, 3) := by decide +kernel
theorem dX12_look_143 : decode cX12_look 143 = .ok (.iload 5, 2) := by decide +kernel
theorem dX12_look_145 : decode cX12_look 145 = .ok (.istore 5, 2) := by decide +kernel
theorem dX12_look_147 : decode cX12_look 147 = .ok (.iload 8, 2) := by decide +kernel
theorem dX12_look_149 : decode cX12_look 149 = .ok (.iload 4, 2) := by decide +kernel
theorem dX12_look_151 : decode cX12_look 151 = .ok (.if_icmp .ge 8, 3) := by decide +kernel
theorem dX12_look_154 : decode cX12_look 154 = .ok (.iload 8, 2) := by decide +kernel
theorem dX12_look_156 : decode cX12_look 156 = .ok (.goto 5, 3) := by decide +kernel
theorem dX12_look_159 : decode cX12_look 159 = .ok (.iload 4, 2) := by decide +kernel
theorem dX12_look_161 : decode cX12_look 161 = .ok (.istore 4, 2) := by decide +kernel
theorem dX12_look_163 : decode cX12_look 163 = .ok (.iinc 6 1, 3) := by decide +kernel
theorem dX12_look_166 : decode cX12_look 166 = .ok (.goto (-128), 3) := by decide +kernel
theorem dX12_look_169 : decode cX12_look 169 = .ok (.iload 5, 2) := by decide +kernel
theorem dX12_look_171 : decode cX12_look 171 = .ok (.ireturn, 1) := by decide +kernel
theorem dX12_asDoor_0 : decode cX12_asDoor 0 = .ok (.aload_n 0, 1) := by decide +kernel
theorem dX12_asDoor_1 : decode cX12_asDoor 1 = .ok (.dup, 1) := by decide +kernel
theorem dX12_asDoor_2 : decode cX12_asDoor 2 = .ok (.getfield 237, 3) := by decide +kernel
theorem dX12_asDoor_5 : decode cX12_asDoor 5 = .ok (.lconst 1, 1) := by decide +kernel
end
section
theorem dX12_asDoor_6 : decode cX12_asDoor 6 = .ok (.ladd, 1) := by decide +kernel
theorem dX12_asDoor_7 : decode cX12_asDoor 7 = .ok (.putfield 237, 3) := by decide +kernel
theorem dX12_asDoor_10 : decode cX12_asDoor 10 = .ok (.aload_n 0, 1) := by decide +kernel
theorem dX12_asDoor_11 : decode cX12_asDoor 11 = .ok (.aload_n 0, 1) := by decide +kernel
theorem dX12_asDoor_12 : decode cX12_asDoor 12 = .ok (.getfield 26, 3) := by decide +kernel
theorem dX12_asDoor_15 : decode cX12_asDoor 15 = .ok (.iload_n 1, 1) := by decide +kernel
theorem dX12_asDoor_16 : decode cX12_asDoor 16 = .ok (.invokevirtual 145, 3) := by decide +kernel
theorem dX12_asDoor_19 : decode cX12_asDoor 19 = .ok (.ireturn, 1) := by decide +kernel
theorem dX12_asBank_0 : decode cX12_asBank 0 = .ok (.aload_n 0, 1) := by decide +kernel
theorem dX12_asBank_1 : decode cX12_asBank 1 = .ok (.dup, 1) := by decide +kernel
theorem dX12_asBank_2 : decode cX12_asBank 2 = .ok (.getfield 237, 3) := by decide +kernel
theorem dX12_asBank_5 : decode cX12_asBank 5 = .ok (.ldc2_w 220, 3) := by decide +kernel
theorem dX12_asBank_8 : decode cX12_asBank 8 = .ok (.ladd, 1) := by decide +kernel
theorem dX12_asBank_9 : decode cX12_asBank 9 = .ok (.putfield 237, 3) := by decide +kernel
theorem dX12_asBank_12 : decode cX12_asBank 12 = .ok (.aload_n 0, 1) := by decide +kernel
theorem dX12_asBank_13 : decode cX12_asBank 13 = .ok (.iload_n 1, 1) := by decide +kernel
theorem dX12_asBank_14 : decode cX12_asBank 14 = .ok (.invokevirtual 241, 3) := by decide +kernel
theorem dX12_asBank_17 : decode cX12_asBank 17 = .ok (.aload_n 0, 1) := by decide +kernel
theorem dX12_asBank_18 : decode cX12_asBank 18 = .ok (.getfield 23, 3) := by decide +kernel
theorem dX12_asBank_21 : decode cX12_asBank 21 = .ok (.aload_n 0, 1) := by decide +kernel
theorem dX12_asBank_22 : decode cX12_asBank 22 = .ok (.getfield 26, 3) := by decide +kernel
theorem dX12_asBank_25 : decode cX12_asBank 25 = .ok (.iconst 2, 1) := by decide +kernel
theorem dX12_asBank_26 : decode cX12_asBank 26 = .ok (.iload_n 1, 1) := by decide +kernel
theorem dX12_asBank_27 : decode cX12_asBank 27 = .ok (.iadd, 1) := by decide +kernel
theorem dX12_asBank_28 : decode cX12_asBank 28 = .ok (.iaload, 1) := by decide +kernel
theorem dX12_asBank_29 : decode cX12_asBank 29 = .ok (.iaload, 1) := by decide +kernel
theorem dX12_asBank_30 : decode cX12_asBank 30 = .ok (.iadd, 1) := by decide +kernel
theorem dX12_asBank_31 : decode cX12_asBank 31 = .ok (.ireturn, 1) := by decide +kernel
theorem dX12_asHotel_0 : decode cX12_asHotel 0 = .ok (.aload_n 0, 1) := by decide +kernel
theorem dX12_asHotel_1 : decode cX12_asHotel 1 = .ok (.dup, 1) := by decide +kernel
theorem dX12_asHotel_2 : decode cX12_asHotel 2 = .ok (.getfield 237, 3) := by decide +kernel
theorem dX12_asHotel_5 : decode cX12_asHotel 5 = .ok (.ldc2_w 244, 3) := by decide +kernel
theorem dX12_asHotel_8 : decode cX12_asHotel 8 = .ok (.ladd, 1) := by decide +kernel
theorem dX12_asHotel_9 : decode cX12_asHotel 9 = .ok (.putfield 237, 3) := by decide +kernel
theorem dX12_asHotel_12 : decode cX12_asHotel 12 = .ok (.aload_n 0, 1) := by decide +kernel
theorem dX12_asHotel_13 : decode cX12_asHotel 13 = .ok (.iload_n 1, 1) := by decide +kernel
theorem dX12_asHotel_14 : decode cX12_asHotel 14 = .ok (.invokevirtual 241, 3) := by decide +kernel
theorem dX12_asHotel_17 : decode cX12_asHotel 17 = .ok (.aload_n 0, 1) := by decide +kernel
theorem dX12_asHotel_18 : decode cX12_asHotel 18 = .ok (.getfield 26, 3) := by decide +kernel
theorem dX12_asHotel_21 : decode cX12_asHotel 21 = .ok (.iconst 0, 1) := by decide +kernel
theorem dX12_asHotel_22 : decode cX12_asHotel 22 = .ok (.invokestatic 158, 3) := by decide +kernel
theorem dX12_asHotel_25 : decode cX12_asHotel 25 = .ok (.invokestatic 161, 3) := by decide +kernel
theorem dX12_asHotel_28 : decode cX12_asHotel 28 = .ok (.isub, 1) := by decide +kernel
theorem dX12_asHotel_29 : decode cX12_asHotel 29 = .ok (.ireturn, 1) := by decide +kernel
theorem dX12_rate_0 : decode cX12_rate 0 = .ok (.aload_n 0, 1) := by decide +kernel
theorem dX12_rate_1 : decode cX12_rate 1 = .ok (.iload_n 2, 1) := by decide +kernel
theorem dX12_rate_2 : decode cX12_rate 2 = .ok (.invokevirtual 188, 3) := by decide +kernel
theorem dX12_rate_5 : decode cX12_rate 5 = .ok (.ifCond .ne 6, 3) := by decide +kernel
theorem dX12_rate_8 : decode cX12_rate 8 = .ok (.ldc 246, 2) := by decide +kernel
theorem dX12_rate_10 : decode cX12_rate 10 = .ok (.ireturn, 1) := by decide +kernel
theorem dX12_rate_11 : decode cX12_rate 11 = .ok (.iload_n 1, 1) := by decide +kernel
theorem dX12_rate_12 : decode cX12_rate 12 = .ok (.tableswitch 123 0 5 #[40, 46, 52, 58, 78, 98], 40) := by decide +kernel
theorem dX12_rate_52 : decode cX12_rate 52 = .ok (.aload_n 0, 1) := by decide +kernel
theorem dX12_rate_53 : decode cX12_rate 53 = .ok (.iload_n 2, 1) := by decide +kernel
theorem dX12_rate_54 : decode cX12_rate 54 = .ok (.invokevirtual 241, 3) := by decide +kernel
theorem dX12_rate_57 : decode cX12_rate 57 = .ok (.ireturn, 1) := by decide +kernel
theorem dX12_rate_58 : decode cX12_rate 58 = .ok (.aload_n 0, 1) := by decide +kernel
theorem dX12_rate_59 : decode cX12_rate 59 = .ok (.iload_n 2, 1) := by decide +kernel
theorem dX12_rate_60 : decode cX12_rate 60 = .ok (.invokevirtual 247, 3) := by decide +kernel
theorem dX12_rate_63 : decode cX12_rate 63 = .ok (.ireturn, 1) := by decide +kernel
theorem dX12_rate_64 : decode cX12_rate 64 = .ok (.aload_n 0, 1) := by decide +kernel
theorem dX12_rate_65 : decode cX12_rate 65 = .ok (.iload_n 2, 1) := by decide +kernel
theorem dX12_rate_66 : decode cX12_rate 66 = .ok (.invokevirtual 250, 3) := by decide +kernel
theorem dX12_rate_69 : decode cX12_rate 69 = .ok (.ireturn, 1) := by decide +kernel
theorem dX12_rate_70 : decode cX12_rate 70 = .ok (.aload_n 0, 1) := by decide +kernel
theorem dX12_rate_71 : decode cX12_rate 71 = .ok (.dup, 1) := by decide +kernel
theorem dX12_rate_72 : decode cX12_rate 72 = .ok (.getfield 237, 3) := by decide +kernel
theorem dX12_rate_75 : decode cX12_rate 75 = .ok (.ldc2_w 253, 3) := by decide +kernel
theorem dX12_rate_78 : decode cX12_rate 78 = .ok (.ladd, 1) := by decide +kernel
theorem dX12_rate_79 : decode cX12_rate 79 = .ok (.putfield 237, 3) := by decide +kernel
theorem dX12_rate_82 : decode cX12_rate 82 = .ok (.iconst 2, 1) := by decide +kernel
theorem dX12_rate_83 : decode cX12_rate 83 = .ok (.aload_n 0, 1) := by decide +kernel
theorem dX12_rate_84 : decode cX12_rate 84 = .ok (.iload_n 2, 1) := by decide +kernel
theorem dX12_rate_85 : decode cX12_rate 85 = .ok (.invokevirtual 247, 3) := by decide +kernel
theorem dX12_rate_88 : decode cX12_rate 88 = .ok (.imul, 1) := by decide +kernel
theorem dX12_rate_89 : decode cX12_rate 89 = .ok (.ireturn, 1) := by decide +kernel
theorem dX12_rate_90 : decode cX12_rate 90 = .ok (.aload_n 0, 1) := by decide +kernel
theorem dX12_rate_91 : decode cX12_rate 91 = .ok (.dup, 1) := by decide +kernel
theorem dX12_rate_92 : decode cX12_rate 92 = .ok (.getfield 237, 3) := by decide +kernel
theorem dX12_rate_95 : decode cX12_rate 95 = .ok (.ldc2_w 255, 3) := by decide +kernel
theorem dX12_rate_98 : decode cX12_rate 98 = .ok (.ladd, 1) := by decide +kernel
theorem dX12_rate_99 : decode cX12_rate 99 = .ok (.putfield 237, 3) := by decide +kernel
theorem dX12_rate_102 : decode cX12_rate 102 = .ok (.aload_n 0, 1) := by decide +kernel
theorem dX12_rate_103 : decode cX12_rate 103 = .ok (.iload_n 2, 1) := by decide +kernel
theorem dX12_rate_104 : decode cX12_rate 104 = .ok (.invokevirtual 250, 3) := by decide +kernel
theorem dX12_rate_107 : decode cX12_rate 107 = .ok (.iload_n 2, 1) := by decide +kernel
theorem dX12_rate_108 : decode cX12_rate 108 = .ok (.iadd, 1) := by decide +kernel
theorem dX12_rate_109 : decode cX12_rate 109 = .ok (.ireturn, 1) := by decide +kernel
theorem dX12_rate_110 : decode cX12_rate 110 = .ok (.aload_n 0, 1) := by decide +kernel
theorem dX12_rate_111 : decode cX12_rate 111 = .ok (.dup, 1) := by decide +kernel
theorem dX12_rate_112 : decode cX12_rate 112 = .ok (.getfield 237, 3) := by decide +kernel
theorem dX12_rate_115 : decode cX12_rate 115 = .ok (.ldc2_w 257, 3) := by decide +kernel
theorem dX12_rate_118 : decode cX12_rate 118 = .ok (.ladd, 1) := by decide +kernel
theorem dX12_rate_119 : decode cX12_rate 119 = .ok (.putfield 237, 3) := by decide +kernel
theorem dX12_rate_122 : decode cX12_rate 122 = .ok (.aload_n 0, 1) := by decide +kernel
theorem dX12_rate_123 : decode cX12_rate 123 = .ok (.iload_n 2, 1) := by decide +kernel
theorem dX12_rate_124 : decode cX12_rate 124 = .ok (.invokevirtual 241, 3) := by decide +kernel
theorem dX12_rate_127 : decode cX12_rate 127 = .ok (.aload_n 0, 1) := by decide +kernel
theorem dX12_rate_128 : decode cX12_rate 128 = .ok (.getfield 26, 3) := by decide +kernel
theorem dX12_rate_131 : decode cX12_rate 131 = .ok (.iconst 1, 1) := by decide +kernel
theorem dX12_rate_132 : decode cX12_rate 132 = .ok (.iaload, 1) := by decide +kernel
theorem dX12_rate_133 : decode cX12_rate 133 = .ok (.iadd, 1) := by decide +kernel
theorem dX12_rate_134 : decode cX12_rate 134 = .ok (.ireturn, 1) := by decide +kernel
theorem dX12_rate_135 : decode cX12_rate 135 = .ok (.ldc 246, 2) := by decide +kernel
theorem dX12_rate_137 : decode cX12_rate 137 = .ok (.ireturn, 1) := by decide +kernel
theorem dX12_keep_0 : decode cX12_keep 0 = .ok (.iload_n 1, 1) := by decide +kernel
theorem dX12_keep_1 : decode cX12_keep 1 = .ok (.invokestatic 197, 3) := by decide +kernel
theorem dX12_keep_4 : decode cX12_keep 4 = .ok (.ifCond .ne 5, 3) := by decide +kernel
theorem dX12_keep_7 : decode cX12_keep 7 = .ok (.iconst (-1), 1) := by decide +kernel
theorem dX12_keep_8 : decode cX12_keep 8 = .ok (.ireturn, 1) := by decide +kernel
theorem dX12_keep_9 : decode cX12_keep 9 = .ok (.aload_n 0, 1) := by decide +kernel
theorem dX12_keep_10 : decode cX12_keep 10 = .ok (.getfield 26, 3) := by decide +kernel
theorem dX12_keep_13 : decode cX12_keep 13 = .ok (.iconst 0, 1) := by decide +kernel
theorem dX12_keep_14 : decode cX12_keep 14 = .ok (.aload_n 0, 1) := by decide +kernel
theorem dX12_keep_15 : decode cX12_keep 15 = .ok (.getfield 35, 3) := by decide +kernel
theorem dX12_keep_18 : decode cX12_keep 18 = .ok (.bipush 47, 2) := by decide +kernel
theorem dX12_keep_20 : decode cX12_keep 20 = .ok (.iload_n 1, 1) := by decide +kernel
theorem dX12_keep_21 : decode cX12_keep 21 = .ok (.imul, 1) := by decide +kernel
theorem dX12_keep_22 : decode cX12_keep 22 = .ok (.bipush 47, 2) := by decide +kernel
theorem dX12_keep_24 : decode cX12_keep 24 = .ok (.invokestatic 128, 3) := by decide +kernel
theorem dX12_keep_27 : decode cX12_keep 27 = .ok (.aload_n 0, 1) := by decide +kernel
theorem dX12_keep_28 : decode cX12_keep 28 = .ok (.getfield 38, 3) := by decide +kernel
theorem dX12_keep_31 : decode cX12_keep 31 = .ok (.iload_n 1, 1) := by decide +kernel
theorem dX12_keep_32 : decode cX12_keep 32 = .ok (.iconst 1, 1) := by decide +kernel
theorem dX12_keep_33 : decode cX12_keep 33 = .ok (.bastore, 1) := by decide +kernel
theorem dX12_keep_34 : decode cX12_keep 34 = .ok (.aload_n 0, 1) := by decide +kernel
theorem dX12_keep_35 : decode cX12_keep 35 = .ok (.getfield 26, 3) := by decide +kernel
theorem dX12_keep_38 : decode cX12_keep 38 = .ok (.iconst 1, 1) := by decide +kernel
theorem dX12_keep_39 : decode cX12_keep 39 = .ok (.iaload, 1) := by decide +kernel
theorem dX12_keep_40 : decode cX12_keep 40 = .ok (.ireturn, 1) := by decide +kernel
theorem dX12_back_0 : decode cX12_back 0 = .ok (.iload_n 1, 1) := by decide +kernel
theorem dX12_back_1 : decode cX12_back 1 = .ok (.invokestatic 197, 3) := by decide +kernel
theorem dX12_back_4 : decode cX12_back 4 = .ok (.ifCond .ne 5, 3) := by decide +kernel
theorem dX12_back_7 : decode cX12_back 7 = .ok (.iconst (-1), 1) := by decide +kernel
theorem dX12_back_8 : decode cX12_back 8 = .ok (.ireturn, 1) := by decide +kernel
theorem dX12_back_9 : decode cX12_back 9 = .ok (.aload_n 0, 1) := by decide +kernel
theorem dX12_back_10 : decode cX12_back 10 = .ok (.getfield 38, 3) := by decide +kernel
theorem dX12_back_13 : decode cX12_back 13 = .ok (.iload_n 1, 1) := by decide +kernel
theorem dX12_back_14 : decode cX12_back 14 = .ok (.baload, 1) := by decide +kernel
theorem dX12_back_15 : decode cX12_back 15 = .ok (.ifCond .ne 6, 3) := by decide +kernel
theorem dX12_back_18 : decode cX12_back 18 = .ok (.bipush (-2), 2) := by decide +kernel
theorem dX12_back_20 : decode cX12_back 20 = .ok (.ireturn, 1) := by decide +kernel
theorem dX12_back_21 : decode cX12_back 21 = .ok (.aload_n 0, 1) := by decide +kernel
theorem dX12_back_22 : decode cX12_back 22 = .ok (.getfield 35, 3) := by decide +kernel
theorem dX12_back_25 : decode cX12_back 25 = .ok (.bipush 47, 2) := by decide +kernel
theorem dX12_back_27 : decode cX12_back 27 = .ok (.iload_n 1, 1) := by decide +kernel
theorem dX12_back_28 : decode cX12_back 28 = .ok (.imul, 1) := by decide +kernel
theorem dX12_back_29 : decode cX12_back 29 = .ok (.aload_n 0, 1) := by decide +kernel
theorem dX12_back_30 : decode cX12_back 30 = .ok (.getfield 26, 3) := by decide +kernel
theorem dX12_back_33 : decode cX12_back 33 = .ok (.iconst 0, 1) := by decide +kernel
theorem dX12_back_34 : decode cX12_back 34 = .ok (.bipush 47, 2) := by decide +kernel
theorem dX12_back_36 : decode cX12_back 36 = .ok (.invokestatic 128, 3) := by decide +kernel
theorem dX12_back_39 : decode cX12_back 39 = .ok (.aload_n 0, 1) := by decide +kernel
theorem dX12_back_40 : decode cX12_back 40 = .ok (.iconst 0, 1) := by decide +kernel
theorem dX12_back_41 : decode cX12_back 41 = .ok (.putfield 132, 3) := by decide +kernel
theorem dX12_back_44 : decode cX12_back 44 = .ok (.aload_n 0, 1) := by decide +kernel
theorem dX12_back_45 : decode cX12_back 45 = .ok (.getfield 26, 3) := by decide +kernel
theorem dX12_back_48 : decode cX12_back 48 = .ok (.iconst 1, 1) := by decide +kernel
theorem dX12_back_49 : decode cX12_back 49 = .ok (.iaload, 1) := by decide +kernel
theorem dX12_back_50 : decode cX12_back 50 = .ok (.ireturn, 1) := by decide +kernel
theorem dX12_count_0 : decode cX12_count 0 = .ok (.iload_n 1, 1) := by decide +kernel
theorem dX12_count_1 : decode cX12_count 1 = .ok (.tableswitch 80 0 6 #[43, 48, 53, 58, 63, 70, 75], 43) := by decide +kernel
theorem dX12_count_44 : decode cX12_count 44 = .ok (.aload_n 0, 1) := by decide +kernel
theorem dX12_count_45 : decode cX12_count 45 = .ok (.getfield 7, 3) := by decide +kernel
theorem dX12_count_48 : decode cX12_count 48 = .ok (.ireturn, 1) := by decide +kernel
theorem dX12_count_49 : decode cX12_count 49 = .ok (.aload_n 0, 1) := by decide +kernel
theorem dX12_count_50 : decode cX12_count 50 = .ok (.getfield 13, 3) := by decide +kernel
theorem dX12_count_53 : decode cX12_count 53 = .ok (.ireturn, 1) := by decide +kernel
theorem dX12_count_54 : decode cX12_count 54 = .ok (.aload_n 0, 1) := by decide +kernel
theorem dX12_count_55 : decode cX12_count 55 = .ok (.getfield 16, 3) := by decide +kernel
theorem dX12_count_58 : decode cX12_count 58 = .ok (.ireturn, 1) := by decide +kernel
theorem dX12_count_59 : decode cX12_count 59 = .ok (.aload_n 0, 1) := by decide +kernel
theorem dX12_count_60 : decode cX12_count 60 = .ok (.getfield 125, 3) := by decide +kernel
theorem dX12_count_63 : decode cX12_count 63 = .ok (.ireturn, 1) := by decide +kernel
theorem dX12_count_64 : decode cX12_count 64 = .ok (.aload_n 0, 1) := by decide +kernel
theorem dX12_count_65 : decode cX12_count 65 = .ok (.getfield 26, 3) := by decide +kernel
theorem dX12_count_68 : decode cX12_count 68 = .ok (.iconst 0, 1) := by decide +kernel
theorem dX12_count_69 : decode cX12_count 69 = .ok (.iaload, 1) := by decide +kernel
theorem dX12_count_70 : decode cX12_count 70 = .ok (.ireturn, 1) := by decide +kernel
theorem dX12_count_71 : decode cX12_count 71 = .ok (.aload_n 0, 1) := by decide +kernel
theorem dX12_count_72 : decode cX12_count 72 = .ok (.getfield 135, 3) := by decide +kernel
theorem dX12_count_75 : decode cX12_count 75 = .ok (.ireturn, 1) := by decide +kernel
theorem dX12_count_76 : decode cX12_count 76 = .ok (.aload_n 0, 1) := by decide +kernel
theorem dX12_count_77 : decode cX12_count 77 = .ok (.getfield 60, 3) := by decide +kernel
theorem dX12_count_80 : decode cX12_count 80 = .ok (.ireturn, 1) := by decide +kernel
theorem dX12_count_81 : decode cX12_count 81 = .ok (.iconst (-1), 1) := by decide +kernel
theorem dX12_count_82 : decode cX12_count 82 = .ok (.ireturn, 1) := by decide +kernel
theorem dX12_trace_0 : decode cX12_trace 0 = .ok (.aload_n 0, 1) := by decide +kernel
theorem dX12_trace_1 : decode cX12_trace 1 = .ok (.getfield 237, 3) := by decide +kernel
theorem dX12_trace_4 : decode cX12_trace 4 = .ok (.lreturn, 1) := by decide +kernel
theorem dJ6_bitCount_0f7a4_0 : decode cJ6_bitCount_0f7a4 0 = .ok (.iload_n 0, 1) := by decide +kernel
theorem dJ6_bitCount_0f7a4_1 : decode cJ6_bitCount_0f7a4 1 = .ok (.iload_n 0, 1) := by decide +kernel
theorem dJ6_bitCount_0f7a4_2 : decode cJ6_bitCount_0f7a4 2 = .ok (.iconst 1, 1) := by decide +kernel
theorem dJ6_bitCount_0f7a4_3 : decode cJ6_bitCount_0f7a4 3 = .ok (.iushr, 1) := by decide +kernel
theorem dJ6_bitCount_0f7a4_4 : decode cJ6_bitCount_0f7a4 4 = .ok (.ldc_w 265, 3) := by decide +kernel
theorem dJ6_bitCount_0f7a4_7 : decode cJ6_bitCount_0f7a4 7 = .ok (.iand, 1) := by decide +kernel
theorem dJ6_bitCount_0f7a4_8 : decode cJ6_bitCount_0f7a4 8 = .ok (.isub, 1) := by decide +kernel
theorem dJ6_bitCount_0f7a4_9 : decode cJ6_bitCount_0f7a4 9 = .ok (.istore_n 0, 1) := by decide +kernel
theorem dJ6_bitCount_0f7a4_10 : decode cJ6_bitCount_0f7a4 10 = .ok (.iload_n 0, 1) := by decide +kernel
theorem dJ6_bitCount_0f7a4_11 : decode cJ6_bitCount_0f7a4 11 = .ok (.ldc_w 266, 3) := by decide +kernel
theorem dJ6_bitCount_0f7a4_14 : decode cJ6_bitCount_0f7a4 14 = .ok (.iand, 1) := by decide +kernel
theorem dJ6_bitCount_0f7a4_15 : decode cJ6_bitCount_0f7a4 15 = .ok (.iload_n 0, 1) := by decide +kernel
theorem dJ6_bitCount_0f7a4_16 : decode cJ6_bitCount_0f7a4 16 = .ok (.iconst 2, 1) := by decide +kernel
theorem dJ6_bitCount_0f7a4_17 : decode cJ6_bitCount_0f7a4 17 = .ok (.iushr, 1) := by decide +kernel
theorem dJ6_bitCount_0f7a4_18 : decode cJ6_bitCount_0f7a4 18 = .ok (.ldc_w 266, 3) := by decide +kernel
theorem dJ6_bitCount_0f7a4_21 : decode cJ6_bitCount_0f7a4 21 = .ok (.iand, 1) := by decide +kernel
theorem dJ6_bitCount_0f7a4_22 : decode cJ6_bitCount_0f7a4 22 = .ok (.iadd, 1) := by decide +kernel
theorem dJ6_bitCount_0f7a4_23 : decode cJ6_bitCount_0f7a4 23 = .ok (.istore_n 0, 1) := by decide +kernel
theorem dJ6_bitCount_0f7a4_24 : decode cJ6_bitCount_0f7a4 24 = .ok (.iload_n 0, 1) := by decide +kernel
theorem dJ6_bitCount_0f7a4_25 : decode cJ6_bitCount_0f7a4 25 = .ok (.iload_n 0, 1) := by decide +kernel
theorem dJ6_bitCount_0f7a4_26 : decode cJ6_bitCount_0f7a4 26 = .ok (.iconst 4, 1) := by decide +kernel
theorem dJ6_bitCount_0f7a4_27 : decode cJ6_bitCount_0f7a4 27 = .ok (.iushr, 1) := by decide +kernel
theorem dJ6_bitCount_0f7a4_28 : decode cJ6_bitCount_0f7a4 28 = .ok (.iadd, 1) := by decide +kernel
theorem dJ6_bitCount_0f7a4_29 : decode cJ6_bitCount_0f7a4 29 = .ok (.ldc_w 267, 3) := by decide +kernel
theorem dJ6_bitCount_0f7a4_32 : decode cJ6_bitCount_0f7a4 32 = .ok (.iand, 1) := by decide +kernel
theorem dJ6_bitCount_0f7a4_33 : decode cJ6_bitCount_0f7a4 33 = .ok (.istore_n 0, 1) := by decide +kernel
theorem dJ6_bitCount_0f7a4_34 : decode cJ6_bitCount_0f7a4 34 = .ok (.iload_n 0, 1) := by decide +kernel
theorem dJ6_bitCount_0f7a4_35 : decode cJ6_bitCount_0f7a4 35 = .ok (.iload_n 0, 1) := by decide +kernel
theorem dJ6_bitCount_0f7a4_36 : decode cJ6_bitCount_0f7a4 36 = .ok (.bipush 8, 2) := by decide +kernel
theorem dJ6_bitCount_0f7a4_38 : decode cJ6_bitCount_0f7a4 38 = .ok (.iushr, 1) := by decide +kernel
theorem dJ6_bitCount_0f7a4_39 : decode cJ6_bitCount_0f7a4 39 = .ok (.iadd, 1) := by decide +kernel
theorem dJ6_bitCount_0f7a4_40 : decode cJ6_bitCount_0f7a4 40 = .ok (.istore_n 0, 1) := by decide +kernel
theorem dJ6_bitCount_0f7a4_41 : decode cJ6_bitCount_0f7a4 41 = .ok (.iload_n 0, 1) := by decide +kernel
theorem dJ6_bitCount_0f7a4_42 : decode cJ6_bitCount_0f7a4 42 = .ok (.iload_n 0, 1) := by decide +kernel
theorem dJ6_bitCount_0f7a4_43 : decode cJ6_bitCount_0f7a4 43 = .ok (.bipush 16, 2) := by decide +kernel
theorem dJ6_bitCount_0f7a4_45 : decode cJ6_bitCount_0f7a4 45 = .ok (.iushr, 1) := by decide +kernel
theorem dJ6_bitCount_0f7a4_46 : decode cJ6_bitCount_0f7a4 46 = .ok (.iadd, 1) := by decide +kernel
theorem dJ6_bitCount_0f7a4_47 : decode cJ6_bitCount_0f7a4 47 = .ok (.istore_n 0, 1) := by decide +kernel
theorem dJ6_bitCount_0f7a4_48 : decode cJ6_bitCount_0f7a4 48 = .ok (.iload_n 0, 1) := by decide +kernel
theorem dJ6_bitCount_0f7a4_49 : decode cJ6_bitCount_0f7a4 49 = .ok (.bipush 63, 2) := by decide +kernel
theorem dJ6_bitCount_0f7a4_51 : decode cJ6_bitCount_0f7a4 51 = .ok (.iand, 1) := by decide +kernel
theorem dJ6_bitCount_0f7a4_52 : decode cJ6_bitCount_0f7a4 52 = .ok (.ireturn, 1) := by decide +kernel
theorem dJ9_max_7cf53_0 : decode cJ9_max_7cf53 0 = .ok (.iload_n 0, 1) := by decide +kernel
theorem dJ9_max_7cf53_1 : decode cJ9_max_7cf53 1 = .ok (.iload_n 1, 1) := by decide +kernel
theorem dJ9_max_7cf53_2 : decode cJ9_max_7cf53 2 = .ok (.if_icmp .lt 7, 3) := by decide +kernel
theorem dJ9_max_7cf53_5 : decode cJ9_max_7cf53 5 = .ok (.iload_n 0, 1) := by decide +kernel
theorem dJ9_max_7cf53_6 : decode cJ9_max_7cf53 6 = .ok (.goto 4, 3) := by decide +kernel
theorem dJ9_max_7cf53_9 : decode cJ9_max_7cf53 9 = .ok (.iload_n 1, 1) := by decide +kernel
theorem dJ9_max_7cf53_10 : decode cJ9_max_7cf53 10 = .ok (.ireturn, 1) := by decide +kernel
theorem dJ9_max_f86c9_0 : decode cJ9_max_f86c9 0 = .ok (.lload_n 0, 1) := by decide +kernel
theorem dJ9_max_f86c9_1 : decode cJ9_max_f86c9 1 = .ok (.lload_n 2, 1) := by decide +kernel
theorem dJ9_max_f86c9_2 : decode cJ9_max_f86c9 2 = .ok (.lcmp, 1) := by decide +kernel
theorem dJ9_max_f86c9_3 : decode cJ9_max_f86c9 3 = .ok (.ifCond .lt 7, 3) := by decide +kernel
theorem dJ9_max_f86c9_6 : decode cJ9_max_f86c9 6 = .ok (.lload_n 0, 1) := by decide +kernel
theorem dJ9_max_f86c9_7 : decode cJ9_max_f86c9 7 = .ok (.goto 4, 3) := by decide +kernel
theorem dJ9_max_f86c9_10 : decode cJ9_max_f86c9 10 = .ok (.lload_n 2, 1) := by decide +kernel
theorem dJ9_max_f86c9_11 : decode cJ9_max_f86c9 11 = .ok (.lreturn, 1) := by decide +kernel
theorem dJ9_min_7cf53_0 : decode cJ9_min_7cf53 0 = .ok (.iload_n 0, 1) := by decide +kernel
theorem dJ9_min_7cf53_1 : decode cJ9_min_7cf53 1 = .ok (.iload_n 1, 1) := by decide +kernel
theorem dJ9_min_7cf53_2 : decode cJ9_min_7cf53 2 = .ok (.if_icmp .gt 7, 3) := by decide +kernel
theorem dJ9_min_7cf53_5 : decode cJ9_min_7cf53 5 = .ok (.iload_n 0, 1) := by decide +kernel
theorem dJ9_min_7cf53_6 : decode cJ9_min_7cf53 6 = .ok (.goto 4, 3) := by decide +kernel
theorem dJ9_min_7cf53_9 : decode cJ9_min_7cf53 9 = .ok (.iload_n 1, 1) := by decide +kernel
theorem dJ9_min_7cf53_10 : decode cJ9_min_7cf53 10 = .ok (.ireturn, 1) := by decide +kernel
theorem dJ7_fill_d0a16_0 : decode cJ7_fill_d0a16 0 = .ok (.iconst 0, 1) := by decide +kernel
theorem dJ7_fill_d0a16_1 : decode cJ7_fill_d0a16 1 = .ok (.istore_n 3, 1) := by decide +kernel
theorem dJ7_fill_d0a16_2 : decode cJ7_fill_d0a16 2 = .ok (.aload_n 0, 1) := by decide +kernel
theorem dJ7_fill_d0a16_3 : decode cJ7_fill_d0a16 3 = .ok (.arraylength, 1) := by decide +kernel
theorem dJ7_fill_d0a16_4 : decode cJ7_fill_d0a16 4 = .ok (.istore 4, 2) := by decide +kernel
theorem dJ7_fill_d0a16_6 : decode cJ7_fill_d0a16 6 = .ok (.iload_n 3, 1) := by decide +kernel
theorem dJ7_fill_d0a16_7 : decode cJ7_fill_d0a16 7 = .ok (.iload 4, 2) := by decide +kernel
theorem dJ7_fill_d0a16_9 : decode cJ7_fill_d0a16 9 = .ok (.if_icmp .ge 13, 3) := by decide +kernel
theorem dJ7_fill_d0a16_12 : decode cJ7_fill_d0a16 12 = .ok (.aload_n 0, 1) := by decide +kernel
theorem dJ7_fill_d0a16_13 : decode cJ7_fill_d0a16 13 = .ok (.iload_n 3, 1) := by decide +kernel
theorem dJ7_fill_d0a16_14 : decode cJ7_fill_d0a16 14 = .ok (.lload_n 1, 1) := by decide +kernel
theorem dJ7_fill_d0a16_15 : decode cJ7_fill_d0a16 15 = .ok (.lastore, 1) := by decide +kernel
theorem dJ7_fill_d0a16_16 : decode cJ7_fill_d0a16 16 = .ok (.iinc 3 1, 3) := by decide +kernel
theorem dJ7_fill_d0a16_19 : decode cJ7_fill_d0a16 19 = .ok (.goto (-13), 3) := by decide +kernel
theorem dJ7_fill_d0a16_22 : decode cJ7_fill_d0a16 22 = .ok (.return_, 1) := by decide +kernel
theorem dL_law_0 : decode cL_law 0 = .ok (.new 7, 3) := by decide +kernel
theorem dL_law_3 : decode cL_law 3 = .ok (.dup, 1) := by decide +kernel
theorem dL_law_4 : decode cL_law 4 = .ok (.invokespecial 9, 3) := by decide +kernel
theorem dL_law_7 : decode cL_law 7 = .ok (.astore_n 1, 1) := by decide +kernel
theorem dL_law_8 : decode cL_law 8 = .ok (.new 10, 3) := by decide +kernel
theorem dL_law_11 : decode cL_law 11 = .ok (.dup, 1) := by decide +kernel
theorem dL_law_12 : decode cL_law 12 = .ok (.invokespecial 12, 3) := by decide +kernel
theorem dL_law_15 : decode cL_law 15 = .ok (.astore_n 2, 1) := by decide +kernel
theorem dL_law_16 : decode cL_law 16 = .ok (.iconst 0, 1) := by decide +kernel
theorem dL_law_17 : decode cL_law 17 = .ok (.istore_n 3, 1) := by decide +kernel
theorem dL_law_18 : decode cL_law 18 = .ok (.iload_n 3, 1) := by decide +kernel
theorem dL_law_19 : decode cL_law 19 = .ok (.aload_n 0, 1) := by decide +kernel
theorem dL_law_20 : decode cL_law 20 = .ok (.arraylength, 1) := by decide +kernel
theorem dL_law_21 : decode cL_law 21 = .ok (.iconst 4, 1) := by decide +kernel
theorem dL_law_22 : decode cL_law 22 = .ok (.isub, 1) := by decide +kernel
theorem dL_law_23 : decode cL_law 23 = .ok (.if_icmp .gt 690, 3) := by decide +kernel
theorem dL_law_26 : decode cL_law 26 = .ok (.aload_n 0, 1) := by decide +kernel
theorem dL_law_27 : decode cL_law 27 = .ok (.iload_n 3, 1) := by decide +kernel
theorem dL_law_28 : decode cL_law 28 = .ok (.iaload, 1) := by decide +kernel
theorem dL_law_29 : decode cL_law 29 = .ok (.bipush 31, 2) := by decide +kernel
theorem dL_law_31 : decode cL_law 31 = .ok (.iand, 1) := by decide +kernel
theorem dL_law_32 : decode cL_law 32 = .ok (.tableswitch 675 0 23 #[112, 135, 148, 161, 194, 227, 260, 283, 316, 329, 352, 375, 388, 411, 434, 467, 510, 523, 536, 559, 592, 615, 638, 661], 112) := by decide +kernel
theorem dL_law_144 : decode cL_law 144 = .ok (.aload_n 1, 1) := by decide +kernel
theorem dL_law_145 : decode cL_law 145 = .ok (.aload_n 0, 1) := by decide +kernel
theorem dL_law_146 : decode cL_law 146 = .ok (.iload_n 3, 1) := by decide +kernel
theorem dL_law_147 : decode cL_law 147 = .ok (.iconst 1, 1) := by decide +kernel
theorem dL_law_148 : decode cL_law 148 = .ok (.iadd, 1) := by decide +kernel
theorem dL_law_149 : decode cL_law 149 = .ok (.iaload, 1) := by decide +kernel
theorem dL_law_150 : decode cL_law 150 = .ok (.invokevirtual 13, 3) := by decide +kernel
theorem dL_law_153 : decode cL_law 153 = .ok (.aload_n 2, 1) := by decide +kernel
theorem dL_law_154 : decode cL_law 154 = .ok (.aload_n 0, 1) := by decide +kernel
theorem dL_law_155 : decode cL_law 155 = .ok (.iload_n 3, 1) := by decide +kernel
theorem dL_law_156 : decode cL_law 156 = .ok (.iconst 1, 1) := by decide +kernel
theorem dL_law_157 : decode cL_law 157 = .ok (.iadd, 1) := by decide +kernel
theorem dL_law_158 : decode cL_law 158 = .ok (.iaload, 1) := by decide +kernel
theorem dL_law_159 : decode cL_law 159 = .ok (.invokevirtual 17, 3) := by decide +kernel
theorem dL_law_162 : decode cL_law 162 = .ok (.if_icmp .eq 545, 3) := by decide +kernel
theorem dL_law_165 : decode cL_law 165 = .ok (.iconst 0, 1) := by decide +kernel
theorem dL_law_166 : decode cL_law 166 = .ok (.ireturn, 1) := by decide +kernel
theorem dL_law_167 : decode cL_law 167 = .ok (.aload_n 1, 1) := by decide +kernel
theorem dL_law_168 : decode cL_law 168 = .ok (.invokevirtual 18, 3) := by decide +kernel
theorem dL_law_171 : decode cL_law 171 = .ok (.aload_n 2, 1) := by decide +kernel
theorem dL_law_172 : decode cL_law 172 = .ok (.invokevirtual 22, 3) := by decide +kernel
theorem dL_law_175 : decode cL_law 175 = .ok (.if_icmp .eq 532, 3) := by decide +kernel
theorem dL_law_178 : decode cL_law 178 = .ok (.iconst 0, 1) := by decide +kernel
theorem dL_law_179 : decode cL_law 179 = .ok (.ireturn, 1) := by decide +kernel
theorem dL_law_180 : decode cL_law 180 = .ok (.aload_n 1, 1) := by decide +kernel
theorem dL_law_181 : decode cL_law 181 = .ok (.invokevirtual 23, 3) := by decide +kernel
theorem dL_law_184 : decode cL_law 184 = .ok (.aload_n 2, 1) := by decide +kernel
theorem dL_law_185 : decode cL_law 185 = .ok (.invokevirtual 26, 3) := by decide +kernel
theorem dL_law_188 : decode cL_law 188 = .ok (.if_icmp .eq 519, 3) := by decide +kernel
theorem dL_law_191 : decode cL_law 191 = .ok (.iconst 0, 1) := by decide +kernel
theorem dL_law_192 : decode cL_law 192 = .ok (.ireturn, 1) := by decide +kernel
theorem dL_law_193 : decode cL_law 193 = .ok (.aload_n 1, 1) := by decide +kernel
theorem dL_law_194 : decode cL_law 194 = .ok (.aload_n 0, 1) := by decide +kernel
theorem dL_law_195 : decode cL_law 195 = .ok (.iload_n 3, 1) := by decide +kernel
theorem dL_law_196 : decode cL_law 196 = .ok (.iconst 1, 1) := by decide +kernel
theorem dL_law_197 : decode cL_law 197 = .ok (.iadd, 1) := by decide +kernel
theorem dL_law_198 : decode cL_law 198 = .ok (.iaload, 1) := by decide +kernel
theorem dL_law_199 : decode cL_law 199 = .ok (.aload_n 0, 1) := by decide +kernel
theorem dL_law_200 : decode cL_law 200 = .ok (.iload_n 3, 1) := by decide +kernel
theorem dL_law_201 : decode cL_law 201 = .ok (.iconst 2, 1) := by decide +kernel
theorem dL_law_202 : decode cL_law 202 = .ok (.iadd, 1) := by decide +kernel
theorem dL_law_203 : decode cL_law 203 = .ok (.iaload, 1) := by decide +kernel
theorem dL_law_204 : decode cL_law 204 = .ok (.invokevirtual 27, 3) := by decide +kernel
theorem dL_law_207 : decode cL_law 207 = .ok (.aload_n 2, 1) := by decide +kernel
theorem dL_law_208 : decode cL_law 208 = .ok (.aload_n 0, 1) := by decide +kernel
theorem dL_law_209 : decode cL_law 209 = .ok (.iload_n 3, 1) := by decide +kernel
theorem dL_law_210 : decode cL_law 210 = .ok (.iconst 1, 1) := by decide +kernel
theorem dL_law_211 : decode cL_law 211 = .ok (.iadd, 1) := by decide +kernel
theorem dL_law_212 : decode cL_law 212 = .ok (.iaload, 1) := by decide +kernel
theorem dL_law_213 : decode cL_law 213 = .ok (.aload_n 0, 1) := by decide +kernel
theorem dL_law_214 : decode cL_law 214 = .ok (.iload_n 3, 1) := by decide +kernel
theorem dL_law_215 : decode cL_law 215 = .ok (.iconst 2, 1) := by decide +kernel
theorem dL_law_216 : decode cL_law 216 = .ok (.iadd, 1) := by decide +kernel
theorem dL_law_217 : decode cL_law 217 = .ok (.iaload, 1) := by decide +kernel
theorem dL_law_218 : decode cL_law 218 = .ok (.invokevirtual 31, 3) := by decide +kernel
theorem dL_law_221 : decode cL_law 221 = .ok (.if_icmp .eq 486, 3) := by decide +kernel
theorem dL_law_224 : decode cL_law 224 = .ok (.iconst 0, 1) := by decide +kernel
theorem dL_law_225 : decode cL_law 225 = .ok (.ireturn, 1) := by decide +kernel
theorem dL_law_226 : decode cL_law 226 = .ok (.aload_n 1, 1) := by decide +kernel
theorem dL_law_227 : decode cL_law 227 = .ok (.aload_n 0, 1) := by decide +kernel
theorem dL_law_228 : decode cL_law 228 = .ok (.iload_n 3, 1) := by decide +kernel
theorem dL_law_229 : decode cL_law 229 = .ok (.iconst 1, 1) := by decide +kernel
theorem dL_law_230 : decode cL_law 230 = .ok (.iadd, 1) := by decide +kernel
theorem dL_law_231 : decode cL_law 231 = .ok (.iaload, 1) := by decide +kernel
theorem dL_law_232 : decode cL_law 232 = .ok (.aload_n 0, 1) := by decide +kernel
theorem dL_law_233 : decode cL_law 233 = .ok (.iload_n 3, 1) := by decide +kernel
theorem dL_law_234 : decode cL_law 234 = .ok (.iconst 2, 1) := by decide +kernel
theorem dL_law_235 : decode cL_law 235 = .ok (.iadd, 1) := by decide +kernel
theorem dL_law_236 : decode cL_law 236 = .ok (.iaload, 1) := by decide +kernel
theorem dL_law_237 : decode cL_law 237 = .ok (.invokevirtual 32, 3) := by decide +kernel
theorem dL_law_240 : decode cL_law 240 = .ok (.aload_n 2, 1) := by decide +kernel
theorem dL_law_241 : decode cL_law 241 = .ok (.aload_n 0, 1) := by decide +kernel
theorem dL_law_242 : decode cL_law 242 = .ok (.iload_n 3, 1) := by decide +kernel
theorem dL_law_243 : decode cL_law 243 = .ok (.iconst 1, 1) := by decide +kernel
theorem dL_law_244 : decode cL_law 244 = .ok (.iadd, 1) := by decide +kernel
theorem dL_law_245 : decode cL_law 245 = .ok (.iaload, 1) := by decide +kernel
theorem dL_law_246 : decode cL_law 246 = .ok (.aload_n 0, 1) := by decide +kernel
theorem dL_law_247 : decode cL_law 247 = .ok (.iload_n 3, 1) := by decide +kernel
theorem dL_law_248 : decode cL_law 248 = .ok (.iconst 2, 1) := by decide +kernel
theorem dL_law_249 : decode cL_law 249 = .ok (.iadd, 1) := by decide +kernel
theorem dL_law_250 : decode cL_law 250 = .ok (.iaload, 1) := by decide +kernel
theorem dL_law_251 : decode cL_law 251 = .ok (.invokevirtual 35, 3) := by decide +kernel
theorem dL_law_254 : decode cL_law 254 = .ok (.if_icmp .eq 453, 3) := by decide +kernel
theorem dL_law_257 : decode cL_law 257 = .ok (.iconst 0, 1) := by decide +kernel
theorem dL_law_258 : decode cL_law 258 = .ok (.ireturn, 1) := by decide +kernel
theorem dL_law_259 : decode cL_law 259 = .ok (.aload_n 1, 1) := by decide +kernel
theorem dL_law_260 : decode cL_law 260 = .ok (.aload_n 0, 1) := by decide +kernel
theorem dL_law_261 : decode cL_law 261 = .ok (.iload_n 3, 1) := by decide +kernel
theorem dL_law_262 : decode cL_law 262 = .ok (.iconst 1, 1) := by decide +kernel
theorem dL_law_263 : decode cL_law 263 = .ok (.iadd, 1) := by decide +kernel
theorem dL_law_264 : decode cL_law 264 = .ok (.iaload, 1) := by decide +kernel
theorem dL_law_265 : decode cL_law 265 = .ok (.aload_n 0, 1) := by decide +kernel
theorem dL_law_266 : decode cL_law 266 = .ok (.iload_n 3, 1) := by decide +kernel
theorem dL_law_267 : decode cL_law 267 = .ok (.iconst 2, 1) := by decide +kernel
theorem dL_law_268 : decode cL_law 268 = .ok (.iadd, 1) := by decide +kernel
theorem dL_law_269 : decode cL_law 269 = .ok (.iaload, 1) := by decide +kernel
theorem dL_law_270 : decode cL_law 270 = .ok (.invokevirtual 36, 3) := by decide +kernel
theorem dL_law_273 : decode cL_law 273 = .ok (.aload_n 2, 1) := by decide +kernel
theorem dL_law_274 : decode cL_law 274 = .ok (.aload_n 0, 1) := by decide +kernel
theorem dL_law_275 : decode cL_law 275 = .ok (.iload_n 3, 1) := by decide +kernel
theorem dL_law_276 : decode cL_law 276 = .ok (.iconst 1, 1) := by decide +kernel
theorem dL_law_277 : decode cL_law 277 = .ok (.iadd, 1) := by decide +kernel
theorem dL_law_278 : decode cL_law 278 = .ok (.iaload, 1) := by decide +kernel
theorem dL_law_279 : decode cL_law 279 = .ok (.aload_n 0, 1) := by decide +kernel
theorem dL_law_280 : decode cL_law 280 = .ok (.iload_n 3, 1) := by decide +kernel
theorem dL_law_281 : decode cL_law 281 = .ok (.iconst 2, 1) := by decide +kernel
theorem dL_law_282 : decode cL_law 282 = .ok (.iadd, 1) := by decide +kernel
theorem dL_law_283 : decode cL_law 283 = .ok (.iaload, 1) := by decide +kernel
theorem dL_law_284 : decode cL_law 284 = .ok (.invokevirtual 39, 3) := by decide +kernel
theorem dL_law_287 : decode cL_law 287 = .ok (.if_icmp .eq 420, 3) := by decide +kernel
theorem dL_law_290 : decode cL_law 290 = .ok (.iconst 0, 1) := by decide +kernel
theorem dL_law_291 : decode cL_law 291 = .ok (.ireturn, 1) := by decide +kernel
theorem dL_law_292 : decode cL_law 292 = .ok (.aload_n 1, 1) := by decide +kernel
theorem dL_law_293 : decode cL_law 293 = .ok (.aload_n 0, 1) := by decide +kernel
theorem dL_law_294 : decode cL_law 294 = .ok (.iload_n 3, 1) := by decide +kernel
theorem dL_law_295 : decode cL_law 295 = .ok (.iconst 1, 1) := by decide +kernel
theorem dL_law_296 : decode cL_law 296 = .ok (.iadd, 1) := by decide +kernel
theorem dL_law_297 : decode cL_law 297 = .ok (.iaload, 1) := by decide +kernel
theorem dL_law_298 : decode cL_law 298 = .ok (.invokevirtual 40, 3) := by decide +kernel
theorem dL_law_301 : decode cL_law 301 = .ok (.aload_n 2, 1) := by decide +kernel
theorem dL_law_302 : decode cL_law 302 = .ok (.aload_n 0, 1) := by decide +kernel
theorem dL_law_303 : decode cL_law 303 = .ok (.iload_n 3, 1) := by decide +kernel
theorem dL_law_304 : decode cL_law 304 = .ok (.iconst 1, 1) := by decide +kernel
theorem dL_law_305 : decode cL_law 305 = .ok (.iadd, 1) := by decide +kernel
theorem dL_law_306 : decode cL_law 306 = .ok (.iaload, 1) := by decide +kernel
theorem dL_law_307 : decode cL_law 307 = .ok (.invokevirtual 43, 3) := by decide +kernel
theorem dL_law_310 : decode cL_law 310 = .ok (.if_icmp .eq 397, 3) := by decide +kernel
theorem dL_law_313 : decode cL_law 313 = .ok (.iconst 0, 1) := by decide +kernel
theorem dL_law_314 : decode cL_law 314 = .ok (.ireturn, 1) := by decide +kernel
theorem dL_law_315 : decode cL_law 315 = .ok (.aload_n 1, 1) := by decide +kernel
theorem dL_law_316 : decode cL_law 316 = .ok (.aload_n 0, 1) := by decide +kernel
theorem dL_law_317 : decode cL_law 317 = .ok (.iload_n 3, 1) := by decide +kernel
theorem dL_law_318 : decode cL_law 318 = .ok (.iconst 1, 1) := by decide +kernel
theorem dL_law_319 : decode cL_law 319 = .ok (.iadd, 1) := by decide +kernel
theorem dL_law_320 : decode cL_law 320 = .ok (.iaload, 1) := by decide +kernel
theorem dL_law_321 : decode cL_law 321 = .ok (.aload_n 0, 1) := by decide +kernel
theorem dL_law_322 : decode cL_law 322 = .ok (.iload_n 3, 1) := by decide +kernel
theorem dL_law_323 : decode cL_law 323 = .ok (.iconst 2, 1) := by decide +kernel
theorem dL_law_324 : decode cL_law 324 = .ok (.iadd, 1) := by decide +kernel
theorem dL_law_325 : decode cL_law 325 = .ok (.iaload, 1) := by decide +kernel
theorem dL_law_326 : decode cL_law 326 = .ok (.invokevirtual 44, 3) := by decide +kernel
theorem dL_law_329 : decode cL_law 329 = .ok (.aload_n 2, 1) := by decide +kernel
theorem dL_law_330 : decode cL_law 330 = .ok (.aload_n 0, 1) := by decide +kernel
theorem dL_law_331 : decode cL_law 331 = .ok (.iload_n 3, 1) := by decide +kernel
theorem dL_law_332 : decode cL_law 332 = .ok (.iconst 1, 1) := by decide +kernel
theorem dL_law_333 : decode cL_law 333 = .ok (.iadd, 1) := by decide +kernel
theorem dL_law_334 : decode cL_law 334 = .ok (.iaload, 1) := by decide +kernel
theorem dL_law_335 : decode cL_law 335 = .ok (.aload_n 0, 1) := by decide +kernel
theorem dL_law_336 : decode cL_law 336 = .ok (.iload_n 3, 1) := by decide +kernel
theorem dL_law_337 : decode cL_law 337 = .ok (.iconst 2, 1) := by decide +kernel
theorem dL_law_338 : decode cL_law 338 = .ok (.iadd, 1) := by decide +kernel
theorem dL_law_339 : decode cL_law 339 = .ok (.iaload, 1) := by decide +kernel
theorem dL_law_340 : decode cL_law 340 = .ok (.invokevirtual 47, 3) := by decide +kernel
theorem dL_law_343 : decode cL_law 343 = .ok (.if_icmp .eq 364, 3) := by decide +kernel
theorem dL_law_346 : decode cL_law 346 = .ok (.iconst 0, 1) := by decide +kernel
theorem dL_law_347 : decode cL_law 347 = .ok (.ireturn, 1) := by decide +kernel
theorem dL_law_348 : decode cL_law 348 = .ok (.aload_n 1, 1) := by decide +kernel
theorem dL_law_349 : decode cL_law 349 = .ok (.invokevirtual 48, 3) := by decide +kernel
theorem dL_law_352 : decode cL_law 352 = .ok (.aload_n 2, 1) := by decide +kernel
theorem dL_law_353 : decode cL_law 353 = .ok (.invokevirtual 51, 3) := by decide +kernel
theorem dL_law_356 : decode cL_law 356 = .ok (.if_icmp .eq 351, 3) := by decide +kernel
theorem dL_law_359 : decode cL_law 359 = .ok (.iconst 0, 1) := by decide +kernel
theorem dL_law_360 : decode cL_law 360 = .ok (.ireturn, 1) := by decide +kernel
theorem dL_law_361 : decode cL_law 361 = .ok (.aload_n 1, 1) := by decide +kernel
theorem dL_law_362 : decode cL_law 362 = .ok (.aload_n 0, 1) := by decide +kernel
theorem dL_law_363 : decode cL_law 363 = .ok (.iload_n 3, 1) := by decide +kernel
theorem dL_law_364 : decode cL_law 364 = .ok (.iconst 1, 1) := by decide +kernel
theorem dL_law_365 : decode cL_law 365 = .ok (.iadd, 1) := by decide +kernel
theorem dL_law_366 : decode cL_law 366 = .ok (.iaload, 1) := by decide +kernel
theorem dL_law_367 : decode cL_law 367 = .ok (.invokevirtual 52, 3) := by decide +kernel
theorem dL_law_370 : decode cL_law 370 = .ok (.aload_n 2, 1) := by decide +kernel
theorem dL_law_371 : decode cL_law 371 = .ok (.aload_n 0, 1) := by decide +kernel
theorem dL_law_372 : decode cL_law 372 = .ok (.iload_n 3, 1) := by decide +kernel
theorem dL_law_373 : decode cL_law 373 = .ok (.iconst 1, 1) := by decide +kernel
theorem dL_law_374 : decode cL_law 374 = .ok (.iadd, 1) := by decide +kernel
theorem dL_law_375 : decode cL_law 375 = .ok (.iaload, 1) := by decide +kernel
theorem dL_law_376 : decode cL_law 376 = .ok (.invokevirtual 55, 3) := by decide +kernel
theorem dL_law_379 : decode cL_law 379 = .ok (.if_icmp .eq 328, 3) := by decide +kernel
theorem dL_law_382 : decode cL_law 382 = .ok (.iconst 0, 1) := by decide +kernel
theorem dL_law_383 : decode cL_law 383 = .ok (.ireturn, 1) := by decide +kernel
theorem dL_law_384 : decode cL_law 384 = .ok (.aload_n 1, 1) := by decide +kernel
theorem dL_law_385 : decode cL_law 385 = .ok (.aload_n 0, 1) := by decide +kernel
theorem dL_law_386 : decode cL_law 386 = .ok (.iload_n 3, 1) := by decide +kernel
theorem dL_law_387 : decode cL_law 387 = .ok (.iconst 1, 1) := by decide +kernel
theorem dL_law_388 : decode cL_law 388 = .ok (.iadd, 1) := by decide +kernel
theorem dL_law_389 : decode cL_law 389 = .ok (.iaload, 1) := by decide +kernel
theorem dL_law_390 : decode cL_law 390 = .ok (.invokevirtual 56, 3) := by decide +kernel
theorem dL_law_393 : decode cL_law 393 = .ok (.aload_n 2, 1) := by decide +kernel
theorem dL_law_394 : decode cL_law 394 = .ok (.aload_n 0, 1) := by decide +kernel
theorem dL_law_395 : decode cL_law 395 = .ok (.iload_n 3, 1) := by decide +kernel
theorem dL_law_396 : decode cL_law 396 = .ok (.iconst 1, 1) := by decide +kernel
theorem dL_law_397 : decode cL_law 397 = .ok (.iadd, 1) := by decide +kernel
theorem dL_law_398 : decode cL_law 398 = .ok (.iaload, 1) := by decide +kernel
theorem dL_law_399 : decode cL_law 399 = .ok (.invokevirtual 59, 3) := by decide +kernel
theorem dL_law_402 : decode cL_law 402 = .ok (.if_icmp .eq 305, 3) := by decide +kernel
theorem dL_law_405 : decode cL_law 405 = .ok (.iconst 0, 1) := by decide +kernel
theorem dL_law_406 : decode cL_law 406 = .ok (.ireturn, 1) := by decide +kernel
theorem dL_law_407 : decode cL_law 407 = .ok (.aload_n 1, 1) := by decide +kernel
theorem dL_law_408 : decode cL_law 408 = .ok (.invokevirtual 60, 3) := by decide +kernel
theorem dL_law_411 : decode cL_law 411 = .ok (.aload_n 2, 1) := by decide +kernel
theorem dL_law_412 : decode cL_law 412 = .ok (.invokevirtual 63, 3) := by decide +kernel
theorem dL_law_415 : decode cL_law 415 = .ok (.if_icmp .eq 292, 3) := by decide +kernel
theorem dL_law_418 : decode cL_law 418 = .ok (.iconst 0, 1) := by decide +kernel
theorem dL_law_419 : decode cL_law 419 = .ok (.ireturn, 1) := by decide +kernel
theorem dL_law_420 : decode cL_law 420 = .ok (.aload_n 1, 1) := by decide +kernel
theorem dL_law_421 : decode cL_law 421 = .ok (.aload_n 0, 1) := by decide +kernel
theorem dL_law_422 : decode cL_law 422 = .ok (.iload_n 3, 1) := by decide +kernel
theorem dL_law_423 : decode cL_law 423 = .ok (.iconst 1, 1) := by decide +kernel
theorem dL_law_424 : decode cL_law 424 = .ok (.iadd, 1) := by decide +kernel
theorem dL_law_425 : decode cL_law 425 = .ok (.iaload, 1) := by decide +kernel
theorem dL_law_426 : decode cL_law 426 = .ok (.invokevirtual 64, 3) := by decide +kernel
theorem dL_law_429 : decode cL_law 429 = .ok (.aload_n 2, 1) := by decide +kernel
theorem dL_law_430 : decode cL_law 430 = .ok (.aload_n 0, 1) := by decide +kernel
theorem dL_law_431 : decode cL_law 431 = .ok (.iload_n 3, 1) := by decide +kernel
theorem dL_law_432 : decode cL_law 432 = .ok (.iconst 1, 1) := by decide +kernel
theorem dL_law_433 : decode cL_law 433 = .ok (.iadd, 1) := by decide +kernel
theorem dL_law_434 : decode cL_law 434 = .ok (.iaload, 1) := by decide +kernel
theorem dL_law_435 : decode cL_law 435 = .ok (.invokevirtual 67, 3) := by decide +kernel
theorem dL_law_438 : decode cL_law 438 = .ok (.if_icmp .eq 269, 3) := by decide +kernel
theorem dL_law_441 : decode cL_law 441 = .ok (.iconst 0, 1) := by decide +kernel
theorem dL_law_442 : decode cL_law 442 = .ok (.ireturn, 1) := by decide +kernel
theorem dL_law_443 : decode cL_law 443 = .ok (.aload_n 1, 1) := by decide +kernel
theorem dL_law_444 : decode cL_law 444 = .ok (.aload_n 0, 1) := by decide +kernel
theorem dL_law_445 : decode cL_law 445 = .ok (.iload_n 3, 1) := by decide +kernel
theorem dL_law_446 : decode cL_law 446 = .ok (.iconst 1, 1) := by decide +kernel
theorem dL_law_447 : decode cL_law 447 = .ok (.iadd, 1) := by decide +kernel
theorem dL_law_448 : decode cL_law 448 = .ok (.iaload, 1) := by decide +kernel
theorem dL_law_449 : decode cL_law 449 = .ok (.invokevirtual 68, 3) := by decide +kernel
theorem dL_law_452 : decode cL_law 452 = .ok (.aload_n 2, 1) := by decide +kernel
theorem dL_law_453 : decode cL_law 453 = .ok (.aload_n 0, 1) := by decide +kernel
theorem dL_law_454 : decode cL_law 454 = .ok (.iload_n 3, 1) := by decide +kernel
theorem dL_law_455 : decode cL_law 455 = .ok (.iconst 1, 1) := by decide +kernel
theorem dL_law_456 : decode cL_law 456 = .ok (.iadd, 1) := by decide +kernel
theorem dL_law_457 : decode cL_law 457 = .ok (.iaload, 1) := by decide +kernel
theorem dL_law_458 : decode cL_law 458 = .ok (.invokevirtual 71, 3) := by decide +kernel
theorem dL_law_461 : decode cL_law 461 = .ok (.if_icmp .eq 246, 3) := by decide +kernel
theorem dL_law_464 : decode cL_law 464 = .ok (.iconst 0, 1) := by decide +kernel
theorem dL_law_465 : decode cL_law 465 = .ok (.ireturn, 1) := by decide +kernel
theorem dL_law_466 : decode cL_law 466 = .ok (.aload_n 1, 1) := by decide +kernel
theorem dL_law_467 : decode cL_law 467 = .ok (.aload_n 0, 1) := by decide +kernel
theorem dL_law_468 : decode cL_law 468 = .ok (.iload_n 3, 1) := by decide +kernel
theorem dL_law_469 : decode cL_law 469 = .ok (.iconst 1, 1) := by decide +kernel
theorem dL_law_470 : decode cL_law 470 = .ok (.iadd, 1) := by decide +kernel
theorem dL_law_471 : decode cL_law 471 = .ok (.iaload, 1) := by decide +kernel
theorem dL_law_472 : decode cL_law 472 = .ok (.aload_n 0, 1) := by decide +kernel
theorem dL_law_473 : decode cL_law 473 = .ok (.iload_n 3, 1) := by decide +kernel
theorem dL_law_474 : decode cL_law 474 = .ok (.iconst 2, 1) := by decide +kernel
theorem dL_law_475 : decode cL_law 475 = .ok (.iadd, 1) := by decide +kernel
theorem dL_law_476 : decode cL_law 476 = .ok (.iaload, 1) := by decide +kernel
theorem dL_law_477 : decode cL_law 477 = .ok (.invokevirtual 72, 3) := by decide +kernel
theorem dL_law_480 : decode cL_law 480 = .ok (.aload_n 2, 1) := by decide +kernel
theorem dL_law_481 : decode cL_law 481 = .ok (.aload_n 0, 1) := by decide +kernel
theorem dL_law_482 : decode cL_law 482 = .ok (.iload_n 3, 1) := by decide +kernel
theorem dL_law_483 : decode cL_law 483 = .ok (.iconst 1, 1) := by decide +kernel
theorem dL_law_484 : decode cL_law 484 = .ok (.iadd, 1) := by decide +kernel
theorem dL_law_485 : decode cL_law 485 = .ok (.iaload, 1) := by decide +kernel
theorem dL_law_486 : decode cL_law 486 = .ok (.aload_n 0, 1) := by decide +kernel
theorem dL_law_487 : decode cL_law 487 = .ok (.iload_n 3, 1) := by decide +kernel
theorem dL_law_488 : decode cL_law 488 = .ok (.iconst 2, 1) := by decide +kernel
theorem dL_law_489 : decode cL_law 489 = .ok (.iadd, 1) := by decide +kernel
theorem dL_law_490 : decode cL_law 490 = .ok (.iaload, 1) := by decide +kernel
theorem dL_law_491 : decode cL_law 491 = .ok (.invokevirtual 75, 3) := by decide +kernel
theorem dL_law_494 : decode cL_law 494 = .ok (.if_icmp .eq 213, 3) := by decide +kernel
theorem dL_law_497 : decode cL_law 497 = .ok (.iconst 0, 1) := by decide +kernel
theorem dL_law_498 : decode cL_law 498 = .ok (.ireturn, 1) := by decide +kernel
theorem dL_law_499 : decode cL_law 499 = .ok (.aload_n 1, 1) := by decide +kernel
theorem dL_law_500 : decode cL_law 500 = .ok (.aload_n 0, 1) := by decide +kernel
theorem dL_law_501 : decode cL_law 501 = .ok (.iload_n 3, 1) := by decide +kernel
theorem dL_law_502 : decode cL_law 502 = .ok (.iconst 1, 1) := by decide +kernel
theorem dL_law_503 : decode cL_law 503 = .ok (.iadd, 1) := by decide +kernel
theorem dL_law_504 : decode cL_law 504 = .ok (.iaload, 1) := by decide +kernel
theorem dL_law_505 : decode cL_law 505 = .ok (.aload_n 0, 1) := by decide +kernel
theorem dL_law_506 : decode cL_law 506 = .ok (.iload_n 3, 1) := by decide +kernel
theorem dL_law_507 : decode cL_law 507 = .ok (.iconst 2, 1) := by decide +kernel
theorem dL_law_508 : decode cL_law 508 = .ok (.iadd, 1) := by decide +kernel
theorem dL_law_509 : decode cL_law 509 = .ok (.iaload, 1) := by decide +kernel
theorem dL_law_510 : decode cL_law 510 = .ok (.aload_n 0, 1) := by decide +kernel
theorem dL_law_511 : decode cL_law 511 = .ok (.iload_n 3, 1) := by decide +kernel
theorem dL_law_512 : decode cL_law 512 = .ok (.iconst 3, 1) := by decide +kernel
theorem dL_law_513 : decode cL_law 513 = .ok (.iadd, 1) := by decide +kernel
theorem dL_law_514 : decode cL_law 514 = .ok (.iaload, 1) := by decide +kernel
theorem dL_law_515 : decode cL_law 515 = .ok (.invokevirtual 76, 3) := by decide +kernel
theorem dL_law_518 : decode cL_law 518 = .ok (.aload_n 2, 1) := by decide +kernel
theorem dL_law_519 : decode cL_law 519 = .ok (.aload_n 0, 1) := by decide +kernel
theorem dL_law_520 : decode cL_law 520 = .ok (.iload_n 3, 1) := by decide +kernel
theorem dL_law_521 : decode cL_law 521 = .ok (.iconst 1, 1) := by decide +kernel
theorem dL_law_522 : decode cL_law 522 = .ok (.iadd, 1) := by decide +kernel
theorem dL_law_523 : decode cL_law 523 = .ok (.iaload, 1) := by decide +kernel
theorem dL_law_524 : decode cL_law 524 = .ok (.aload_n 0, 1) := by decide +kernel
theorem dL_law_525 : decode cL_law 525 = .ok (.iload_n 3, 1) := by decide +kernel
theorem dL_law_526 : decode cL_law 526 = .ok (.iconst 2, 1) := by decide +kernel
theorem dL_law_527 : decode cL_law 527 = .ok (.iadd, 1) := by decide +kernel
theorem dL_law_528 : decode cL_law 528 = .ok (.iaload, 1) := by decide +kernel
theorem dL_law_529 : decode cL_law 529 = .ok (.aload_n 0, 1) := by decide +kernel
theorem dL_law_530 : decode cL_law 530 = .ok (.iload_n 3, 1) := by decide +kernel
theorem dL_law_531 : decode cL_law 531 = .ok (.iconst 3, 1) := by decide +kernel
theorem dL_law_532 : decode cL_law 532 = .ok (.iadd, 1) := by decide +kernel
theorem dL_law_533 : decode cL_law 533 = .ok (.iaload, 1) := by decide +kernel
theorem dL_law_534 : decode cL_law 534 = .ok (.invokevirtual 80, 3) := by decide +kernel
theorem dL_law_537 : decode cL_law 537 = .ok (.if_icmp .eq 170, 3) := by decide +kernel
theorem dL_law_540 : decode cL_law 540 = .ok (.iconst 0, 1) := by decide +kernel
theorem dL_law_541 : decode cL_law 541 = .ok (.ireturn, 1) := by decide +kernel
theorem dL_law_542 : decode cL_law 542 = .ok (.aload_n 1, 1) := by decide +kernel
theorem dL_law_543 : decode cL_law 543 = .ok (.invokevirtual 81, 3) := by decide +kernel
theorem dL_law_546 : decode cL_law 546 = .ok (.aload_n 2, 1) := by decide +kernel
theorem dL_law_547 : decode cL_law 547 = .ok (.invokevirtual 84, 3) := by decide +kernel
theorem dL_law_550 : decode cL_law 550 = .ok (.if_icmp .eq 157, 3) := by decide +kernel
theorem dL_law_553 : decode cL_law 553 = .ok (.iconst 0, 1) := by decide +kernel
theorem dL_law_554 : decode cL_law 554 = .ok (.ireturn, 1) := by decide +kernel
theorem dL_law_555 : decode cL_law 555 = .ok (.aload_n 1, 1) := by decide +kernel
theorem dL_law_556 : decode cL_law 556 = .ok (.invokevirtual 85, 3) := by decide +kernel
theorem dL_law_559 : decode cL_law 559 = .ok (.aload_n 2, 1) := by decide +kernel
theorem dL_law_560 : decode cL_law 560 = .ok (.invokevirtual 88, 3) := by decide +kernel
theorem dL_law_563 : decode cL_law 563 = .ok (.if_icmp .eq 144, 3) := by decide +kernel
theorem dL_law_566 : decode cL_law 566 = .ok (.iconst 0, 1) := by decide +kernel
theorem dL_law_567 : decode cL_law 567 = .ok (.ireturn, 1) := by decide +kernel
theorem dL_law_568 : decode cL_law 568 = .ok (.aload_n 1, 1) := by decide +kernel
theorem dL_law_569 : decode cL_law 569 = .ok (.aload_n 0, 1) := by decide +kernel
theorem dL_law_570 : decode cL_law 570 = .ok (.iload_n 3, 1) := by decide +kernel
theorem dL_law_571 : decode cL_law 571 = .ok (.iconst 1, 1) := by decide +kernel
theorem dL_law_572 : decode cL_law 572 = .ok (.iadd, 1) := by decide +kernel
theorem dL_law_573 : decode cL_law 573 = .ok (.iaload, 1) := by decide +kernel
theorem dL_law_574 : decode cL_law 574 = .ok (.invokevirtual 89, 3) := by decide +kernel
theorem dL_law_577 : decode cL_law 577 = .ok (.aload_n 2, 1) := by decide +kernel
theorem dL_law_578 : decode cL_law 578 = .ok (.aload_n 0, 1) := by decide +kernel
theorem dL_law_579 : decode cL_law 579 = .ok (.iload_n 3, 1) := by decide +kernel
theorem dL_law_580 : decode cL_law 580 = .ok (.iconst 1, 1) := by decide +kernel
theorem dL_law_581 : decode cL_law 581 = .ok (.iadd, 1) := by decide +kernel
theorem dL_law_582 : decode cL_law 582 = .ok (.iaload, 1) := by decide +kernel
theorem dL_law_583 : decode cL_law 583 = .ok (.invokevirtual 92, 3) := by decide +kernel
theorem dL_law_586 : decode cL_law 586 = .ok (.if_icmp .eq 121, 3) := by decide +kernel
theorem dL_law_589 : decode cL_law 589 = .ok (.iconst 0, 1) := by decide +kernel
theorem dL_law_590 : decode cL_law 590 = .ok (.ireturn, 1) := by decide +kernel
theorem dL_law_591 : decode cL_law 591 = .ok (.aload_n 1, 1) := by decide +kernel
theorem dL_law_592 : decode cL_law 592 = .ok (.aload_n 0, 1) := by decide +kernel
theorem dL_law_593 : decode cL_law 593 = .ok (.iload_n 3, 1) := by decide +kernel
theorem dL_law_594 : decode cL_law 594 = .ok (.iconst 1, 1) := by decide +kernel
theorem dL_law_595 : decode cL_law 595 = .ok (.iadd, 1) := by decide +kernel
theorem dL_law_596 : decode cL_law 596 = .ok (.iaload, 1) := by decide +kernel
theorem dL_law_597 : decode cL_law 597 = .ok (.aload_n 0, 1) := by decide +kernel
theorem dL_law_598 : decode cL_law 598 = .ok (.iload_n 3, 1) := by decide +kernel
theorem dL_law_599 : decode cL_law 599 = .ok (.iconst 2, 1) := by decide +kernel
theorem dL_law_600 : decode cL_law 600 = .ok (.iadd, 1) := by decide +kernel
theorem dL_law_601 : decode cL_law 601 = .ok (.iaload, 1) := by decide +kernel
theorem dL_law_602 : decode cL_law 602 = .ok (.invokevirtual 93, 3) := by decide +kernel
theorem dL_law_605 : decode cL_law 605 = .ok (.aload_n 2, 1) := by decide +kernel
theorem dL_law_606 : decode cL_law 606 = .ok (.aload_n 0, 1) := by decide +kernel
theorem dL_law_607 : decode cL_law 607 = .ok (.iload_n 3, 1) := by decide +kernel
theorem dL_law_608 : decode cL_law 608 = .ok (.iconst 1, 1) := by decide +kernel
theorem dL_law_609 : decode cL_law 609 = .ok (.iadd, 1) := by decide +kernel
theorem dL_law_610 : decode cL_law 610 = .ok (.iaload, 1) := by decide +kernel
theorem dL_law_611 : decode cL_law 611 = .ok (.aload_n 0, 1) := by decide +kernel
theorem dL_law_612 : decode cL_law 612 = .ok (.iload_n 3, 1) := by decide +kernel
theorem dL_law_613 : decode cL_law 613 = .ok (.iconst 2, 1) := by decide +kernel
theorem dL_law_614 : decode cL_law 614 = .ok (.iadd, 1) := by decide +kernel
theorem dL_law_615 : decode cL_law 615 = .ok (.iaload, 1) := by decide +kernel
theorem dL_law_616 : decode cL_law 616 = .ok (.invokevirtual 96, 3) := by decide +kernel
theorem dL_law_619 : decode cL_law 619 = .ok (.if_icmp .eq 88, 3) := by decide +kernel
theorem dL_law_622 : decode cL_law 622 = .ok (.iconst 0, 1) := by decide +kernel
theorem dL_law_623 : decode cL_law 623 = .ok (.ireturn, 1) := by decide +kernel
theorem dL_law_624 : decode cL_law 624 = .ok (.aload_n 1, 1) := by decide +kernel
theorem dL_law_625 : decode cL_law 625 = .ok (.aload_n 0, 1) := by decide +kernel
theorem dL_law_626 : decode cL_law 626 = .ok (.iload_n 3, 1) := by decide +kernel
theorem dL_law_627 : decode cL_law 627 = .ok (.iconst 1, 1) := by decide +kernel
theorem dL_law_628 : decode cL_law 628 = .ok (.iadd, 1) := by decide +kernel
theorem dL_law_629 : decode cL_law 629 = .ok (.iaload, 1) := by decide +kernel
theorem dL_law_630 : decode cL_law 630 = .ok (.invokevirtual 97, 3) := by decide +kernel
theorem dL_law_633 : decode cL_law 633 = .ok (.aload_n 2, 1) := by decide +kernel
theorem dL_law_634 : decode cL_law 634 = .ok (.aload_n 0, 1) := by decide +kernel
theorem dL_law_635 : decode cL_law 635 = .ok (.iload_n 3, 1) := by decide +kernel
theorem dL_law_636 : decode cL_law 636 = .ok (.iconst 1, 1) := by decide +kernel
theorem dL_law_637 : decode cL_law 637 = .ok (.iadd, 1) := by decide +kernel
theorem dL_law_638 : decode cL_law 638 = .ok (.iaload, 1) := by decide +kernel
theorem dL_law_639 : decode cL_law 639 = .ok (.invokevirtual 100, 3) := by decide +kernel
theorem dL_law_642 : decode cL_law 642 = .ok (.if_icmp .eq 65, 3) := by decide +kernel
theorem dL_law_645 : decode cL_law 645 = .ok (.iconst 0, 1) := by decide +kernel
theorem dL_law_646 : decode cL_law 646 = .ok (.ireturn, 1) := by decide +kernel
theorem dL_law_647 : decode cL_law 647 = .ok (.aload_n 1, 1) := by decide +kernel
theorem dL_law_648 : decode cL_law 648 = .ok (.aload_n 0, 1) := by decide +kernel
theorem dL_law_649 : decode cL_law 649 = .ok (.iload_n 3, 1) := by decide +kernel
theorem dL_law_650 : decode cL_law 650 = .ok (.iconst 1, 1) := by decide +kernel
theorem dL_law_651 : decode cL_law 651 = .ok (.iadd, 1) := by decide +kernel
theorem dL_law_652 : decode cL_law 652 = .ok (.iaload, 1) := by decide +kernel
theorem dL_law_653 : decode cL_law 653 = .ok (.invokevirtual 101, 3) := by decide +kernel
theorem dL_law_656 : decode cL_law 656 = .ok (.aload_n 2, 1) := by decide +kernel
theorem dL_law_657 : decode cL_law 657 = .ok (.aload_n 0, 1) := by decide +kernel
theorem dL_law_658 : decode cL_law 658 = .ok (.iload_n 3, 1) := by decide +kernel
theorem dL_law_659 : decode cL_law 659 = .ok (.iconst 1, 1) := by decide +kernel
theorem dL_law_660 : decode cL_law 660 = .ok (.iadd, 1) := by decide +kernel
theorem dL_law_661 : decode cL_law 661 = .ok (.iaload, 1) := by decide +kernel
theorem dL_law_662 : decode cL_law 662 = .ok (.invokevirtual 104, 3) := by decide +kernel
theorem dL_law_665 : decode cL_law 665 = .ok (.if_icmp .eq 42, 3) := by decide +kernel
theorem dL_law_668 : decode cL_law 668 = .ok (.iconst 0, 1) := by decide +kernel
theorem dL_law_669 : decode cL_law 669 = .ok (.ireturn, 1) := by decide +kernel
theorem dL_law_670 : decode cL_law 670 = .ok (.aload_n 1, 1) := by decide +kernel
theorem dL_law_671 : decode cL_law 671 = .ok (.aload_n 0, 1) := by decide +kernel
theorem dL_law_672 : decode cL_law 672 = .ok (.iload_n 3, 1) := by decide +kernel
theorem dL_law_673 : decode cL_law 673 = .ok (.iconst 1, 1) := by decide +kernel
theorem dL_law_674 : decode cL_law 674 = .ok (.iadd, 1) := by decide +kernel
theorem dL_law_675 : decode cL_law 675 = .ok (.iaload, 1) := by decide +kernel
theorem dL_law_676 : decode cL_law 676 = .ok (.invokevirtual 105, 3) := by decide +kernel
theorem dL_law_679 : decode cL_law 679 = .ok (.aload_n 2, 1) := by decide +kernel
theorem dL_law_680 : decode cL_law 680 = .ok (.aload_n 0, 1) := by decide +kernel
theorem dL_law_681 : decode cL_law 681 = .ok (.iload_n 3, 1) := by decide +kernel
theorem dL_law_682 : decode cL_law 682 = .ok (.iconst 1, 1) := by decide +kernel
theorem dL_law_683 : decode cL_law 683 = .ok (.iadd, 1) := by decide +kernel
theorem dL_law_684 : decode cL_law 684 = .ok (.iaload, 1) := by decide +kernel
theorem dL_law_685 : decode cL_law 685 = .ok (.invokevirtual 108, 3) := by decide +kernel
theorem dL_law_688 : decode cL_law 688 = .ok (.if_icmp .eq 19, 3) := by decide +kernel
theorem dL_law_691 : decode cL_law 691 = .ok (.iconst 0, 1) := by decide +kernel
theorem dL_law_692 : decode cL_law 692 = .ok (.ireturn, 1) := by decide +kernel
theorem dL_law_693 : decode cL_law 693 = .ok (.aload_n 1, 1) := by decide +kernel
theorem dL_law_694 : decode cL_law 694 = .ok (.invokevirtual 109, 3) := by decide +kernel
theorem dL_law_697 : decode cL_law 697 = .ok (.aload_n 2, 1) := by decide +kernel
theorem dL_law_698 : decode cL_law 698 = .ok (.invokevirtual 113, 3) := by decide +kernel
theorem dL_law_701 : decode cL_law 701 = .ok (.lcmp, 1) := by decide +kernel
theorem dL_law_702 : decode cL_law 702 = .ok (.ifCond .eq 5, 3) := by decide +kernel
theorem dL_law_705 : decode cL_law 705 = .ok (.iconst 0, 1) := by decide +kernel
theorem dL_law_706 : decode cL_law 706 = .ok (.ireturn, 1) := by decide +kernel
theorem dL_law_707 : decode cL_law 707 = .ok (.iinc 3 4, 3) := by decide +kernel
theorem dL_law_710 : decode cL_law 710 = .ok (.goto (-692), 3) := by decide +kernel
theorem dL_law_713 : decode cL_law 713 = .ok (.iconst 1, 1) := by decide +kernel
theorem dL_law_714 : decode cL_law 714 = .ok (.ireturn, 1) := by decide +kernel
end
section
/-! the memory of the whole system: rows of ints and of longs, by place; the references never change once the two objects are made.
places: 0 the class's object, 1 its text, 2 letters, 3 plan 4 5, 6 draft 7 8, 9 past, 10 moments, 11 images, 12 imageKept, 13 sightings 14 15 16, 17 ways, 18 kinds, 19 .. 24 the six kinds, 25 the reference's object, 26 bulk, 27 push, 28 now, 29 aside, 30 past, 31 images, 32 isKept, 33 seen, 34 text, 35 readBulk, 36 readPush, 37 + 6 i the moments (0 state, 1 trial, 2 .. 11 past, 12 13 images), each with its five rows behind it -/
abbrev zM : Type := (Nat → Nat → Int32) × (Nat → Nat → Int64)
abbrev zE : Type := va_G × (Nat → Nat) × (Nat → ClassId)
abbrev zX : Type := Program × Launch × Env × Room × State × MethodId × Array Value × List Frame × Method × Code × Nat × Nat
def zmo (r : Nat → Nat) (c : Nat) (f : Nat → Int32) : List Value := [.ref (r 3), .int (f 1), .int (f 2), .ref (r (c + 1)), .ref (r (c + 2)), .ref (r (c + 3)), .ref (r (c + 4)), .ref (r (c + 5))]
def zpl (r : Nat → Nat) (c : Nat) (f : Nat → Int32) : List Value := [.int (f 0), .int (f 1), .int (f 2), .int (f 3), .ref (r (c + 1)), .ref (r (c + 2))]
def zdo (r : Nat → Nat) : List Value := [.ref (r 1), .ref (r 3), .ref (r 6), .ref (r 37), .ref (r 43), .ref (r 9), .ref (r 11), .ref (r 12), .ref (r 13), .ref (r 17), .ref (r 18)]
def ztx (r : Nat → Nat) (f : Nat → Int32) : List Value := [.ref (r 2), .int (f 1), .int (f 2), .int (f 3), .int (f 4), .int (f 5), .int (f 6)]
def zpa (r : Nat → Nat) (f : Nat → Int32) : List Value := [.ref (r 10), .int (f 1), .int (f 2)]
def zsi (r : Nat → Nat) (f : Nat → Int32) : List Value := [.ref (r 3), .ref (r 14), .ref (r 15), .ref (r 16), .int (f 4)]
def zmd (r : Nat → Nat) (f : Nat → Int32) (g : Nat → Int64) : List Value := [.int (f 0), .int (f 1), .int (f 2), .int (f 3), .ref (r 26), .ref (r 27), .ref (r 28), .ref (r 29), .ref (r 30), .int (f 9), .ref (r 31), .ref (r 32), .ref (r 33), .int (f 13), .long (g 14), .ref (r 34), .int (f 16), .int (f 17), .int (f 18), .int (f 19), .int (f 20), .int (f 21), .int (f 22), .int (f 23), .int (f 24), .ref (r 35), .ref (r 36)]
def zfix (E : zE) (f : Nat → Int32) (g : Nat → Int64) : Nat → va_E
  | 0 => .inr (11, zdo E.2.1)
  | 1 => .inr (10, ztx E.2.1 f)
  | 2 => .inl (E.2.2 0, 100, .inl f)
  | 3 => .inr (7, zpl E.2.1 3 f)
  | 4 => .inl (E.2.2 0, 6, .inl f)
  | 5 => .inl (E.2.2 0, 6, .inl f)
  | 6 => .inr (7, zpl E.2.1 6 f)
  | 7 => .inl (E.2.2 0, 6, .inl f)
  | 8 => .inl (E.2.2 0, 6, .inl f)
  | 9 => .inr (6, zpa E.2.1 f)
  | 10 => .inl (E.2.2 3, 10, .inr (.inr (.inr (.inr (fun j => some (E.2.1 (49 + 6 * j)))))))
  | 11 => .inl (E.2.2 3, 2, .inr (.inr (.inr (.inr (fun j => some (E.2.1 (109 + 6 * j)))))))
  | 12 => .inl (E.2.2 2, 2, .inl f)
  | 13 => .inr (8, zsi E.2.1 f)
  | 14 => .inl (E.2.2 0, 6, .inl f)
  | 15 => .inl (E.2.2 0, 6, .inl f)
  | 16 => .inl (E.2.2 0, 6, .inl f)
  | 17 => .inl (E.2.2 1, 82, .inr (.inl g))
  | 18 => .inl (E.2.2 4, 6, .inr (.inr (.inr (.inr (fun j => some (E.2.1 (19 + j)))))))
  | 19 => .inr (2, [.long (g 0)])
  | 20 => .inr (0, [.long (g 0)])
  | 21 => .inr (4, [.long (g 0)])
  | 22 => .inr (1, [.long (g 0)])
  | 23 => .inr (3, [.long (g 0)])
  | 24 => .inr (9, [.long (g 0)])
  | 25 => .inr (12, zmd E.2.1 f g)
  | 26 => .inl (E.2.2 0, 6, .inl f)
  | 27 => .inl (E.2.2 0, 6, .inl f)
  | 28 => .inl (E.2.2 0, 47, .inl f)
  | 29 => .inl (E.2.2 0, 47, .inl f)
  | 30 => .inl (E.2.2 0, 470, .inl f)
  | 31 => .inl (E.2.2 0, 94, .inl f)
  | 32 => .inl (E.2.2 2, 2, .inl f)
  | 33 => .inl (E.2.2 0, 18, .inl f)
  | 34 => .inl (E.2.2 0, 100, .inl f)
  | 35 => .inl (E.2.2 0, 6, .inl f)
  | _ => .inl (E.2.2 0, 6, .inl f)
def zc (E : zE) (k : Nat) (f : Nat → Int32) (g : Nat → Int64) : va_E := if k < 37 then zfix E f g k else if (k - 37) % 6 = 0 then .inr (5, zmo E.2.1 k f) else .inl (E.2.2 0, 9, .inl f)
/-- a place of a moment, of a plan -/
def zmp (c : Nat) : Prop := 37 ≤ c ∧ c < 121 ∧ (c - 37) % 6 = 0
def zpp (c : Nat) : Prop := c = 3 ∨ c = 6
theorem zmp.lt {c : Nat} (h : zmp c) : c < 121 := h.2.1
theorem zmp.lt' {c : Nat} (h : zmp c) (j : Nat) (hj : j < 6) : c + j < 121 := by
  obtain ⟨h1, h2, h3⟩ := h
  omega
theorem zpp.lt {c : Nat} (h : zpp c) : c < 121 := by
  rcases h with h | h <;> omega
theorem zpp.lt' {c : Nat} (h : zpp c) (j : Nat) (hj : j < 3) : c + j < 121 := by
  rcases h with h | h <;> omega
theorem zmp.c {c : Nat} (h : zmp c) (E : zE) (f : Nat → Int32) (g : Nat → Int64) : zc E c f g = .inr (5, zmo E.2.1 c f) := by
  obtain ⟨h1, h2, h3⟩ := h
  rw [zc, if_neg (by omega), if_pos h3]
theorem zmp.a {c : Nat} (h : zmp c) {j : Nat} (h0 : 0 < j) (hj : j < 6) (E : zE) (f : Nat → Int32) (g : Nat → Int64) : zc E (c + j) f g = .inl (E.2.2 0, 9, .inl f) := by
  obtain ⟨h1, h2, h3⟩ := h
  rw [zc, if_neg (by omega), if_neg (by omega)]
theorem zpp.c {c : Nat} (h : zpp c) (E : zE) (f : Nat → Int32) (g : Nat → Int64) : zc E c f g = .inr (7, zpl E.2.1 c f) := by
  rcases h with rfl | rfl <;> rfl
theorem zpp.a {c : Nat} (h : zpp c) {j : Nat} (h0 : 0 < j) (hj : j < 3) (E : zE) (f : Nat → Int32) (g : Nat → Int64) : zc E (c + j) f g = .inl (E.2.2 0, 6, .inl f) := by
  rcases h with rfl | rfl <;> rcases (show j = 1 ∨ j = 2 by omega) with rfl | rfl <;> rfl
/-- a place of a row of ints, of length n -/
def zia (a n : Nat) : Prop := a < 121 ∧ ∀ (E : zE) (f : Nat → Int32) (g : Nat → Int64), zc E a f g = .inl (E.2.2 0, n, .inl f)
theorem zmp.ia {c : Nat} (h : zmp c) {j : Nat} (h0 : 0 < j) (hj : j < 6) : zia (c + j) 9 := ⟨h.lt' j hj, fun E f g => h.a h0 hj E f g⟩
theorem zpp.ia {c : Nat} (h : zpp c) {j : Nat} (h0 : 0 < j) (hj : j < 3) : zia (c + j) 6 := ⟨h.lt' j hj, fun E f g => h.a h0 hj E f g⟩
/-- the world -/
def zl (E : zE) (M : zM) : va_W := (List.range 121).map (fun k => (E.2.1 k, zc E k (M.1 k) (M.2 k)))
def zA (E : zE) : Nat → Prop := fun q => ∃ k, k < 121 ∧ q = E.2.1 k
def zI (E : zE) : Prop := ∀ i j, i < 121 → j < 121 → E.2.1 i = E.2.1 j → i = j
def zt (E : zE) : List (ClassId × FieldType) := [(E.2.2 0, .int), (E.2.2 1, .long), (E.2.2 2, .boolean), (E.2.2 3, .object "WingDoor$Moment"), (E.2.2 4, .object "WingDoor$DoorKind")]
def zr (M : zM) (k : Nat) (f : Nat → Int32) : zM := (fun q => if q = k then f else M.1 q, M.2)
def zrL (M : zM) (k : Nat) (g : Nat → Int64) : zM := (M.1, fun q => if q = k then g else M.2 q)
def zs (M : zM) (k j : Nat) (v : Int32) : zM := zr M k (upd (M.1 k) j v)
def zsL (M : zM) (k j : Nat) (v : Int64) : zM := zrL M k (vp_updL (M.2 k) j v)
theorem zl_at {E : zE} {M : zM} {k : Nat} (hk : k < 121) : (zl E M)[k]? = some (E.2.1 k, zc E k (M.1 k) (M.2 k)) := by
  rw [zl, List.getElem?_map, List.getElem?_range hk]
  rfl
theorem zl_len {E : zE} {M : zM} : (zl E M).length = 121 := by rw [zl, List.length_map, List.length_range]
theorem zl_of {E : zE} {M : zM} {k : Nat} {q : Nat × va_E} (h : (zl E M)[k]? = some q) : k < 121 ∧ q = (E.2.1 k, zc E k (M.1 k) (M.2 k)) := by
  have hk : k < 121 := by
    have := (List.getElem?_eq_some_iff.mp h).1
    rwa [zl_len] at this
  rw [zl_at hk] at h
  exact ⟨hk, (Option.some.inj h).symm⟩
theorem zl_setG {E : zE} {M M' : zM} {k : Nat} {e : va_E} (hk : k < 121) (he : e = zc E k (M'.1 k) (M'.2 k)) (h1 : ∀ q, q ≠ k → M'.1 q = M.1 q) (h2 : ∀ q, q ≠ k → M'.2 q = M.2 q) : (zl E M).set k (E.2.1 k, e) = zl E M' := by
  apply List.ext_getElem?
  intro i
  by_cases hi : i < 121
  · rw [zl_at hi]
    by_cases hik : k = i
    · subst hik
      rw [List.getElem?_set_self (by rw [zl_len]; exact hk), he]
    · rw [List.getElem?_set_ne hik, zl_at hi, h1 i (fun h => hik h.symm), h2 i (fun h => hik h.symm)]
  · rw [List.getElem?_eq_none (by rw [List.length_set, zl_len]; omega), List.getElem?_eq_none (by rw [zl_len]; omega)]
theorem zl_set {E : zE} {M : zM} {k : Nat} {f : Nat → Int32} {e : va_E} (hk : k < 121) (he : e = zc E k f (M.2 k)) : (zl E M).set k (E.2.1 k, e) = zl E (zr M k f) := by
  refine zl_setG hk ?_ (fun q hq => ?_) (fun q _ => rfl)
  · rw [he]; simp [zr]
  · simp [zr, hq]
theorem zl_setL {E : zE} {M : zM} {k : Nat} {g : Nat → Int64} {e : va_E} (hk : k < 121) (he : e = zc E k (M.1 k) g) : (zl E M).set k (E.2.1 k, e) = zl E (zrL M k g) := by
  refine zl_setG hk ?_ (fun q _ => rfl) (fun q hq => ?_)
  · rw [he]; simp [zrL]
  · simp [zrL, hq]
theorem zl_D {E : zE} (hI : zI E) (M : zM) : va_D (zA E) (zl E M) := by
  refine ⟨fun i j p q hp hq e => ?_, fun k q hq => ?_⟩
  · obtain ⟨h1, rfl⟩ := zl_of hp
    obtain ⟨h2, rfl⟩ := zl_of hq
    exact hI i j h1 h2 e
  · obtain ⟨h1, rfl⟩ := zl_of hq
    exact ⟨k, h1, rfl⟩
end
section
/-! words of nest mates: they are no word that a callee may take along; they come with the start of every contract -/
def zNf : List Cond := [.fieldLinkNest "WingDoor" 90 "WingDoor$Text" "length" "I" "WingDoor", .fieldLinkNest "WingDoor$Text" 64 "WingDoor$Plan" "rooms" "I" "WingDoor", .fieldLinkNest "WingDoor" 146 "WingDoor$Plan" "rooms" "I" "WingDoor", .fieldLinkNest "WingDoor$Text" 67 "WingDoor$Plan" "wide" "I" "WingDoor", .fieldLinkNest "WingDoor$Moment" 94 "WingDoor$Plan" "wide" "I" "WingDoor", .fieldLinkNest "WingDoor" 250 "WingDoor$Plan" "wide" "I" "WingDoor", .fieldLinkNest "WingDoor$Text" 74 "WingDoor$Plan" "hard" "I" "WingDoor", .fieldLinkNest "WingDoor$Moment" 65 "WingDoor$Plan" "hard" "I" "WingDoor", .fieldLinkNest "WingDoor" 253 "WingDoor$Plan" "hard" "I" "WingDoor", .fieldLinkNest "WingDoor$Sightings" 29 "WingDoor$Plan" "sorts" "I" "WingDoor", .fieldLinkNest "WingDoor$Text" 51 "WingDoor$Plan" "sorts" "I" "WingDoor", .fieldLinkNest "WingDoor" 256 "WingDoor$Plan" "sorts" "I" "WingDoor", .fieldLinkNest "WingDoor$StoreKind" 19 "WingDoor$Moment" "step" "I" "WingDoor", .fieldLinkNest "WingDoor" 155 "WingDoor$Moment" "step" "I" "WingDoor", .fieldLinkNest "WingDoor" 174 "WingDoor$Moment" "goers" "I" "WingDoor", .fieldLinkNest "WingDoor" 124 "WingDoor$Moment" "sortOf" "[I" "WingDoor", .fieldLinkNest "WingDoor" 128 "WingDoor$Moment" "sideOf" "[I" "WingDoor", .fieldLinkNest "WingDoor" 131 "WingDoor$Moment" "whereOf" "[I" "WingDoor", .fieldLinkNest "WingDoor" 134 "WingDoor$Moment" "placeOf" "[I" "WingDoor", .fieldLinkNest "WingDoor" 104 "WingDoor$Past" "size" "I" "WingDoor", .fieldLinkNest "WingDoor" 107 "WingDoor$Sightings" "size" "I" "WingDoor"]
def zNm : List Cond := [.methodLinkNest "WingDoor" 9 ⟨"WingDoor$Text", "<init>", "()V"⟩ "WingDoor", .methodLinkNest "WingDoor" 66 ⟨"WingDoor$DoorKind", "<init>", "()V"⟩ "WingDoor", .methodLinkNest "WingDoor" 69 ⟨"WingDoor$BankKind", "<init>", "()V"⟩ "WingDoor", .methodLinkNest "WingDoor$BankKind" 1 ⟨"WingDoor$DoorKind", "<init>", "()V"⟩ "WingDoor", .methodLinkNest "WingDoor" 72 ⟨"WingDoor$HotelKind", "<init>", "()V"⟩ "WingDoor", .methodLinkNest "WingDoor$HotelKind" 3 ⟨"WingDoor$DoorKind", "<init>", "()V"⟩ "WingDoor", .methodLinkNest "WingDoor" 75 ⟨"WingDoor$CourtKind", "<init>", "()V"⟩ "WingDoor", .methodLinkNest "WingDoor$CourtKind" 1 ⟨"WingDoor$BankKind", "<init>", "()V"⟩ "WingDoor", .methodLinkNest "WingDoor" 78 ⟨"WingDoor$GrandKind", "<init>", "()V"⟩ "WingDoor", .methodLinkNest "WingDoor$GrandKind" 1 ⟨"WingDoor$HotelKind", "<init>", "()V"⟩ "WingDoor", .methodLinkNest "WingDoor" 81 ⟨"WingDoor$StoreKind", "<init>", "()V"⟩ "WingDoor", .methodLinkNest "WingDoor$StoreKind" 1 ⟨"WingDoor$DoorKind", "<init>", "()V"⟩ "WingDoor"]
def zNc : List Cond := [.castable "WingDoor$BankKind" "WingDoor$DoorKind", .castable "WingDoor$HotelKind" "WingDoor$DoorKind", .castable "WingDoor$CourtKind" "WingDoor$DoorKind", .castable "WingDoor$GrandKind" "WingDoor$DoorKind", .castable "WingDoor$StoreKind" "WingDoor$DoorKind"]
def zN (U : State) : Prop := (∀ w ∈ zNf, va_Nw w U) ∧ (∀ w ∈ zNm, va_Nw w U) ∧ ∀ w ∈ zNc, va_Nw w U
theorem zN.warm {s U : State} (hW : s.WarmedH U.vm) (h : zN s) : zN U := by
  refine ⟨?_, ?_, ?_⟩
  · have h := h.1
    unfold zNf at h ⊢
    simp only [List.forall_mem_cons] at h ⊢
    obtain ⟨h0, h1, h2, h3, h4, h5, h6, h7, h8, h9, h10, h11, h12, h13, h14, h15, h16, h17, h18, h19, h20, -⟩ := h
    exact ⟨va_Nw.warmF hW h0, va_Nw.warmF hW h1, va_Nw.warmF hW h2, va_Nw.warmF hW h3, va_Nw.warmF hW h4, va_Nw.warmF hW h5, va_Nw.warmF hW h6, va_Nw.warmF hW h7, va_Nw.warmF hW h8, va_Nw.warmF hW h9, va_Nw.warmF hW h10, va_Nw.warmF hW h11, va_Nw.warmF hW h12, va_Nw.warmF hW h13, va_Nw.warmF hW h14, va_Nw.warmF hW h15, va_Nw.warmF hW h16, va_Nw.warmF hW h17, va_Nw.warmF hW h18, va_Nw.warmF hW h19, va_Nw.warmF hW h20, fun _ hx => absurd hx List.not_mem_nil⟩
  · have h := h.2.1
    unfold zNm at h ⊢
    simp only [List.forall_mem_cons] at h ⊢
    obtain ⟨h0, h1, h2, h3, h4, h5, h6, h7, h8, h9, h10, h11, -⟩ := h
    exact ⟨va_Nw.warmM hW h0, va_Nw.warmM hW h1, va_Nw.warmM hW h2, va_Nw.warmM hW h3, va_Nw.warmM hW h4, va_Nw.warmM hW h5, va_Nw.warmM hW h6, va_Nw.warmM hW h7, va_Nw.warmM hW h8, va_Nw.warmM hW h9, va_Nw.warmM hW h10, va_Nw.warmM hW h11, fun _ hx => absurd hx List.not_mem_nil⟩
  · have h := h.2.2
    unfold zNc at h ⊢
    simp only [List.forall_mem_cons] at h ⊢
    obtain ⟨h0, h1, h2, h3, h4, -⟩ := h
    exact ⟨va_Nw.warmC hW h0, va_Nw.warmC hW h1, va_Nw.warmC hW h2, va_Nw.warmC hW h3, va_Nw.warmC hW h4, fun _ hx => absurd hx List.not_mem_nil⟩
theorem zN_tab : ∀ w ∈ zNf ++ (zNm ++ zNc), w ∈ lw_tbl := by decide +kernel
theorem zN_on : ∀ w ∈ zNf ++ (zNm ++ zNc), w.onTables = true := by decide +kernel
theorem zN.of {A : Array Value} {U : State} (h : ∀ w ∈ lw_tbl, w.before A U = true) : zN U := ⟨fun w hw => va_Nw.of (zN_on w (List.mem_append_left _ hw)) (h w (zN_tab w (List.mem_append_left _ hw))), fun w hw => va_Nw.of (zN_on w (List.mem_append_right _ (List.mem_append_left _ hw))) (h w (zN_tab w (List.mem_append_right _ (List.mem_append_left _ hw)))), fun w hw => va_Nw.of (zN_on w (List.mem_append_right _ (List.mem_append_right _ hw))) (h w (zN_tab w (List.mem_append_right _ (List.mem_append_right _ hw))))⟩
theorem zN.same {u U : State} (h : u.vm = U.vm) (hZ : zN u) : zN U := ⟨fun w hw => va_Nw.same (zN_on w (List.mem_append_left _ hw)) h (hZ.1 w hw), fun w hw => va_Nw.same (zN_on w (List.mem_append_right _ (List.mem_append_left _ hw))) h (hZ.2.1 w hw), fun w hw => va_Nw.same (zN_on w (List.mem_append_right _ (List.mem_append_right _ hw))) h (hZ.2.2 w hw)⟩
/-- the word of the tables, all of them good -/
theorem zw_good : GoodIn lw_tbl zG := fun w hw => ⟨zG_in hw, zG_good hw⟩
theorem zw_sub {ws : List Cond} (h : ∀ w ∈ ws, w ∈ zG) {big : List Cond} (hb : ∀ w ∈ zG, w ∈ big) : GoodIn big ws := fun w hw => ⟨hb w (h w hw), (zw_good w (h w hw)).2⟩
/-- the room of a method with d calls below it -/
def zR (d : Nat) : Room := { frames := d, cells := 0, slots := 0, locals := 40 * d }
/-- what a method's body knows -/
abbrev zC (X : zX) (E : zE) (cc : ByteArray) (nL : Nat) (own : String) (rt : Option FieldType) (d : Nat) : Prop :=
  X.1.tables.exec = Jvm.exec ∧ X.2.2.2.2.2.2.2.2.2.1.code = cc ∧ X.2.2.2.2.2.2.2.2.2.1.maxLocals = nL ∧ X.2.2.2.2.1.vm.findClass own = some X.2.2.2.2.2.1.cls ∧ (∀ w ∈ zG, w.before X.2.2.2.2.2.2.1 X.2.2.2.2.1 = true) ∧ va_K E.1 vwCl (zt E) X.2.2.2.2.1 ∧ zN X.2.2.2.2.1 ∧ zI E ∧ (X.2.2.2.2.2.2.2.2.2.2.1 ≤ X.2.2.2.1.cells ∧ X.2.2.2.2.2.2.2.2.2.2.2 ≤ X.2.2.2.1.slots) ∧ (d ≤ X.2.2.2.1.frames ∧ 40 * d ≤ X.2.2.2.1.locals) ∧ X.2.2.2.2.2.2.2.2.1.locks = false ∧ X.2.2.2.2.2.2.2.2.1.sig.returnType = rt
/-- the machine at a place of a method, over the world that holds M -/
def zW (X : zX) (E : zE) (Q : State → Prop) (M : zM) (pc : Nat) (lv : List (Nat × Value)) (st : List Value) : Prop :=
  ∀ (H : Heap) (locs : List Loc) (ls : Array Slot), va_P E.1 vwCl (zl E M) H → va_S (zA E) X.2.2.2.2.1.heap H locs → lv_has ls X.2.2.2.2.2.2.2.2.2.1.maxLocals lv → W X.1 X.2.1 X.2.2.1 X.2.2.2.1 X.2.2.2.2.1 X.2.2.2.2.2.1 X.2.2.2.2.2.2.1 X.2.2.2.2.2.2.2.1 X.2.2.2.2.2.2.2.2.1 X.2.2.2.2.2.2.2.2.2.1 H locs X.2.2.2.2.2.2.2.2.2.2.1 X.2.2.2.2.2.2.2.2.2.2.2 Q (F0 X.2.2.2.2.2.1 pc ls st)
/-- a contract: from the world M to the world M', with an answer -/
def zP (E : zE) (M : zM) (U : State) : Prop := va_P E.1 vwCl (zl E M) U.heap ∧ va_K E.1 vwCl (zt E) U ∧ zN U
def zQ (E : zE) (rv : Option Value) (M : zM) : Array Value → State → Outcome → State → Prop := fun _ st oc t => oc = .returned rv ∧ va_P E.1 vwCl (zl E M) t.heap ∧ va_F (zA E) st t
def zMet (l : Launch) (E : zE) (y : MethodName) (cc : ByteArray) (mL : Nat) (rt : Option FieldType) (d : Nat) (avs : List Value) (M M' : zM) (rv : Option Value) : Prop :=
  Met l y (.code y cc mL rt :: zG) (zR d) (va_Pc avs (zP E M)) (zQ E rv M') 0 0 (zA E)
def zRQ (X : zX) (E : zE) (rv : Option Value) (M : zM) : State → Prop := MQ X.2.2.2.2.2.2.2.1 (zQ E rv M) X.2.2.2.2.2.2.1 X.2.2.2.2.1 X.2.2.2.2.2.2.2.2.2.2.1 X.2.2.2.2.2.2.2.2.2.2.2 (zA E)
/-- a contract out of its body -/
theorem zm_of {l : Launch} {E : zE} {y : MethodName} {cc : ByteArray} {mL : Nat} {rt : Option FieldType} {d : Nat} {avs : List Value} {M M' : zM} {rv : Option Value} (hI : zI E) (hy : plainName y.cls = true) (hlen : (lg_sl avs).length ≤ mL)
    (body : ∀ X : zX, X.2.1 = l → zC X E cc mL y.cls rt d → zW X E (zRQ X E rv M') M 0 (lv_args 0 avs) []) : zMet l E y cc mL rt d avs M M' rv := by
  refine Met.ofW (cc := cc) (maxL := mL) (ret := rt) hy rfl ?_
  intro p e s m args below meth c s₁ B hml hv
  obtain ⟨rfl, hP, hK, hN⟩ := hv
  have hts := atoms_spec (ws := .code y cc mL rt :: zG) B.pre
  have hl := lv_entry avs (n := mL) hlen
  rw [lg_entry_eq]
  have hb := body (p, l, e, zR d, s, m, avs.toArray, below, meth, c, 0, 0) rfl ⟨B.exec, B.bytes, hml, findClass_of_methodNamed B.named, fun w hw => hts w (List.mem_cons_of_mem _ hw), hK, hN, hI, ⟨Nat.le_refl _, Nat.le_refl _⟩, ⟨Nat.le_refl _, Nat.le_refl _⟩, B.notSynchronized, B.returns⟩
  exact hb s.heap [] _ hP va_S.rf (by show lv_has _ c.maxLocals _; rw [hml]; exact hl)
theorem zM_blind (E : zE) (M : zM) (avs : List Value) : FrameBlind (va_Pc avs (zP E M)) := fun a U g mk q => ⟨q.1, q.2.1, va_K.moved (u := U) (U := U.calling g mk a) (Vm.Alike.refl U.vm) q.2.2.1, zN.same (u := U) (U := U.calling g mk a) rfl q.2.2.2⟩
section ZROWS
variable {X : zX} {E : zE} {cc : ByteArray} {nL : Nat} {own : String} {rt : Option FieldType} {d : Nat} {Q : State → Prop} {M : zM} {pc : Nat} {lv lv' : List (Nat × Value)} {st : List Value}
theorem zw_sb (ks : List Nat) (hl : lv_pick lv ks = lv') (k : zW X E Q M pc lv' st) : zW X E Q M pc lv st := fun H locs ls hP hS h => k H locs ls hP hS (lv_sub h ks hl)
theorem zw_iconst (C : zC X E cc nL own rt d) {n : Int} {v : Int32} (hd : decode cc pc = .ok (.iconst n, 1)) (hv : Int32.ofInt n = v) (k : zW X E Q M (pc + 1) lv (.int v :: st)) : zW X E Q M pc lv st := fun H locs ls hP hS h => lv_iconst C.1 C.2.1 hd hv (k H locs ls hP hS h)
theorem zw_bipush (C : zC X E cc nL own rt d) {n : Int} {v : Int32} (hd : decode cc pc = .ok (.bipush n, 2)) (hv : (Int8.ofInt n).toInt32 = v) (k : zW X E Q M (pc + 2) lv (.int v :: st)) : zW X E Q M pc lv st := fun H locs ls hP hS h => lv_bipush C.1 C.2.1 hd hv (k H locs ls hP hS h)
theorem zw_sipush (C : zC X E cc nL own rt d) {n : Int} {v : Int32} (hd : decode cc pc = .ok (.sipush n, 3)) (hv : (Int16.ofInt n).toInt32 = v) (k : zW X E Q M (pc + 3) lv (.int v :: st)) : zW X E Q M pc lv st := fun H locs ls hP hS h => lv_sipush C.1 C.2.1 hd hv (k H locs ls hP hS h)
theorem zw_lconst (C : zC X E cc nL own rt d) {n : Fin 2} {v : Int64} (hd : decode cc pc = .ok (.lconst n, 1)) (hv : Int64.ofNat (n : Nat) = v) (k : zW X E Q M (pc + 1) lv (.long v :: st)) : zW X E Q M pc lv st := fun H locs ls hP hS h => lv_lconst C.1 C.2.1 hd hv (k H locs ls hP hS h)
theorem zw_ldc (C : zC X E cc nL own rt d) {i : Nat} {v : Int32} (hw : Cond.constant own i v ∈ zG) (hd : decode cc pc = .ok (.ldc i, 2)) (k : zW X E Q M (pc + 2) lv (.int v :: st)) : zW X E Q M pc lv st := fun H locs ls hP hS h => lv_ldc C.1 C.2.1 C.2.2.2.1 (C.2.2.2.2.1 _ hw) hd (k H locs ls hP hS h)
theorem zw_ldcw (C : zC X E cc nL own rt d) {i : Nat} {v : Int32} (hw : Cond.constant own i v ∈ zG) (hd : decode cc pc = .ok (.ldc_w i, 3)) (k : zW X E Q M (pc + 3) lv (.int v :: st)) : zW X E Q M pc lv st := fun H locs ls hP hS h => lv_ldcw C.1 C.2.1 C.2.2.2.1 (C.2.2.2.2.1 _ hw) hd (k H locs ls hP hS h)
theorem zw_ldc2 (C : zC X E cc nL own rt d) {i : Nat} {v : Int64} (hw : Cond.constantLong own i v ∈ zG) (hd : decode cc pc = .ok (.ldc2_w i, 3)) (k : zW X E Q M (pc + 3) lv (.long v :: st)) : zW X E Q M pc lv st := fun H locs ls hP hS h => lv_ldc2 C.1 C.2.1 C.2.2.2.1 (C.2.2.2.2.1 _ hw) hd (k H locs ls hP hS h)
theorem zw_iload_n (C : zC X E cc nL own rt d) {j : Fin 4} {i : Nat} {x : Int32} (q : Nat) (hl : lv[q]? = some (i, .int x)) (hd : decode cc pc = .ok (.iload_n j, 1)) (hi : (j : Nat) = i) (k : zW X E Q M (pc + 1) lv (.int x :: st)) : zW X E Q M pc lv st := fun H locs ls hP hS h => lv_iload_n C.1 C.2.1 hd hi (lv_at h q hl) (k H locs ls hP hS h)
theorem zw_iload (C : zC X E cc nL own rt d) {i : Nat} {x : Int32} (q : Nat) (hl : lv[q]? = some (i, .int x)) (hd : decode cc pc = .ok (.iload i, 2)) (k : zW X E Q M (pc + 2) lv (.int x :: st)) : zW X E Q M pc lv st := fun H locs ls hP hS h => lv_iload C.1 C.2.1 hd (lv_at h q hl) (k H locs ls hP hS h)
theorem zw_lload_n (C : zC X E cc nL own rt d) {j : Fin 4} {i : Nat} {x : Int64} (q : Nat) (hl : lv[q]? = some (i, .long x)) (hd : decode cc pc = .ok (.lload_n j, 1)) (hi : (j : Nat) = i) (k : zW X E Q M (pc + 1) lv (.long x :: st)) : zW X E Q M pc lv st := fun H locs ls hP hS h => lv_lload_n C.1 C.2.1 hd hi (lv_at h q hl) (k H locs ls hP hS h)
theorem zw_lload (C : zC X E cc nL own rt d) {i : Nat} {x : Int64} (q : Nat) (hl : lv[q]? = some (i, .long x)) (hd : decode cc pc = .ok (.lload i, 2)) (k : zW X E Q M (pc + 2) lv (.long x :: st)) : zW X E Q M pc lv st := fun H locs ls hP hS h => lv_lload C.1 C.2.1 hd (lv_at h q hl) (k H locs ls hP hS h)
theorem zw_aload_n (C : zC X E cc nL own rt d) {j : Fin 4} {i x : Nat} (q : Nat) (hl : lv[q]? = some (i, .ref x)) (hd : decode cc pc = .ok (.aload_n j, 1)) (hi : (j : Nat) = i) (k : zW X E Q M (pc + 1) lv (.ref x :: st)) : zW X E Q M pc lv st := fun H locs ls hP hS h => lv_aload_n C.1 C.2.1 hd hi (lv_at h q hl) (k H locs ls hP hS h)
theorem zw_istore_n (C : zC X E cc nL own rt d) {j : Fin 4} {i : Nat} {x : Int32} (hd : decode cc pc = .ok (.istore_n j, 1)) (hi : (j : Nat) = i) (hn : i < nL) (hl : (i, Value.int x) :: lv.filter (fun q => !(q.1 == i) && !(q.1 + 1 == i && q.2.category == 2)) = lv') (k : zW X E Q M (pc + 1) lv' st) : zW X E Q M pc lv (.int x :: st) := fun H locs ls hP hS h => lv_istore_n C.1 C.2.1 hd hi h (by rw [C.2.2.1]; exact hn) hl (fun ls h => k H locs ls hP hS h)
theorem zw_istore (C : zC X E cc nL own rt d) {i : Nat} {x : Int32} (hd : decode cc pc = .ok (.istore i, 2)) (hn : i < nL) (hl : (i, Value.int x) :: lv.filter (fun q => !(q.1 == i) && !(q.1 + 1 == i && q.2.category == 2)) = lv') (k : zW X E Q M (pc + 2) lv' st) : zW X E Q M pc lv (.int x :: st) := fun H locs ls hP hS h => lv_istore C.1 C.2.1 hd h (by rw [C.2.2.1]; exact hn) hl (fun ls h => k H locs ls hP hS h)
theorem zw_lstore_n (C : zC X E cc nL own rt d) {j : Fin 4} {i : Nat} {x : Int64} (hd : decode cc pc = .ok (.lstore_n j, 1)) (hi : (j : Nat) = i) (hn : i + 1 < nL) (hl : (i, Value.long x) :: lv.filter (fun q => !(q.1 == i) && (!(q.1 == i + 1) && !(q.1 + 1 == i && q.2.category == 2))) = lv') (k : zW X E Q M (pc + 1) lv' st) : zW X E Q M pc lv (.long x :: st) := fun H locs ls hP hS h => lv_lstore_n C.1 C.2.1 hd hi h (by rw [C.2.2.1]; exact hn) hl (fun ls h => k H locs ls hP hS h)
theorem zw_lstore (C : zC X E cc nL own rt d) {i : Nat} {x : Int64} (hd : decode cc pc = .ok (.lstore i, 2)) (hn : i + 1 < nL) (hl : (i, Value.long x) :: lv.filter (fun q => !(q.1 == i) && (!(q.1 == i + 1) && !(q.1 + 1 == i && q.2.category == 2))) = lv') (k : zW X E Q M (pc + 2) lv' st) : zW X E Q M pc lv (.long x :: st) := fun H locs ls hP hS h => lv_lstore C.1 C.2.1 hd h (by rw [C.2.2.1]; exact hn) hl (fun ls h => k H locs ls hP hS h)
theorem zw_iinc (C : zC X E cc nL own rt d) {i : Nat} {n : Int} {x v : Int32} (q : Nat) (hk : lv[q]? = some (i, .int x)) (hd : decode cc pc = .ok (.iinc i n, 3)) (hv : x + Int32.ofInt n = v) (hn : i < nL) (hl : (i, Value.int v) :: lv.filter (fun q => !(q.1 == i) && !(q.1 + 1 == i && q.2.category == 2)) = lv') (k : zW X E Q M (pc + 3) lv' st) : zW X E Q M pc lv st := fun H locs ls hP hS h => lv_iinc C.1 C.2.1 hd h hk hv (by rw [C.2.2.1]; exact hn) hl (fun ls h => k H locs ls hP hS h)
theorem zw_iadd (C : zC X E cc nL own rt d) {x y : Int32} (hd : decode cc pc = .ok (.iadd, 1)) (k : zW X E Q M (pc + 1) lv (.int (x + y) :: st)) : zW X E Q M pc lv (.int y :: .int x :: st) := fun H locs ls hP hS h => lv_iadd C.1 C.2.1 hd (k H locs ls hP hS h)
theorem zw_isub (C : zC X E cc nL own rt d) {x y : Int32} (hd : decode cc pc = .ok (.isub, 1)) (k : zW X E Q M (pc + 1) lv (.int (x - y) :: st)) : zW X E Q M pc lv (.int y :: .int x :: st) := fun H locs ls hP hS h => lv_isub C.1 C.2.1 hd (k H locs ls hP hS h)
theorem zw_imul (C : zC X E cc nL own rt d) {x y : Int32} (hd : decode cc pc = .ok (.imul, 1)) (k : zW X E Q M (pc + 1) lv (.int (x * y) :: st)) : zW X E Q M pc lv (.int y :: .int x :: st) := fun H locs ls hP hS h => lv_imul C.1 C.2.1 hd (k H locs ls hP hS h)
theorem zw_iand (C : zC X E cc nL own rt d) {x y : Int32} (hd : decode cc pc = .ok (.iand, 1)) (k : zW X E Q M (pc + 1) lv (.int (x &&& y) :: st)) : zW X E Q M pc lv (.int y :: .int x :: st) := fun H locs ls hP hS h => lv_iand C.1 C.2.1 hd (k H locs ls hP hS h)
theorem zw_ior (C : zC X E cc nL own rt d) {x y : Int32} (hd : decode cc pc = .ok (.ior, 1)) (k : zW X E Q M (pc + 1) lv (.int (x ||| y) :: st)) : zW X E Q M pc lv (.int y :: .int x :: st) := fun H locs ls hP hS h => lv_ior C.1 C.2.1 hd (k H locs ls hP hS h)
theorem zw_ixor (C : zC X E cc nL own rt d) {x y : Int32} (hd : decode cc pc = .ok (.ixor, 1)) (k : zW X E Q M (pc + 1) lv (.int (x ^^^ y) :: st)) : zW X E Q M pc lv (.int y :: .int x :: st) := fun H locs ls hP hS h => lv_ixor C.1 C.2.1 hd (k H locs ls hP hS h)
theorem zw_ishl (C : zC X E cc nL own rt d) {x y : Int32} (hd : decode cc pc = .ok (.ishl, 1)) (k : zW X E Q M (pc + 1) lv (.int (x <<< (y &&& 31)) :: st)) : zW X E Q M pc lv (.int y :: .int x :: st) := fun H locs ls hP hS h => lv_ishl C.1 C.2.1 hd (k H locs ls hP hS h)
theorem zw_ishr (C : zC X E cc nL own rt d) {x y : Int32} (hd : decode cc pc = .ok (.ishr, 1)) (k : zW X E Q M (pc + 1) lv (.int (x >>> (y &&& 31)) :: st)) : zW X E Q M pc lv (.int y :: .int x :: st) := fun H locs ls hP hS h => lv_ishr C.1 C.2.1 hd (k H locs ls hP hS h)
theorem zw_ladd (C : zC X E cc nL own rt d) {x y : Int64} (hd : decode cc pc = .ok (.ladd, 1)) (k : zW X E Q M (pc + 1) lv (.long (x + y) :: st)) : zW X E Q M pc lv (.long y :: .long x :: st) := fun H locs ls hP hS h => lv_ladd C.1 C.2.1 hd (k H locs ls hP hS h)
theorem zw_lmul (C : zC X E cc nL own rt d) {x y : Int64} (hd : decode cc pc = .ok (.lmul, 1)) (k : zW X E Q M (pc + 1) lv (.long (x * y) :: st)) : zW X E Q M pc lv (.long y :: .long x :: st) := fun H locs ls hP hS h => lv_lmul C.1 C.2.1 hd (k H locs ls hP hS h)
theorem zw_idiv (C : zC X E cc nL own rt d) {x y : Int32} (hne : ¬ y = 0) (hd : decode cc pc = .ok (.idiv, 1)) (k : zW X E Q M (pc + 1) lv (.int (x / y) :: st)) : zW X E Q M pc lv (.int y :: .int x :: st) := fun H locs ls hP hS h => lv_idiv C.1 C.2.1 hd hne (k H locs ls hP hS h)
theorem zw_irem (C : zC X E cc nL own rt d) {x y : Int32} (hne : ¬ y = 0) (hd : decode cc pc = .ok (.irem, 1)) (k : zW X E Q M (pc + 1) lv (.int (x - x / y * y) :: st)) : zW X E Q M pc lv (.int y :: .int x :: st) := fun H locs ls hP hS h => lv_irem C.1 C.2.1 hd hne (k H locs ls hP hS h)
theorem zw_ldiv (C : zC X E cc nL own rt d) {x y : Int64} (hne : ¬ y = 0) (hd : decode cc pc = .ok (.ldiv, 1)) (k : zW X E Q M (pc + 1) lv (.long (x / y) :: st)) : zW X E Q M pc lv (.long y :: .long x :: st) := fun H locs ls hP hS h => lv_ldiv C.1 C.2.1 hd hne (k H locs ls hP hS h)
theorem zw_lrem (C : zC X E cc nL own rt d) {x y : Int64} (hne : ¬ y = 0) (hd : decode cc pc = .ok (.lrem, 1)) (k : zW X E Q M (pc + 1) lv (.long (x - x / y * y) :: st)) : zW X E Q M pc lv (.long y :: .long x :: st) := fun H locs ls hP hS h => lv_lrem C.1 C.2.1 hd hne (k H locs ls hP hS h)
theorem zw_iushr (C : zC X E cc nL own rt d) {x y : Int32} (hd : decode cc pc = .ok (.iushr, 1)) (k : zW X E Q M (pc + 1) lv (.int (x.toUInt32 >>> (y.toUInt32 &&& Int32.toUInt32 31)).toInt32 :: st)) : zW X E Q M pc lv (.int y :: .int x :: st) := fun H locs ls hP hS h => lv_iushr C.1 C.2.1 hd rfl (k H locs ls hP hS h)
theorem zw_i2l (C : zC X E cc nL own rt d) {x : Int32} (hd : decode cc pc = .ok (.i2l, 1)) (k : zW X E Q M (pc + 1) lv (.long x.toInt64 :: st)) : zW X E Q M pc lv (.int x :: st) := fun H locs ls hP hS h => lv_i2l C.1 C.2.1 hd rfl (k H locs ls hP hS h)
theorem zw_l2i (C : zC X E cc nL own rt d) {x : Int64} (hd : decode cc pc = .ok (.l2i, 1)) (k : zW X E Q M (pc + 1) lv (.int x.toInt32 :: st)) : zW X E Q M pc lv (.long x :: st) := fun H locs ls hP hS h => lv_l2i C.1 C.2.1 hd rfl (k H locs ls hP hS h)
theorem zw_lcmp (C : zC X E cc nL own rt d) {x y : Int64} (hd : decode cc pc = .ok (.lcmp, 1)) (k : zW X E Q M (pc + 1) lv (.int (lg_cmp x y) :: st)) : zW X E Q M pc lv (.long y :: .long x :: st) := fun H locs ls hP hS h => W.lcmp C.1 C.2.1 hd (k H locs ls hP hS h)
theorem zw_dup (C : zC X E cc nL own rt d) {v : Value} (hv : v.category = 1) (hd : decode cc pc = .ok (.dup, 1)) (k : zW X E Q M (pc + 1) lv (v :: v :: st)) : zW X E Q M pc lv (v :: st) := fun H locs ls hP hS h => lv_dup C.1 C.2.1 hd hv (k H locs ls hP hS h)
theorem zw_dup2 (C : zC X E cc nL own rt d) {v w : Value} (hv : v.category = 1) (hw : w.category = 1) (hd : decode cc pc = .ok (.dup2, 1)) (k : zW X E Q M (pc + 1) lv (v :: w :: v :: w :: st)) : zW X E Q M pc lv (v :: w :: st) := fun H locs ls hP hS h => lv_dup2_11 C.1 C.2.1 hd hv hw (k H locs ls hP hS h)
theorem zw_pop (C : zC X E cc nL own rt d) {v : Value} (hv : v.category = 1) (hd : decode cc pc = .ok (.pop, 1)) (k : zW X E Q M (pc + 1) lv st) : zW X E Q M pc lv (v :: st) := fun H locs ls hP hS h => lv_pop C.1 C.2.1 hd hv (k H locs ls hP hS h)
theorem zw_goto (C : zC X E cc nL own rt d) {off : Int} {tgt : Nat} (hd : decode cc pc = .ok (.goto off, 3)) (ht : (pc : Int) + off = (tgt : Int)) (k : zW X E Q M tgt lv st) : zW X E Q M pc lv st := fun H locs ls hP hS h => lv_goto C.1 C.2.1 hd ht (k H locs ls hP hS h)
theorem zw_if_eq (C : zC X E cc nL own rt d) {x : Int32} {off : Int} {tgt : Nat} (hd : decode cc pc = .ok (.ifCond .eq off, 3)) (ht : (pc : Int) + off = (tgt : Int)) (k1 : x = 0 → zW X E Q M tgt lv st) (k2 : ¬ x = 0 → zW X E Q M (pc + 3) lv st) : zW X E Q M pc lv (.int x :: st) := fun H locs ls hP hS h => lv_if_eq C.1 C.2.1 hd ht (fun q => k1 q H locs ls hP hS h) (fun q => k2 q H locs ls hP hS h)
theorem zw_icmp_eq (C : zC X E cc nL own rt d) {x y : Int32} {off : Int} {tgt : Nat} (hd : decode cc pc = .ok (.if_icmp .eq off, 3)) (ht : (pc : Int) + off = (tgt : Int)) (k1 : x = y → zW X E Q M tgt lv st) (k2 : ¬ x = y → zW X E Q M (pc + 3) lv st) : zW X E Q M pc lv (.int y :: .int x :: st) := fun H locs ls hP hS h => lv_icmp_eq C.1 C.2.1 hd ht (fun q => k1 q H locs ls hP hS h) (fun q => k2 q H locs ls hP hS h)
theorem zw_if_ne (C : zC X E cc nL own rt d) {x : Int32} {off : Int} {tgt : Nat} (hd : decode cc pc = .ok (.ifCond .ne off, 3)) (ht : (pc : Int) + off = (tgt : Int)) (k1 : x = 0 → zW X E Q M (pc + 3) lv st) (k2 : ¬ x = 0 → zW X E Q M tgt lv st) : zW X E Q M pc lv (.int x :: st) := fun H locs ls hP hS h => lv_if_ne C.1 C.2.1 hd ht (fun q => k2 q H locs ls hP hS h) (fun q => k1 q H locs ls hP hS h)
theorem zw_icmp_ne (C : zC X E cc nL own rt d) {x y : Int32} {off : Int} {tgt : Nat} (hd : decode cc pc = .ok (.if_icmp .ne off, 3)) (ht : (pc : Int) + off = (tgt : Int)) (k1 : x = y → zW X E Q M (pc + 3) lv st) (k2 : ¬ x = y → zW X E Q M tgt lv st) : zW X E Q M pc lv (.int y :: .int x :: st) := fun H locs ls hP hS h => lv_icmp_ne C.1 C.2.1 hd ht (fun q => k2 q H locs ls hP hS h) (fun q => k1 q H locs ls hP hS h)
theorem zw_if_lt (C : zC X E cc nL own rt d) {x : Int32} {off : Int} {tgt : Nat} (hd : decode cc pc = .ok (.ifCond .lt off, 3)) (ht : (pc : Int) + off = (tgt : Int)) (k1 : x < 0 → zW X E Q M tgt lv st) (k2 : ¬ x < 0 → zW X E Q M (pc + 3) lv st) : zW X E Q M pc lv (.int x :: st) := fun H locs ls hP hS h => lv_if_lt C.1 C.2.1 hd ht (fun q => k1 q H locs ls hP hS h) (fun q => k2 q H locs ls hP hS h)
theorem zw_icmp_lt (C : zC X E cc nL own rt d) {x y : Int32} {off : Int} {tgt : Nat} (hd : decode cc pc = .ok (.if_icmp .lt off, 3)) (ht : (pc : Int) + off = (tgt : Int)) (k1 : x < y → zW X E Q M tgt lv st) (k2 : ¬ x < y → zW X E Q M (pc + 3) lv st) : zW X E Q M pc lv (.int y :: .int x :: st) := fun H locs ls hP hS h => lv_icmp_lt C.1 C.2.1 hd ht (fun q => k1 q H locs ls hP hS h) (fun q => k2 q H locs ls hP hS h)
theorem zw_if_ge (C : zC X E cc nL own rt d) {x : Int32} {off : Int} {tgt : Nat} (hd : decode cc pc = .ok (.ifCond .ge off, 3)) (ht : (pc : Int) + off = (tgt : Int)) (k1 : 0 ≤ x → zW X E Q M tgt lv st) (k2 : ¬ 0 ≤ x → zW X E Q M (pc + 3) lv st) : zW X E Q M pc lv (.int x :: st) := fun H locs ls hP hS h => lv_if_ge C.1 C.2.1 hd ht (fun q => k1 q H locs ls hP hS h) (fun q => k2 q H locs ls hP hS h)
theorem zw_icmp_ge (C : zC X E cc nL own rt d) {x y : Int32} {off : Int} {tgt : Nat} (hd : decode cc pc = .ok (.if_icmp .ge off, 3)) (ht : (pc : Int) + off = (tgt : Int)) (k1 : y ≤ x → zW X E Q M tgt lv st) (k2 : ¬ y ≤ x → zW X E Q M (pc + 3) lv st) : zW X E Q M pc lv (.int y :: .int x :: st) := fun H locs ls hP hS h => lv_icmp_ge C.1 C.2.1 hd ht (fun q => k1 q H locs ls hP hS h) (fun q => k2 q H locs ls hP hS h)
theorem zw_if_gt (C : zC X E cc nL own rt d) {x : Int32} {off : Int} {tgt : Nat} (hd : decode cc pc = .ok (.ifCond .gt off, 3)) (ht : (pc : Int) + off = (tgt : Int)) (k1 : 0 < x → zW X E Q M tgt lv st) (k2 : ¬ 0 < x → zW X E Q M (pc + 3) lv st) : zW X E Q M pc lv (.int x :: st) := fun H locs ls hP hS h => lv_if_gt C.1 C.2.1 hd ht (fun q => k1 q H locs ls hP hS h) (fun q => k2 q H locs ls hP hS h)
theorem zw_icmp_gt (C : zC X E cc nL own rt d) {x y : Int32} {off : Int} {tgt : Nat} (hd : decode cc pc = .ok (.if_icmp .gt off, 3)) (ht : (pc : Int) + off = (tgt : Int)) (k1 : y < x → zW X E Q M tgt lv st) (k2 : ¬ y < x → zW X E Q M (pc + 3) lv st) : zW X E Q M pc lv (.int y :: .int x :: st) := fun H locs ls hP hS h => lv_icmp_gt C.1 C.2.1 hd ht (fun q => k1 q H locs ls hP hS h) (fun q => k2 q H locs ls hP hS h)
theorem zw_if_le (C : zC X E cc nL own rt d) {x : Int32} {off : Int} {tgt : Nat} (hd : decode cc pc = .ok (.ifCond .le off, 3)) (ht : (pc : Int) + off = (tgt : Int)) (k1 : x ≤ 0 → zW X E Q M tgt lv st) (k2 : ¬ x ≤ 0 → zW X E Q M (pc + 3) lv st) : zW X E Q M pc lv (.int x :: st) := fun H locs ls hP hS h => lv_if_le C.1 C.2.1 hd ht (fun q => k1 q H locs ls hP hS h) (fun q => k2 q H locs ls hP hS h)
theorem zw_icmp_le (C : zC X E cc nL own rt d) {x y : Int32} {off : Int} {tgt : Nat} (hd : decode cc pc = .ok (.if_icmp .le off, 3)) (ht : (pc : Int) + off = (tgt : Int)) (k1 : x ≤ y → zW X E Q M tgt lv st) (k2 : ¬ x ≤ y → zW X E Q M (pc + 3) lv st) : zW X E Q M pc lv (.int y :: .int x :: st) := fun H locs ls hP hS h => lv_icmp_le C.1 C.2.1 hd ht (fun q => k1 q H locs ls hP hS h) (fun q => k2 q H locs ls hP hS h)
theorem zw_tabIn (C : zC X E cc nL own rt d) {x v : Int32} {df lo hi : Int} {offs : Array Int} {len : Nat} {off : Int} {tgt : Nat} (hx : x = v) (hd : decode cc pc = .ok (.tableswitch df lo hi offs, len)) (h1 : ¬ v.toInt < lo) (h2 : ¬ hi < v.toInt) (ho : offs[(v.toInt - lo).toNat]? = some off) (ht : (pc : Int) + off = (tgt : Int)) (k : zW X E Q M tgt lv st) : zW X E Q M pc lv (.int x :: st) := by
  subst hx
  exact fun H locs ls hP hS h => lv_tableIn C.1 C.2.1 hd h1 h2 ho ht (k H locs ls hP hS h)
theorem zw_tabOut (C : zC X E cc nL own rt d) {x : Int32} {df lo hi : Int} {offs : Array Int} {len : Nat} {tgt : Nat} (hx : x.toInt < lo ∨ hi < x.toInt) (hd : decode cc pc = .ok (.tableswitch df lo hi offs, len)) (ht : (pc : Int) + df = (tgt : Int)) (k : zW X E Q M tgt lv st) : zW X E Q M pc lv (.int x :: st) := fun H locs ls hP hS h => lv_tableOut C.1 C.2.1 hd hx ht (k H locs ls hP hS h)
theorem zw_look (C : zC X E cc nL own rt d) {x : Int32} {df : Int} {ps : Array (Int × Int)} {len : Nat} {off : Int} {tgt : Nat} (hd : decode cc pc = .ok (.lookupswitch df ps, len)) (hp : (ps.toList.zip (ps.toList.drop 1)).all (fun (a, next) => a.1 < next.1) = true) (ho : Op.lookupswitch.offset ps.toList df x.toInt = off) (ht : (pc : Int) + off = (tgt : Int)) (k : zW X E Q M tgt lv st) : zW X E Q M pc lv (.int x :: st) := fun H locs ls hP hS h => lv_lookup C.1 C.2.1 hd hp ho ht (k H locs ls hP hS h)
/-- fields -/
theorem zw_get (C : zC X E cc nL own rt d) {b ci N idx : Nat} {Cn : String} {T : u_T} {fs : (Nat → Int32) → (Nat → Int64) → List Value} (hb : b < 121) (hc : ∀ f g, zc E b f g = .inr (ci, fs f g)) (hcl : vwCl[ci]? = some (Cn, T, N)) (hin : ∀ w ∈ u_ws Cn T N, w ∈ zG) (j : Nat) (hj : j < N) (hlink : Cond.fieldLink own idx (T j).1 (T j).2.1 (T j).2.2.1 ∈ zG) {v : Value} (hv : (fs (M.1 b) (M.2 b))[j]? = some v) (hd : decode cc pc = .ok (.getfield idx, 3)) (k : zW X E Q M (pc + 3) lv (v :: st)) : zW X E Q M pc lv (.ref (E.2.1 b) :: st) := fun H locs ls hP hS h => va_get C.1 C.2.1 C.2.2.2.2.1 hin C.2.2.2.1 C.2.2.2.2.2.1 hP b ((zl_at hb).trans (by rw [hc])) hcl j hj (C.2.2.2.2.1 _ hlink) (fun _ h9 => h9) hv hd (k H locs ls hP hS h)
theorem zw_getN (C : zC X E cc nL own rt d) {b ci N idx : Nat} {Cn host : String} {T : u_T} {fs : (Nat → Int32) → (Nat → Int64) → List Value} (hb : b < 121) (hc : ∀ f g, zc E b f g = .inr (ci, fs f g)) (hcl : vwCl[ci]? = some (Cn, T, N)) (hin : ∀ w ∈ u_ws Cn T N, w ∈ zG) (j : Nat) (hj : j < N) (hlink : Cond.fieldLinkNest own idx (T j).1 (T j).2.1 (T j).2.2.1 host ∈ zNf) {v : Value} (hv : (fs (M.1 b) (M.2 b))[j]? = some v) (hd : decode cc pc = .ok (.getfield idx, 3)) (k : zW X E Q M (pc + 3) lv (v :: st)) : zW X E Q M pc lv (.ref (E.2.1 b) :: st) := fun H locs ls hP hS h => va_getN C.1 C.2.1 C.2.2.2.2.1 hin C.2.2.2.1 C.2.2.2.2.2.1 hP b ((zl_at hb).trans (by rw [hc])) hcl j hj (va_Nw.use rfl (C.2.2.2.2.2.2.1.1 _ hlink)) (fun _ h9 => h9) hv hd (k H locs ls hP hS h)
/-- an inherited field -/
theorem zw_getS (C : zC X E cc nL own rt d) {b ci N idx : Nat} {Cn ref : String} {T : u_T} {fs : (Nat → Int32) → (Nat → Int64) → List Value} (hb : b < 121) (hc : ∀ f g, zc E b f g = .inr (ci, fs f g)) (hcl : vwCl[ci]? = some (Cn, T, N)) (hin : ∀ w ∈ u_ws Cn T N, w ∈ zG) (j : Nat) (hj : j < N) (hlink : Cond.fieldLink own idx ref (T j).2.1 (T j).2.2.1 ∈ zG) (hsame : Cond.sameField ref (T j).1 (T j).2.1 (T j).2.2.1 ∈ zG) {v : Value} (hv : (fs (M.1 b) (M.2 b))[j]? = some v) (hd : decode cc pc = .ok (.getfield idx, 3)) (k : zW X E Q M (pc + 3) lv (v :: st)) : zW X E Q M pc lv (.ref (E.2.1 b) :: st) := fun H locs ls hP hS h => va_get C.1 C.2.1 C.2.2.2.2.1 hin C.2.2.2.1 C.2.2.2.2.2.1 hP b ((zl_at hb).trans (by rw [hc])) hcl j hj (C.2.2.2.2.1 _ hlink) (u_same (C.2.2.2.2.1 _ hsame)) hv hd (k H locs ls hP hS h)
theorem zw_put (C : zC X E cc nL own rt d) {b ci N idx : Nat} {Cn : String} {T : u_T} {fs : (Nat → Int32) → (Nat → Int64) → List Value} {x : Int32} {ty : FieldType} (hb : b < 121) (hc : ∀ f g, zc E b f g = .inr (ci, fs f g)) (hcl : vwCl[ci]? = some (Cn, T, N)) (hin : ∀ w ∈ u_ws Cn T N, w ∈ zG) (ty0 : Nat → FieldType) (hty : ∀ k, k < N → parseFieldDescriptor (T k).2.2.1 = some (ty0 k)) (hnm : ∀ a, a < N → ∀ b, b < N → a ≠ b → (T a).2.1 ≠ (T b).2.1) (j : Nat) (hj : j < N) (hlink : Cond.fieldLink own idx (T j).1 (T j).2.1 (T j).2.2.1 ∈ zG) (hfin : (T j).2.2.2 = false) (hde : parseFieldDescriptor (T j).2.2.1 = some ty) (hn : narrow ty (.int x) = .int x) (hfit : fits ty (.int x) = true) (hlen : ∀ f g, j < (fs f g).length) (hset : ∀ f g, (fs f g).set j (.int x) = fs (upd f j x) g) (hd : decode cc pc = .ok (.putfield idx, 3)) (k : zW X E Q (zs M b j x) (pc + 3) lv st) : zW X E Q M pc lv (.int x :: .ref (E.2.1 b) :: st) := fun H locs ls hP hS h => va_put C.1 C.2.1 C.2.2.2.2.1 hin ty0 hty hnm C.2.2.2.1 C.2.2.2.2.2.1 hP (zl_D C.2.2.2.2.2.2.2.1 M) hS b ((zl_at hb).trans (by rw [hc])) hcl j hj (C.2.2.2.2.1 _ hlink) (fun _ h9 => h9) hfin hde hn hfit (hlen _ _) hd (fun H locs hP hD hS => k H locs ls (by
  rw [hset, zl_set hb (hc _ _).symm] at hP; exact hP) hS h)
theorem zw_putN (C : zC X E cc nL own rt d) {b ci N idx : Nat} {Cn host : String} {T : u_T} {fs : (Nat → Int32) → (Nat → Int64) → List Value} {x : Int32} {ty : FieldType} (hb : b < 121) (hc : ∀ f g, zc E b f g = .inr (ci, fs f g)) (hcl : vwCl[ci]? = some (Cn, T, N)) (hin : ∀ w ∈ u_ws Cn T N, w ∈ zG) (ty0 : Nat → FieldType) (hty : ∀ k, k < N → parseFieldDescriptor (T k).2.2.1 = some (ty0 k)) (hnm : ∀ a, a < N → ∀ b, b < N → a ≠ b → (T a).2.1 ≠ (T b).2.1) (j : Nat) (hj : j < N) (hlink : Cond.fieldLinkNest own idx (T j).1 (T j).2.1 (T j).2.2.1 host ∈ zNf) (hfin : (T j).2.2.2 = false) (hde : parseFieldDescriptor (T j).2.2.1 = some ty) (hn : narrow ty (.int x) = .int x) (hfit : fits ty (.int x) = true) (hlen : ∀ f g, j < (fs f g).length) (hset : ∀ f g, (fs f g).set j (.int x) = fs (upd f j x) g) (hd : decode cc pc = .ok (.putfield idx, 3)) (k : zW X E Q (zs M b j x) (pc + 3) lv st) : zW X E Q M pc lv (.int x :: .ref (E.2.1 b) :: st) := fun H locs ls hP hS h => va_putN C.1 C.2.1 C.2.2.2.2.1 hin ty0 hty hnm C.2.2.2.1 C.2.2.2.2.2.1 hP (zl_D C.2.2.2.2.2.2.2.1 M) hS b ((zl_at hb).trans (by rw [hc])) hcl j hj (va_Nw.use rfl (C.2.2.2.2.2.2.1.1 _ hlink)) (fun _ h9 => h9) hfin hde hn hfit (hlen _ _) hd (fun H locs hP hD hS => k H locs ls (by
  rw [hset, zl_set hb (hc _ _).symm] at hP; exact hP) hS h)
theorem zw_putL (C : zC X E cc nL own rt d) {b ci N idx : Nat} {Cn : String} {T : u_T} {fs : (Nat → Int32) → (Nat → Int64) → List Value} {x : Int64} (hb : b < 121) (hc : ∀ f g, zc E b f g = .inr (ci, fs f g)) (hcl : vwCl[ci]? = some (Cn, T, N)) (hin : ∀ w ∈ u_ws Cn T N, w ∈ zG) (ty0 : Nat → FieldType) (hty : ∀ k, k < N → parseFieldDescriptor (T k).2.2.1 = some (ty0 k)) (hnm : ∀ a, a < N → ∀ b, b < N → a ≠ b → (T a).2.1 ≠ (T b).2.1) (j : Nat) (hj : j < N) (hlink : Cond.fieldLink own idx (T j).1 (T j).2.1 (T j).2.2.1 ∈ zG) (hfin : (T j).2.2.2 = false) (hde : parseFieldDescriptor (T j).2.2.1 = some .long) (hlen : ∀ f g, j < (fs f g).length) (hset : ∀ f g, (fs f g).set j (.long x) = fs f (vp_updL g j x)) (hd : decode cc pc = .ok (.putfield idx, 3)) (k : zW X E Q (zsL M b j x) (pc + 3) lv st) : zW X E Q M pc lv (.long x :: .ref (E.2.1 b) :: st) := fun H locs ls hP hS h => va_put C.1 C.2.1 C.2.2.2.2.1 hin ty0 hty hnm C.2.2.2.1 C.2.2.2.2.2.1 hP (zl_D C.2.2.2.2.2.2.2.1 M) hS b ((zl_at hb).trans (by rw [hc])) hcl j hj (C.2.2.2.2.1 _ hlink) (fun _ h9 => h9) hfin hde rfl rfl (hlen _ _) hd (fun H locs hP hD hS => k H locs ls (by
  rw [hset, zl_setL hb (hc _ _).symm] at hP; exact hP) hS h)
theorem zw_putLS (C : zC X E cc nL own rt d) {b ci N idx : Nat} {Cn ref : String} {T : u_T} {fs : (Nat → Int32) → (Nat → Int64) → List Value} {x : Int64} (hb : b < 121) (hc : ∀ f g, zc E b f g = .inr (ci, fs f g)) (hcl : vwCl[ci]? = some (Cn, T, N)) (hin : ∀ w ∈ u_ws Cn T N, w ∈ zG) (ty0 : Nat → FieldType) (hty : ∀ k, k < N → parseFieldDescriptor (T k).2.2.1 = some (ty0 k)) (hnm : ∀ a, a < N → ∀ b, b < N → a ≠ b → (T a).2.1 ≠ (T b).2.1) (j : Nat) (hj : j < N) (hlink : Cond.fieldLink own idx ref (T j).2.1 (T j).2.2.1 ∈ zG) (hsame : Cond.sameField ref (T j).1 (T j).2.1 (T j).2.2.1 ∈ zG) (hfin : (T j).2.2.2 = false) (hde : parseFieldDescriptor (T j).2.2.1 = some .long) (hlen : ∀ f g, j < (fs f g).length) (hset : ∀ f g, (fs f g).set j (.long x) = fs f (vp_updL g j x)) (hd : decode cc pc = .ok (.putfield idx, 3)) (k : zW X E Q (zsL M b j x) (pc + 3) lv st) : zW X E Q M pc lv (.long x :: .ref (E.2.1 b) :: st) := fun H locs ls hP hS h => va_put C.1 C.2.1 C.2.2.2.2.1 hin ty0 hty hnm C.2.2.2.1 C.2.2.2.2.2.1 hP (zl_D C.2.2.2.2.2.2.2.1 M) hS b ((zl_at hb).trans (by rw [hc])) hcl j hj (C.2.2.2.2.1 _ hlink) (u_same (C.2.2.2.2.1 _ hsame)) hfin hde rfl rfl (hlen _ _) hd (fun H locs hP hD hS => k H locs ls (by
  rw [hset, zl_setL hb (hc _ _).symm] at hP; exact hP) hS h)
/-- arrays -/
theorem zw_iald (C : zC X E cc nL own rt d) {a n : Nat} {i : Int32} (ha : zia a n) (hin : vp_in i n) (hd : decode cc pc = .ok (.iaload, 1)) (k : zW X E Q M (pc + 1) lv (.int (M.1 a i.toNatClampNeg) :: st)) : zW X E Q M pc lv (.int i :: .ref (E.2.1 a) :: st) := fun H locs ls hP hS h => va_iald C.1 C.2.1 C.2.2.2.2.2.1 hP a 0 ((zl_at ha.1).trans (by rw [ha.2])) rfl hin hd (k H locs ls hP hS h)
theorem zw_iast (C : zC X E cc nL own rt d) {a n : Nat} {i x : Int32} (ha : zia a n) (hin : vp_in i n) (hd : decode cc pc = .ok (.iastore, 1)) (k : zW X E Q (zs M a i.toNatClampNeg x) (pc + 1) lv st) : zW X E Q M pc lv (.int x :: .int i :: .ref (E.2.1 a) :: st) := fun H locs ls hP hS h => va_iast C.1 C.2.1 C.2.2.2.2.2.1 hP (zl_D C.2.2.2.2.2.2.2.1 M) hS a 0 ((zl_at ha.1).trans (by rw [ha.2])) rfl hin hd (fun H locs hP hD hS => k H locs ls (by
  rw [zl_set ha.1 (ha.2 _ _ _).symm] at hP; exact hP) hS h)
def zza (a n : Nat) : Prop := a < 121 ∧ ∀ (E : zE) (f : Nat → Int32) (g : Nat → Int64), zc E a f g = .inl (E.2.2 2, n, .inl f)
def zja (a n : Nat) : Prop := a < 121 ∧ ∀ (E : zE) (f : Nat → Int32) (g : Nat → Int64), zc E a f g = .inl (E.2.2 1, n, .inr (.inl g))
theorem zw_zald (C : zC X E cc nL own rt d) {a n : Nat} {i : Int32} (ha : zza a n) (hin : vp_in i n) (hd : decode cc pc = .ok (.baload, 1)) (k : zW X E Q M (pc + 1) lv (.int (M.1 a i.toNatClampNeg) :: st)) : zW X E Q M pc lv (.int i :: .ref (E.2.1 a) :: st) := fun H locs ls hP hS h => va_zald C.1 C.2.1 C.2.2.2.2.2.1 hP a 2 ((zl_at ha.1).trans (by rw [ha.2])) rfl hin hd (k H locs ls hP hS h)
theorem zw_zast (C : zC X E cc nL own rt d) {a n : Nat} {i x : Int32} (ha : zza a n) (hx : vp_nar .boolean x = x) (hin : vp_in i n) (hd : decode cc pc = .ok (.bastore, 1)) (k : zW X E Q (zs M a i.toNatClampNeg x) (pc + 1) lv st) : zW X E Q M pc lv (.int x :: .int i :: .ref (E.2.1 a) :: st) := fun H locs ls hP hS h => va_zast C.1 C.2.1 C.2.2.2.2.2.1 hP (zl_D C.2.2.2.2.2.2.2.1 M) hS a 2 ((zl_at ha.1).trans (by rw [ha.2])) rfl hin hd (fun H locs hP hD hS => k H locs ls (by
  rw [hx, zl_set ha.1 (ha.2 _ _ _).symm] at hP; exact hP) hS h)
theorem zw_lald (C : zC X E cc nL own rt d) {a n : Nat} {i : Int32} (ha : zja a n) (hin : vp_in i n) (hd : decode cc pc = .ok (.laload, 1)) (k : zW X E Q M (pc + 1) lv (.long (M.2 a i.toNatClampNeg) :: st)) : zW X E Q M pc lv (.int i :: .ref (E.2.1 a) :: st) := fun H locs ls hP hS h => va_lald C.1 C.2.1 C.2.2.2.2.2.1 hP a 1 ((zl_at ha.1).trans (by rw [ha.2])) rfl hin hd (k H locs ls hP hS h)
theorem zw_last (C : zC X E cc nL own rt d) {a n : Nat} {i : Int32} {x : Int64} (ha : zja a n) (hin : vp_in i n) (hd : decode cc pc = .ok (.lastore, 1)) (k : zW X E Q (zsL M a i.toNatClampNeg x) (pc + 1) lv st) : zW X E Q M pc lv (.long x :: .int i :: .ref (E.2.1 a) :: st) := fun H locs ls hP hS h => va_last C.1 C.2.1 C.2.2.2.2.2.1 hP (zl_D C.2.2.2.2.2.2.2.1 M) hS a 1 ((zl_at ha.1).trans (by rw [ha.2])) rfl hin hd (fun H locs hP hD hS => k H locs ls (by
  rw [zl_setL ha.1 (ha.2 _ _ _).symm] at hP; exact hP) hS h)
/-- a row of references: the j-th one's place is p j -/
def zqa (a n t : Nat) (s : String) (p : Nat → Nat) : Prop := a < 121 ∧ (∀ E : zE, (zt E)[t]? = some (E.2.2 t, .object s)) ∧ ∀ (E : zE) (f : Nat → Int32) (g : Nat → Int64), zc E a f g = .inl (E.2.2 t, n, .inr (.inr (.inr (.inr (fun j => some (E.2.1 (p j)))))))
theorem zw_aald (C : zC X E cc nL own rt d) {a n t : Nat} {s : String} {p : Nat → Nat} {i : Int32} (ha : zqa a n t s p) (hin : vp_in i n) (hd : decode cc pc = .ok (.aaload, 1)) (k : zW X E Q M (pc + 1) lv (.ref (E.2.1 (p i.toNatClampNeg)) :: st)) : zW X E Q M pc lv (.int i :: .ref (E.2.1 a) :: st) := fun H locs ls hP hS h => va_aldq (f := fun j => some (E.2.1 (p j))) C.1 C.2.1 C.2.2.2.2.2.1 hP a t ((zl_at ha.1).trans (by rw [ha.2.2])) (ha.2.1 E) hin hd (k H locs ls hP hS h)
theorem zw_alen (C : zC X E cc nL own rt d) {a t : Nat} {ty : FieldType} {z : vp_A} (h1 : a < 121) (ha : zc E a (M.1 a) (M.2 a) = .inl (E.2.2 t, z)) (ht : (zt E)[t]? = some (E.2.2 t, ty)) {v : Int32} (hv : Int32.ofNat z.1 = v) (hd : decode cc pc = .ok (.arraylength, 1)) (k : zW X E Q M (pc + 1) lv (.int v :: st)) : zW X E Q M pc lv (.ref (E.2.1 a) :: st) := fun H locs ls hP hS h => va_alen C.1 C.2.1 C.2.2.2.2.2.1 hP a t ((zl_at h1).trans (by rw [ha])) ht hv hd (k H locs ls hP hS h)
theorem zw_copyi (C : zC X E cc nL own rt d) {a a0 n n0 idx : Nat} {sp dp m : Int32} (ha0 : zia a0 n0) (ha : zia a n) (hlink : Cond.methodLink own idx arraycopyName ∈ zG) (h1 : ¬ sp < 0) (h2 : ¬ dp < 0) (h3 : ¬ m < 0) (h4 : sp.toNatClampNeg + m.toNatClampNeg ≤ n0) (h5 : dp.toNatClampNeg + m.toNatClampNeg ≤ n) (hd0 : 1 ≤ d) (hst : (st.map fun v => v.category).sum ≤ 8) (hd : decode cc pc = .ok (.invokestatic idx, 3)) (k : zW X E Q (zr M a (va_cpy (M.1 a0) (M.1 a) sp.toNatClampNeg dp.toNatClampNeg m.toNatClampNeg)) (pc + 3) lv st) : zW X E Q M pc lv (.int m :: .int dp :: .ref (E.2.1 a) :: .int sp :: .ref (E.2.1 a0) :: st) := fun H locs ls hP hS h => by
  have h9 := C.2.2.2.2.2.2.2.2.2.1
  have e9 : nativeFrameWords "java/lang/System" "arraycopy" 5 + 11 ≤ 30 := by decide +kernel
  refine va_copyi C.1 C.2.1 (by rw [h.1]) C.2.2.2.1 (C.2.2.2.2.1 _ hlink) (C.2.2.2.2.1 _ gw_2_98) (C.2.2.2.2.1 _ gw_2_97) (C.2.2.2.2.1 _ gw_1_14) C.2.2.2.2.2.1 hP (zl_D C.2.2.2.2.2.2.2.1 M) hS a0 a 0 0 (ty := .int) ((zl_at ha0.1).trans (by rw [ha0.2])) ((zl_at ha.1).trans (by rw [ha.2])) rfl rfl rfl h1 h2 h3 h4 h5 (fun _ _ => rfl) (by omega) (by omega) hd (fun H locs hP hD hS => k H locs ls ?_ hS h)
  rw [zl_set ha.1 (ha.2 _ _ _).symm] at hP
  exact hP
theorem zw_mmax (C : zC X E cc nL own rt d) {idx : Nat} {x y : Int32} (hlink : Cond.methodLink own idx Lib.Math.max.name ∈ zG) (hstat : Cond.static Lib.Math.max.name ∈ zG) (hini : Cond.initialized "java/lang/Math" ∈ zG) (hcode : Cond.code Lib.Math.max.name Lib.Math.max.code 2 (some .int) ∈ zG) (hd0 : 1 ≤ d) (hst : (st.map fun v => v.category).sum ≤ 8) (hd : decode cc pc = .ok (.invokestatic idx, 3)) (k : zW X E Q M (pc + 3) lv (.int (if x < y then y else x) :: st)) : zW X E Q M pc lv (.int y :: .int x :: st) := fun H locs ls hP hS h => by
  have h9 := C.2.2.2.2.2.2.2.2.2.1
  exact va_mmax C.1 C.2.1 (by rw [h.1]) C.2.2.2.1 (C.2.2.2.2.1 _ hlink) (C.2.2.2.2.1 _ hstat) (C.2.2.2.2.1 _ hini) (C.2.2.2.2.1 _ hcode) (by omega) (by omega) C.2.2.2.2.2.2.2.2.1.1 C.2.2.2.2.2.2.2.2.1.2 hd (k H locs ls hP hS h)
theorem zw_mmin (C : zC X E cc nL own rt d) {idx : Nat} {x y : Int32} (hlink : Cond.methodLink own idx Lib.Math.min.name ∈ zG) (hstat : Cond.static Lib.Math.min.name ∈ zG) (hini : Cond.initialized "java/lang/Math" ∈ zG) (hcode : Cond.code Lib.Math.min.name Lib.Math.min.code 2 (some .int) ∈ zG) (hd0 : 1 ≤ d) (hst : (st.map fun v => v.category).sum ≤ 8) (hd : decode cc pc = .ok (.invokestatic idx, 3)) (k : zW X E Q M (pc + 3) lv (.int (if y < x then y else x) :: st)) : zW X E Q M pc lv (.int y :: .int x :: st) := fun H locs ls hP hS h => by
  have h9 := C.2.2.2.2.2.2.2.2.2.1
  exact va_mmin C.1 C.2.1 (by rw [h.1]) C.2.2.2.1 (C.2.2.2.2.1 _ hlink) (C.2.2.2.2.1 _ hstat) (C.2.2.2.2.1 _ hini) (C.2.2.2.2.1 _ hcode) (by omega) (by omega) C.2.2.2.2.2.2.2.2.1.1 C.2.2.2.2.2.2.2.2.1.2 hd (k H locs ls hP hS h)
theorem zw_mmaxL (C : zC X E cc nL own rt d) {idx : Nat} {x y : Int64} (hlink : Cond.methodLink own idx Lib.MathLoose.max_long.x ∈ zG) (hstat : Cond.static Lib.MathLoose.max_long.x ∈ zG) (hini : Cond.initialized "java/lang/Math" ∈ zG) (hcode : Cond.code Lib.MathLoose.max_long.x Lib.MathLoose.max_long.code 4 (some .long) ∈ zG) (hd0 : 1 ≤ d) (hst : (st.map fun v => v.category).sum ≤ 8) (hd : decode cc pc = .ok (.invokestatic idx, 3)) (k : zW X E Q M (pc + 3) lv (.long (if y < x then x else y) :: st)) : zW X E Q M pc lv (.long y :: .long x :: st) := fun H locs ls hP hS h => by
  have h9 := C.2.2.2.2.2.2.2.2.2.1
  exact va_mmax_long C.1 C.2.1 (by rw [h.1]) C.2.2.2.1 (C.2.2.2.2.1 _ hlink) (C.2.2.2.2.1 _ hstat) (C.2.2.2.2.1 _ hini) (C.2.2.2.2.1 _ hcode) (by omega) (by omega) C.2.2.2.2.2.2.2.2.1.1 C.2.2.2.2.2.2.2.2.1.2 hd (k H locs ls hP hS h)
/-- returns -/
theorem zw_ireturn (C : zC X E cc nL own (some .int) d) {v : Int32} (hd : decode cc pc = .ok (.ireturn, 1)) : zW X E (zRQ X E (some (.int v)) M) M pc lv [.int v] := fun H locs ls hP hS h => W.iret C.1 C.2.1 C.2.2.2.2.2.2.2.2.2.2.2 (fun t ht hW => ⟨rfl, by rw [ht]; exact hP, hS.F ht⟩) hS.2.2 hd C.2.2.2.2.2.2.2.2.2.2.1
theorem zw_zreturn (C : zC X E cc nL own (some .boolean) d) {v : Int32} (hn : narrow .boolean (.int v) = .int v) (hd : decode cc pc = .ok (.ireturn, 1)) : zW X E (zRQ X E (some (.int v)) M) M pc lv [.int v] := fun H locs ls hP hS h => W.zret C.1 C.2.1 C.2.2.2.2.2.2.2.2.2.2.2 hn (fun t ht hW => ⟨rfl, by rw [ht]; exact hP, hS.F ht⟩) hS.2.2 hd C.2.2.2.2.2.2.2.2.2.2.1
theorem zw_lreturn (C : zC X E cc nL own (some .long) d) {v : Int64} (hd : decode cc pc = .ok (.lreturn, 1)) : zW X E (zRQ X E (some (.long v)) M) M pc lv [.long v] := fun H locs ls hP hS h => W.lret C.1 C.2.1 C.2.2.2.2.2.2.2.2.2.2.2 (fun t ht hW => ⟨rfl, by rw [ht]; exact hP, hS.F ht⟩) hS.2.2 hd C.2.2.2.2.2.2.2.2.2.2.1
theorem zw_return (C : zC X E cc nL own none d) (hd : decode cc pc = .ok (.return_, 1)) : zW X E (zRQ X E none M) M pc lv [] := fun H locs ls hP hS h => W.vret C.1 C.2.1 C.2.2.2.2.2.2.2.2.2.2.2 (fun t ht hW => ⟨rfl, by rw [ht]; exact hP, hS.F ht⟩) hS.2.2 hd C.2.2.2.2.2.2.2.2.2.2.1
theorem zw_ireturnE (C : zC X E cc nL own (some .int) d) {v r : Int32} {M' : zM} (h : some (v, M) = some (r, M')) (hd : decode cc pc = .ok (.ireturn, 1)) : zW X E (zRQ X E (some (.int r)) M') M pc lv [.int v] := by
  cases h
  exact zw_ireturn C hd
theorem zw_zreturnE (C : zC X E cc nL own (some .boolean) d) {v r : Int32} {M' : zM} (hn : narrow .boolean (.int v) = .int v) (h : some (v, M) = some (r, M')) (hd : decode cc pc = .ok (.ireturn, 1)) : zW X E (zRQ X E (some (.int r)) M') M pc lv [.int v] := by
  cases h
  exact zw_zreturn C hn hd
theorem zw_lreturnE (C : zC X E cc nL own (some .long) d) {v r : Int64} {M' : zM} (h : some (v, M) = some (r, M')) (hd : decode cc pc = .ok (.lreturn, 1)) : zW X E (zRQ X E (some (.long r)) M') M pc lv [.long v] := by
  cases h
  exact zw_lreturn C hd
theorem zw_returnE (C : zC X E cc nL own none d) {M' : zM} (h : some M = some M') (hd : decode cc pc = .ok (.return_, 1)) : zW X E (zRQ X E none M') M pc lv [] := by
  cases h
  exact zw_return C hd
/-- calls -/
theorem zw_run {M1 : zM} {rv : Option Value} {a : Array Value} {st0 : List Value} (hr : ∀ (H : Heap) (locs : List Loc) (ls : Array Slot), va_P E.1 vwCl (zl E M) H → lv_has ls X.2.2.2.2.2.2.2.2.2.1.maxLocals lv → va_Run X.1 X.2.1 X.2.2.1 X.2.2.2.1 X.2.2.2.2.1 X.2.2.2.2.2.1 X.2.2.2.2.2.2.1 X.2.2.2.2.2.2.2.1 X.2.2.2.2.2.2.2.2.1 X.2.2.2.2.2.2.2.2.2.1 H locs X.2.2.2.2.2.2.2.2.2.2.1 X.2.2.2.2.2.2.2.2.2.2.2 0 0 (F0 X.2.2.2.2.2.1 pc ls st0) st (zQ E rv M1 a) (zA E)) (k : zW X E Q M1 (pc + 3) lv (rv.toList ++ st)) : zW X E Q M pc lv st0 := by
  intro H locs ls hP hS h T hT Y
  obtain ⟨v, st₀, t, T', L, h0, Y', hL, e1, e2, ⟨hv, hp, hz, hk⟩, go⟩ := hr H locs ls hP h T hT Y
  cases hv
  rw [h0] at hz hk
  obtain ⟨t2, a1, b1⟩ := k T'.heap (locs ++ L) ls (by rw [e1]; exact hp) ⟨Nat.le_trans hS.1 (by rw [e1]; exact hz), fun q h1 h2 => by rw [e1, hk q (Nat.lt_of_lt_of_le h1 hS.1) h2]; exact hS.2.1 q h1 h2, fun q hq => by
      rcases List.mem_append.mp hq with h | h
      · exact hS.2.2 q h
      · exact hL q h⟩ h T' rfl Y'
  exact ⟨t2, go t2 a1, b1⟩
/-- what a callee's words must hold: of an instance method of the class Cn, of a static one -/
def zKV (y : MethodName) (bytes : ByteArray) (mL : Nat) (ret : Option FieldType) (n : Nat) : Prop := (Cond.instanceMethod y ∈ zG ∧ Cond.selects y.cls y y ∈ zG ∧ Cond.initialized y.cls ∈ zG ∧ Cond.code y bytes mL ret ∈ zG) ∧ (y.cls ≠ "java/lang/invoke/MethodHandle" ∧ y.cls ≠ "java/lang/invoke/VarHandle" ∧ (parseMethodDescriptor y.desc).map (fun d => d.parameters.length) = some n) ∧ mL ≤ 21
def zKS (y : MethodName) (bytes : ByteArray) (mL : Nat) (ret : Option FieldType) (n : Nat) : Prop := (Cond.static y ∈ zG ∧ Cond.initialized y.cls ∈ zG ∧ Cond.code y bytes mL ret ∈ zG) ∧ (y.cls ≠ "java/lang/invoke/MethodHandle" ∧ y.cls ≠ "java/lang/invoke/VarHandle" ∧ (parseMethodDescriptor y.desc).map (fun d => d.parameters.length) = some n) ∧ mL ≤ 21
theorem zw_good2 {y : MethodName} {bytes : ByteArray} {mL : Nat} {ret : Option FieldType} (h : Cond.code y bytes mL ret ∈ zG) : GoodIn zG (.code y bytes mL ret :: zG) := zw_sub (fun w hw => (List.mem_cons.mp hw).elim (fun e => e ▸ h) id) (fun _ h => h)
theorem zw_callB (C : zC X E cc nL own rt d) {y : MethodName} {bytes : ByteArray} {mL : Nat} {ret : Option FieldType} {d' n idx : Nat} (hcode : Cond.code y bytes mL ret ∈ zG) (hini : Cond.initialized y.cls ∈ zG) (hk : y.cls ≠ "java/lang/invoke/MethodHandle" ∧ y.cls ≠ "java/lang/invoke/VarHandle" ∧ (parseMethodDescriptor y.desc).map (fun d => d.parameters.length) = some n) (hm : mL ≤ 21) (hdd : d' < d) (hlink : Cond.methodLink own idx y ∈ zG) : CallB X.2.2.2.1 X.2.2.2.2.1 X.2.2.2.2.2.2.1 own idx y bytes mL ret (.code y bytes mL ret :: zG) (zR d') 0 0 n := by
  have h9 := C.2.2.2.2.2.2.2.2.2.1
  refine callB_of n C.2.2.2.2.1 (zw_good2 hcode) rfl rfl rfl (C.2.2.2.2.1 _ hini) (C.2.2.2.2.1 _ hlink) hk ⟨?_, ?_⟩
  · show d' + 1 ≤ _
    omega
  · show 8 + (mL + 11) + 40 * d' ≤ _
    omega
theorem zw_preS (C : zC X E cc nL own rt d) {As : List Value} {H : Heap} (hP : va_P E.1 vwCl (zl E M) H) : PreS X.2.2.2.2.1 H (va_Pc As (zP E M)) As := ⟨zM_blind E M As, fun U hU hW => ⟨rfl, by rw [hU]; exact hP, va_K.moved hW.alike C.2.2.2.2.2.1, C.2.2.2.2.2.2.1.warm hW⟩⟩
theorem zw_preV (C : zC X E cc nL own rt d) {b ci : Nat} {q : vw_C} {fs : (Nat → Int32) → (Nat → Int64) → List Value} {As : List Value} {H : Heap} (hP : va_P E.1 vwCl (zl E M) H) (hb : b < 121) (hc : ∀ f g, zc E b f g = .inr (ci, fs f g)) (hcl : vwCl[ci]? = some q) : PreV X.2.2.2.2.1 H q.1 (E.2.1 b) (va_Pc (.ref (E.2.1 b) :: As) (zP E M)) As :=
  ⟨zM_blind E M _, va_recv C.2.2.2.2.2.1 hP hcl ((zl_at hb).trans (by rw [hc])), fun U hU hW => ⟨rfl, by rw [hU]; exact hP, va_K.moved hW.alike C.2.2.2.2.2.1, C.2.2.2.2.2.2.1.warm hW⟩⟩
theorem zw_callV (C : zC X E cc nL own rt d) {y : MethodName} {bytes : ByteArray} {mL : Nat} {ret : Option FieldType} {d' n idx b ci : Nat} {q : vw_C} {fs : (Nat → Int32) → (Nat → Int64) → List Value} {As st0 : List Value} {M1 : zM} {rv : Option Value} (hM : zMet X.2.1 E y bytes mL ret d' (.ref (E.2.1 b) :: As) M M1 rv) (hk : zKV y bytes mL ret n) (hlink : Cond.methodLink own idx y ∈ zG) (hdd : d' < d) (hb : b < 121) (hc : ∀ f g, zc E b f g = .inr (ci, fs f g)) (hcl : vwCl[ci]? = some q) (hq : q.1 = y.cls) (hn : As.length = n) (hst0 : st0 = As.reverse ++ .ref (E.2.1 b) :: st) (hst : (st.map fun v => v.category).sum ≤ 8) (hd : decode cc pc = .ok (.invokevirtual idx, 3)) (k : zW X E Q M1 (pc + 3) lv (rv.toList ++ st)) : zW X E Q M pc lv st0 :=
  zw_run (fun H locs ls hP h => va_runV (As := As) (rest := st) (nL := X.2.2.2.2.2.2.2.2.2.1.maxLocals) ⟨C.1, C.2.1, rfl, C.2.2.2.1, C.2.2.2.2.1⟩ hM ⟨zw_callB C hk.1.2.2.2 hk.1.2.2.1 hk.2.1 hk.2.2 hdd hlink, C.2.2.2.2.1 _ hk.1.1, C.2.2.2.2.1 _ (hq ▸ hk.1.2.1)⟩ (zw_preV C hP hb hc hcl) rfl hn h.1 hst0 (lv_room hst) hd ⟨C.2.2.2.2.2.2.2.2.1.1, C.2.2.2.2.2.2.2.2.1.2⟩) k
theorem zw_callS (C : zC X E cc nL own rt d) {y : MethodName} {bytes : ByteArray} {mL : Nat} {ret : Option FieldType} {d' n idx : Nat} {As st0 : List Value} {M1 : zM} {rv : Option Value} (hM : zMet X.2.1 E y bytes mL ret d' As M M1 rv) (hk : zKS y bytes mL ret n) (hlink : Cond.methodLink own idx y ∈ zG) (hdd : d' < d) (hn : As.length = n) (hst0 : st0 = As.reverse ++ st) (hst : (st.map fun v => v.category).sum ≤ 8) (hd : decode cc pc = .ok (.invokestatic idx, 3)) (k : zW X E Q M1 (pc + 3) lv (rv.toList ++ st)) : zW X E Q M pc lv st0 :=
  zw_run (fun H locs ls hP h => va_runS (As := As) (rest := st) (nL := X.2.2.2.2.2.2.2.2.2.1.maxLocals) ⟨C.1, C.2.1, rfl, C.2.2.2.1, C.2.2.2.2.1⟩ hM ⟨zw_callB C hk.1.2.2 hk.1.2.1 hk.2.1 hk.2.2 hdd hlink, C.2.2.2.2.1 _ hk.1.1⟩ (zw_preS C hP) rfl hn h.1 hst0 (lv_room hst) hd ⟨C.2.2.2.2.2.2.2.2.1.1, C.2.2.2.2.2.2.2.2.1.2⟩) k
theorem zw_callVi (C : zC X E cc nL own rt d) {y : MethodName} {bytes : ByteArray} {mL : Nat} {ret : Option FieldType} {d' n idx b ci : Nat} {q : vw_C} {fs : (Nat → Int32) → (Nat → Int64) → List Value} {As st0 : List Value} {M1 : zM} {v : Value} (hM : zMet X.2.1 E y bytes mL ret d' (.ref (E.2.1 b) :: As) M M1 (some v)) (hk : zKV y bytes mL ret n) (hlink : Cond.methodLink own idx y ∈ zG) (hdd : d' < d) (hb : b < 121) (hc : ∀ f g, zc E b f g = .inr (ci, fs f g)) (hcl : vwCl[ci]? = some q) (hq : q.1 = y.cls) (hn : As.length = n) (hst0 : st0 = As.reverse ++ .ref (E.2.1 b) :: st) (hst : (st.map fun v => v.category).sum ≤ 8) (hd : decode cc pc = .ok (.invokevirtual idx, 3)) (k : zW X E Q M1 (pc + 3) lv (v :: st)) : zW X E Q M pc lv st0 := zw_callV C hM hk hlink hdd hb hc hcl hq hn hst0 hst hd k
theorem zw_callVv (C : zC X E cc nL own rt d) {y : MethodName} {bytes : ByteArray} {mL : Nat} {ret : Option FieldType} {d' n idx b ci : Nat} {q : vw_C} {fs : (Nat → Int32) → (Nat → Int64) → List Value} {As st0 : List Value} {M1 : zM} (hM : zMet X.2.1 E y bytes mL ret d' (.ref (E.2.1 b) :: As) M M1 none) (hk : zKV y bytes mL ret n) (hlink : Cond.methodLink own idx y ∈ zG) (hdd : d' < d) (hb : b < 121) (hc : ∀ f g, zc E b f g = .inr (ci, fs f g)) (hcl : vwCl[ci]? = some q) (hq : q.1 = y.cls) (hn : As.length = n) (hst0 : st0 = As.reverse ++ .ref (E.2.1 b) :: st) (hst : (st.map fun v => v.category).sum ≤ 8) (hd : decode cc pc = .ok (.invokevirtual idx, 3)) (k : zW X E Q M1 (pc + 3) lv st) : zW X E Q M pc lv st0 := zw_callV C hM hk hlink hdd hb hc hcl hq hn hst0 hst hd k
theorem zw_callSi (C : zC X E cc nL own rt d) {y : MethodName} {bytes : ByteArray} {mL : Nat} {ret : Option FieldType} {d' n idx : Nat} {As st0 : List Value} {M1 : zM} {v : Value} (hM : zMet X.2.1 E y bytes mL ret d' As M M1 (some v)) (hk : zKS y bytes mL ret n) (hlink : Cond.methodLink own idx y ∈ zG) (hdd : d' < d) (hn : As.length = n) (hst0 : st0 = As.reverse ++ st) (hst : (st.map fun v => v.category).sum ≤ 8) (hd : decode cc pc = .ok (.invokestatic idx, 3)) (k : zW X E Q M1 (pc + 3) lv (v :: st)) : zW X E Q M pc lv st0 := zw_callS C hM hk hlink hdd hn hst0 hst hd k
theorem zw_callSv (C : zC X E cc nL own rt d) {y : MethodName} {bytes : ByteArray} {mL : Nat} {ret : Option FieldType} {d' n idx : Nat} {As st0 : List Value} {M1 : zM} (hM : zMet X.2.1 E y bytes mL ret d' As M M1 none) (hk : zKS y bytes mL ret n) (hlink : Cond.methodLink own idx y ∈ zG) (hdd : d' < d) (hn : As.length = n) (hst0 : st0 = As.reverse ++ st) (hst : (st.map fun v => v.category).sum ≤ 8) (hd : decode cc pc = .ok (.invokestatic idx, 3)) (k : zW X E Q M1 (pc + 3) lv st) : zW X E Q M pc lv st0 := zw_callS C hM hk hlink hdd hn hst0 hst hd k
end ZROWS
/-- what the walks take apart -/
def zcp (M : zM) (a0 a : Nat) (sp dp n : Int32) : zM := zr M a (va_cpy (M.1 a0) (M.1 a) sp.toNatClampNeg dp.toNatClampNeg n.toNatClampNeg)
def zbi {α β : Type} (a : Option (α × zM)) (k : α → zM → Option β) : Option β := match a with
  | none => none
  | some q => k q.1 q.2
def zbv {β : Type} (a : Option zM) (k : zM → Option β) : Option β := match a with
  | none => none
  | some q => k q
theorem zbi_e {α β : Type} {a : Option (α × zM)} {k : α → zM → Option β} {r : β} (h : zbi a k = some r) : ∃ x M1, a = some (x, M1) ∧ k x M1 = some r := by
  cases a with
  | none => cases h
  | some q => exact ⟨q.1, q.2, rfl, h⟩
theorem zbv_e {β : Type} {a : Option zM} {k : zM → Option β} {r : β} (h : zbv a k = some r) : ∃ M1, a = some M1 ∧ k M1 = some r := by
  cases a with
  | none => cases h
  | some q => exact ⟨q, rfl, h⟩
def zbo (v : Int32) : Bool := decide (v = 0 ∨ v = 1)
theorem zbo_e {v : Int32} (h : zbo v = true) : narrow .boolean (.int v) = .int v := by
  have h2 : v = 0 ∨ v = 1 := of_decide_eq_true h
  rcases h2 with rfl | rfl <;> rfl
def znz (v : Int32) : Bool := decide (¬ v = 0)
theorem znz_e {v : Int32} (h : znz v = true) : ¬ v = 0 := of_decide_eq_true h
def znL (v : Int64) : Bool := decide (¬ v = 0)
theorem znL_e {v : Int64} (h : znL v = true) : ¬ v = 0 := of_decide_eq_true h
/-- the steps that a loop may take -/
def zFU : Nat := 2000
def zg {α : Type} (b : Bool) (k : Option α) : Option α := if b = true then k else none
def zin (i : Int32) (n : Nat) : Bool := decide (¬ (i < 0 ∨ n ≤ i.toNatClampNeg))
theorem zg_e {α : Type} {b : Bool} {k : Option α} {r : α} (h : zg b k = some r) : b = true ∧ k = some r := by
  cases b with
  | false => cases h
  | true => exact ⟨rfl, h⟩
theorem zin_e {i : Int32} {n : Nat} (h : zin i n = true) : vp_in i n := by
  have h2 : ¬ (i < 0 ∨ n ≤ i.toNatClampNeg) := of_decide_eq_true h
  exact h2
theorem zt_ {α : Type} {c : Prop} [Decidable c] {a b : Option α} {r : Option α} (hc : c) (h : (if c then a else b) = r) : a = r := by rw [if_pos hc] at h; exact h
theorem zf_ {α : Type} {c : Prop} [Decidable c] {a b : Option α} {r : Option α} (hc : ¬ c) (h : (if c then a else b) = r) : b = r := by rw [if_neg hc] at h; exact h
theorem zb_ {α β : Type} {a : Option α} {f : α → Option β} {r : β} (h : a.bind f = some r) : ∃ x, a = some x ∧ f x = some r := Option.bind_eq_some_iff.mp h
theorem zs_ {α : Type} {a b : α} (h : some a = some b) : a = b := Option.some.inj h
theorem zc_0 (E : zE) (f : Nat → Int32) (g : Nat → Int64) : zc E 0 f g = .inr (11, zdo E.2.1) := rfl
theorem zc_1 (E : zE) (f : Nat → Int32) (g : Nat → Int64) : zc E 1 f g = .inr (10, ztx E.2.1 f) := rfl
theorem zc_9 (E : zE) (f : Nat → Int32) (g : Nat → Int64) : zc E 9 f g = .inr (6, zpa E.2.1 f) := rfl
theorem zc_13 (E : zE) (f : Nat → Int32) (g : Nat → Int64) : zc E 13 f g = .inr (8, zsi E.2.1 f) := rfl
theorem zc_25 (E : zE) (f : Nat → Int32) (g : Nat → Int64) : zc E 25 f g = .inr (12, zmd E.2.1 f g) := rfl
theorem zpp_3 : zpp 3 := Or.inl rfl
theorem zpp_6 : zpp 6 := Or.inr rfl
theorem zmp_37 : zmp 37 := ⟨by decide, by decide, by decide⟩
theorem zmp_43 : zmp 43 := ⟨by decide, by decide, by decide⟩
theorem zmp_past {j : Nat} (h : j < 10) : zmp (49 + 6 * j) := ⟨by omega, by omega, by omega⟩
theorem zmp_img {j : Nat} (h : j < 2) : zmp (109 + 6 * j) := ⟨by omega, by omega, by omega⟩
theorem zia_2 : zia 2 100 := ⟨by decide, fun _ _ _ => rfl⟩
theorem zia_4 : zia 4 6 := ⟨by decide, fun _ _ _ => rfl⟩
theorem zia_5 : zia 5 6 := ⟨by decide, fun _ _ _ => rfl⟩
theorem zia_7 : zia 7 6 := ⟨by decide, fun _ _ _ => rfl⟩
theorem zia_8 : zia 8 6 := ⟨by decide, fun _ _ _ => rfl⟩
theorem zia_14 : zia 14 6 := ⟨by decide, fun _ _ _ => rfl⟩
theorem zia_15 : zia 15 6 := ⟨by decide, fun _ _ _ => rfl⟩
theorem zia_16 : zia 16 6 := ⟨by decide, fun _ _ _ => rfl⟩
theorem zia_26 : zia 26 6 := ⟨by decide, fun _ _ _ => rfl⟩
theorem zia_27 : zia 27 6 := ⟨by decide, fun _ _ _ => rfl⟩
theorem zia_28 : zia 28 47 := ⟨by decide, fun _ _ _ => rfl⟩
theorem zia_29 : zia 29 47 := ⟨by decide, fun _ _ _ => rfl⟩
theorem zia_30 : zia 30 470 := ⟨by decide, fun _ _ _ => rfl⟩
theorem zia_31 : zia 31 94 := ⟨by decide, fun _ _ _ => rfl⟩
theorem zia_33 : zia 33 18 := ⟨by decide, fun _ _ _ => rfl⟩
theorem zia_34 : zia 34 100 := ⟨by decide, fun _ _ _ => rfl⟩
theorem zia_35 : zia 35 6 := ⟨by decide, fun _ _ _ => rfl⟩
theorem zia_36 : zia 36 6 := ⟨by decide, fun _ _ _ => rfl⟩
theorem zza_12 : zza 12 2 := ⟨by decide, fun _ _ _ => rfl⟩
theorem zza_32 : zza 32 2 := ⟨by decide, fun _ _ _ => rfl⟩
theorem zja_17 : zja 17 82 := ⟨by decide, fun _ _ _ => rfl⟩
theorem zqa_10 : zqa 10 10 3 "WingDoor$Moment" (fun j => 49 + 6 * j) := ⟨by decide, fun _ => rfl, fun _ _ _ => rfl⟩
theorem zqa_11 : zqa 11 2 3 "WingDoor$Moment" (fun j => 109 + 6 * j) := ⟨by decide, fun _ => rfl, fun _ _ _ => rfl⟩
theorem zqa_18 : zqa 18 6 4 "WingDoor$DoorKind" (fun j => 19 + j) := ⟨by decide, fun _ => rfl, fun _ _ _ => rfl⟩
end
section
theorem zin_lt {i : Int32} {n : Nat} (h : zin i n = true) : i.toNatClampNeg < n := Nat.not_le.mp fun q => zin_e h (Or.inr q)
theorem ct_b_m10 : (Int8.ofInt (-10)).toInt32 = (-10 : Int32) := by decide
theorem ct_b_m9 : (Int8.ofInt (-9)).toInt32 = (-9 : Int32) := by decide
theorem ct_b_m3 : (Int8.ofInt (-3)).toInt32 = (-3 : Int32) := by decide
theorem ct_b_m2 : (Int8.ofInt (-2)).toInt32 = (-2 : Int32) := by decide
theorem ct_b_6 : (Int8.ofInt (6)).toInt32 = (6 : Int32) := by decide
theorem ct_b_7 : (Int8.ofInt (7)).toInt32 = (7 : Int32) := by decide
theorem ct_b_8 : (Int8.ofInt (8)).toInt32 = (8 : Int32) := by decide
theorem ct_b_9 : (Int8.ofInt (9)).toInt32 = (9 : Int32) := by decide
theorem ct_b_10 : (Int8.ofInt (10)).toInt32 = (10 : Int32) := by decide
theorem ct_b_11 : (Int8.ofInt (11)).toInt32 = (11 : Int32) := by decide
theorem ct_b_16 : (Int8.ofInt (16)).toInt32 = (16 : Int32) := by decide
theorem ct_b_20 : (Int8.ofInt (20)).toInt32 = (20 : Int32) := by decide
theorem ct_b_29 : (Int8.ofInt (29)).toInt32 = (29 : Int32) := by decide
theorem ct_b_31 : (Int8.ofInt (31)).toInt32 = (31 : Int32) := by decide
theorem ct_b_32 : (Int8.ofInt (32)).toInt32 = (32 : Int32) := by decide
theorem ct_b_38 : (Int8.ofInt (38)).toInt32 = (38 : Int32) := by decide
theorem ct_b_47 : (Int8.ofInt (47)).toInt32 = (47 : Int32) := by decide
theorem ct_b_48 : (Int8.ofInt (48)).toInt32 = (48 : Int32) := by decide
theorem ct_b_57 : (Int8.ofInt (57)).toInt32 = (57 : Int32) := by decide
theorem ct_b_59 : (Int8.ofInt (59)).toInt32 = (59 : Int32) := by decide
theorem ct_b_60 : (Int8.ofInt (60)).toInt32 = (60 : Int32) := by decide
theorem ct_b_61 : (Int8.ofInt (61)).toInt32 = (61 : Int32) := by decide
theorem ct_b_63 : (Int8.ofInt (63)).toInt32 = (63 : Int32) := by decide
theorem ct_b_99 : (Int8.ofInt (99)).toInt32 = (99 : Int32) := by decide
theorem ct_b_100 : (Int8.ofInt (100)).toInt32 = (100 : Int32) := by decide
theorem ct_b_104 : (Int8.ofInt (104)).toInt32 = (104 : Int32) := by decide
theorem ct_b_114 : (Int8.ofInt (114)).toInt32 = (114 : Int32) := by decide
theorem ct_b_115 : (Int8.ofInt (115)).toInt32 = (115 : Int32) := by decide
theorem ct_i_m1 : Int32.ofInt (-1) = (-1 : Int32) := by decide
theorem ct_i_0 : Int32.ofInt (0) = (0 : Int32) := by decide
theorem ct_i_1 : Int32.ofInt (1) = (1 : Int32) := by decide
theorem ct_i_2 : Int32.ofInt (2) = (2 : Int32) := by decide
theorem ct_i_3 : Int32.ofInt (3) = (3 : Int32) := by decide
theorem ct_i_4 : Int32.ofInt (4) = (4 : Int32) := by decide
theorem ct_i_5 : Int32.ofInt (5) = (5 : Int32) := by decide
theorem ct_n_m1 (x : Int32) : x + Int32.ofInt (-1) = x + (-1 : Int32) := by rw [show Int32.ofInt (-1) = (-1 : Int32) by decide]
theorem ct_n_1 (x : Int32) : x + Int32.ofInt (1) = x + (1 : Int32) := by rw [show Int32.ofInt (1) = (1 : Int32) by decide]
theorem ct_n_3 (x : Int32) : x + Int32.ofInt (3) = x + (3 : Int32) := by rw [show Int32.ofInt (3) = (3 : Int32) by decide]
theorem ct_n_4 (x : Int32) : x + Int32.ofInt (4) = x + (4 : Int32) := by rw [show Int32.ofInt (4) = (4 : Int32) by decide]
theorem ct_s_255 : (Int16.ofInt (255)).toInt32 = (255 : Int32) := by decide
theorem ct_s_423 : (Int16.ofInt (423)).toInt32 = (423 : Int32) := by decide
theorem ct_s_512 : (Int16.ofInt (512)).toInt32 = (512 : Int32) := by decide
theorem ct_s_999 : (Int16.ofInt (999)).toInt32 = (999 : Int32) := by decide
end
section
/-! the objects of the kinds: one field each, declared by the class above all -/
def zkk (k ci : Nat) (Cn : String) (Tk : u_T) : Prop := k < 121 ∧ (∀ (E : zE) (f : Nat → Int32) (g : Nat → Int64), zc E k f g = .inr (ci, [.long (g 0)])) ∧ vwCl[ci]? = some (Cn, Tk, 1) ∧ (∀ w ∈ u_ws Cn Tk 1, w ∈ zG) ∧ Tk 0 = ("WingDoor$DoorKind", "noted", "J", false)
def zkd (k : Nat) : Prop := ∃ (ci : Nat) (Cn : String) (Tk : u_T), zkk k ci Cn Tk
theorem zkk_19 : zkk 19 2 RX2 TX2 := ⟨by decide, fun _ _ _ => rfl, rfl, zin_X2, rfl⟩
theorem zkk_20 : zkk 20 0 RX0 TX0 := ⟨by decide, fun _ _ _ => rfl, rfl, zin_X0, rfl⟩
theorem zkk_21 : zkk 21 4 RX4 TX4 := ⟨by decide, fun _ _ _ => rfl, rfl, zin_X4, rfl⟩
theorem zkk_22 : zkk 22 1 RX1 TX1 := ⟨by decide, fun _ _ _ => rfl, rfl, zin_X1, rfl⟩
theorem zkk_23 : zkk 23 3 RX3 TX3 := ⟨by decide, fun _ _ _ => rfl, rfl, zin_X3, rfl⟩
theorem zkk_24 : zkk 24 9 RX9 TX9 := ⟨by decide, fun _ _ _ => rfl, rfl, zin_X9, rfl⟩
theorem zkk.d {k ci : Nat} {Cn : String} {Tk : u_T} (h : zkk k ci Cn Tk) : zkd k := ⟨ci, Cn, Tk, h⟩
theorem zkd_of {j : Nat} (h : j < 6) : zkd (19 + j) := by
  rcases (show j = 0 ∨ j = 1 ∨ j = 2 ∨ j = 3 ∨ j = 4 ∨ j = 5 by omega) with rfl | rfl | rfl | rfl | rfl | rfl
  · exact zkk_19.d
  · exact zkk_20.d
  · exact zkk_21.d
  · exact zkk_22.d
  · exact zkk_23.d
  · exact zkk_24.d
section ZKINDS
variable {X : zX} {E : zE} {cc : ByteArray} {nL : Nat} {own : String} {rt : Option FieldType} {d : Nat} {Q : State → Prop} {M : zM} {pc : Nat} {lv lv' : List (Nat × Value)} {st : List Value}
theorem zw_kget (C : zC X E cc nL own rt d) {b idx : Nat} {ref : String} (hb : zkd b) (hlink : Cond.fieldLink own idx ref "noted" "J" ∈ zG) (hs : ref = "WingDoor$DoorKind" ∨ Cond.sameField ref "WingDoor$DoorKind" "noted" "J" ∈ zG) (hd : decode cc pc = .ok (.getfield idx, 3)) (k : zW X E Q M (pc + 3) lv (.long (M.2 b 0) :: st)) : zW X E Q M pc lv (.ref (E.2.1 b) :: st) := by
  obtain ⟨ci, Cn, Tk, h1, h2, h3, h4, h5⟩ := hb
  intro H locs ls hP hS h
  refine va_get (v := .long (M.2 b 0)) (ref := ref) C.1 C.2.1 C.2.2.2.2.1 h4 C.2.2.2.1 C.2.2.2.2.2.1 hP b ((zl_at h1).trans (by rw [h2])) h3 0 (by decide) (by rw [h5]; exact C.2.2.2.2.1 _ hlink) (by
    rw [h5]
    rcases hs with rfl | hs
    · exact fun _ h9 => h9
    · exact u_same (C.2.2.2.2.1 _ hs)) rfl hd (k H locs ls hP hS h)
theorem zw_kput (C : zC X E cc nL own rt d) {b idx : Nat} {ref : String} {x : Int64} (hb : zkd b) (hlink : Cond.fieldLink own idx ref "noted" "J" ∈ zG) (hs : ref = "WingDoor$DoorKind" ∨ Cond.sameField ref "WingDoor$DoorKind" "noted" "J" ∈ zG) (hd : decode cc pc = .ok (.putfield idx, 3)) (k : zW X E Q (zsL M b 0 x) (pc + 3) lv st) : zW X E Q M pc lv (.long x :: .ref (E.2.1 b) :: st) := by
  obtain ⟨ci, Cn, Tk, h1, h2, h3, h4, h5⟩ := hb
  intro H locs ls hP hS h
  refine va_put (v := .long x) (ty := .long) (ref := ref) C.1 C.2.1 C.2.2.2.2.1 h4 (fun _ => .long) (fun k hk => by rw [show k = 0 from Nat.lt_one_iff.mp hk, h5]; rfl) (fun a ha b hb hab => by omega) C.2.2.2.1 C.2.2.2.2.2.1 hP (zl_D C.2.2.2.2.2.2.2.1 M) hS b ((zl_at h1).trans (by rw [h2])) h3 0 (by decide) (by rw [h5]; exact C.2.2.2.2.1 _ hlink) (by
    rw [h5]
    rcases hs with rfl | hs
    · exact fun _ h9 => h9
    · exact u_same (C.2.2.2.2.1 _ hs)) (by rw [h5]) (by rw [h5]; rfl) rfl rfl (Nat.le_of_ble_eq_true rfl) hd (fun H locs hP hD hS => k H locs ls ?_ hS h)
  rw [show ([Value.long (M.2 b 0)] : List Value).set 0 (.long x) = [.long (vp_updL (M.2 b) 0 x 0)] from rfl, zl_setL h1 (h2 _ _ _).symm] at hP
  exact hP
/-- what a superclass's method needs -/
def zKU (y : MethodName) (bytes : ByteArray) (mL : Nat) (ret : Option FieldType) (n : Nat) : Prop := (Cond.instanceMethod y ∈ zG ∧ Cond.sameMethod y.cls y.cls y.name y.desc ∈ zG ∧ Cond.initialized y.cls ∈ zG ∧ Cond.code y bytes mL ret ∈ zG) ∧ (y.name ≠ "<init>" ∧ (parseMethodDescriptor y.desc).map (fun d => d.parameters.length) = some n) ∧ mL ≤ 21
theorem zw_callSU (C : zC X E cc nL own rt d) {y : MethodName} {bytes : ByteArray} {mL : Nat} {ret : Option FieldType} {d' n idx b : Nat} {As st0 : List Value} {M1 : zM} {v : Value} (hM : zMet X.2.1 E y bytes mL ret d' (.ref (E.2.1 b) :: As) M M1 (some v)) (hk : zKU y bytes mL ret n) (hlink : Cond.methodLink own idx y ∈ zG) (hsup : Cond.superclass own y.cls ∈ zG) (hdd : d' < d) (hb : zkd b) (hn : As.length = n) (hst0 : st0 = As.reverse ++ .ref (E.2.1 b) :: st) (hst : (st.map fun v => v.category).sum ≤ 8) (hd : decode cc pc = .ok (.invokespecial idx, 3)) (k : zW X E Q M1 (pc + 3) lv (v :: st)) : zW X E Q M pc lv st0 := by
  obtain ⟨ci, Cn, Tk, h1, h2, h3, h4, h5⟩ := hb
  have h9 := C.2.2.2.2.2.2.2.2.2.1
  refine zw_run (rv := some v) (fun H locs ls hP h => va_runSU (C := Cn) (cC := E.1.1 ci) (As := As) (rest := st) (nL := X.2.2.2.2.2.2.2.2.2.1.maxLocals) (C.2.2.2.2.2.1.1 ci _ h3).2 ⟨C.1, C.2.1, rfl, C.2.2.2.1, C.2.2.2.2.1⟩ hM (va_cwSU n C.2.2.2.2.1 (zw_sub (fun w hw => ?_) (fun _ h => h)) rfl rfl rfl hk.2.1 ⟨?_, ?_⟩) (zw_preV (q := (Cn, Tk, 1)) C hP h1 (h2 E) h3) rfl hn h.1 hst0 (lv_room hst) hd ⟨C.2.2.2.2.2.2.2.2.1.1, C.2.2.2.2.2.2.2.2.1.2⟩) k
  · rcases List.mem_append.mp hw with hw | hw
    · simp only [List.mem_cons, List.not_mem_nil, or_false] at hw
      rcases hw with rfl | rfl | rfl | rfl | rfl
      · exact hlink
      · exact hk.1.2.1
      · exact hsup
      · exact hk.1.1
      · exact hk.1.2.2.1
    · rcases List.mem_cons.mp hw with rfl | hw
      · exact hk.1.2.2.2
      · exact hw
  · show d' + 1 ≤ _
    omega
  · show 8 + (mL + 11) + 40 * d' ≤ _
    have := hk.2.2
    omega
/-- a method that overrides the one that the call names -/
theorem zw_callU (C : zC X E cc nL own rt d) {x y : MethodName} {owner Cn : String} {bytes b0 : ByteArray} {mL m0 : Nat} {ret r0 : Option FieldType} {d' n idx b ci : Nat} {Tk : u_T} {As st0 : List Value} {M1 : zM} {v : Value} (hM : zMet X.2.1 E y bytes mL ret d' (.ref (E.2.1 b) :: As) M M1 (some v)) (hlink : Cond.methodLink own idx x ∈ zG) (hsame : Cond.sameMethod x.cls owner x.name x.desc ∈ zG) (ho : Cond.instanceMethod ⟨owner, x.name, x.desc⟩ ∈ zG) (hoc : Cond.code ⟨owner, x.name, x.desc⟩ b0 m0 r0 ∈ zG) (hsel : Cond.selects Cn x y ∈ zG) (hin : Cond.instanceMethod y ∈ zG) (hini : Cond.initialized y.cls ∈ zG) (hcode : Cond.code y bytes mL ret ∈ zG) (hnm : owner ≠ "java/lang/invoke/MethodHandle" ∧ owner ≠ "java/lang/invoke/VarHandle" ∧ (parseMethodDescriptor x.desc).map (fun d => d.parameters.length) = some n) (hm : mL ≤ 21) (hdd : d' < d) (hb : zkk b ci Cn Tk) (hn : As.length = n) (hst0 : st0 = As.reverse ++ .ref (E.2.1 b) :: st) (hst : (st.map fun v => v.category).sum ≤ 8) (hd : decode cc pc = .ok (.invokevirtual idx, 3)) (k : zW X E Q M1 (pc + 3) lv (v :: st)) : zW X E Q M pc lv st0 := by
  obtain ⟨h1, h2, h3, h4, h5⟩ := hb
  have h9 := C.2.2.2.2.2.2.2.2.2.1
  refine zw_run (rv := some v) (fun H locs ls hP h => va_runU (C := Cn) (owner := owner) (x := x) (As := As) (rest := st) (nL := X.2.2.2.2.2.2.2.2.2.1.maxLocals) ⟨C.1, C.2.1, rfl, C.2.2.2.1, C.2.2.2.2.1⟩ hM (va_cwO n C.2.2.2.2.1 (zw_sub (fun w hw => ?_) (fun _ h => h)) rfl rfl rfl hoc hnm ⟨?_, ?_⟩) (zw_preV (q := (Cn, Tk, 1)) C hP h1 (h2 E) h3) rfl hn h.1 hst0 (lv_room hst) hd ⟨C.2.2.2.2.2.2.2.2.1.1, C.2.2.2.2.2.2.2.2.1.2⟩) k
  · rcases List.mem_append.mp hw with hw | hw
    · simp only [List.mem_cons, List.not_mem_nil, or_false] at hw
      rcases hw with rfl | rfl | rfl | rfl | rfl | rfl
      · exact hlink
      · exact hsame
      · exact ho
      · exact hsel
      · exact hin
      · exact hini
    · rcases List.mem_cons.mp hw with rfl | hw
      · exact hcode
      · exact hw
  · show d' + 1 ≤ _
    omega
  · show 8 + (mL + 11) + 40 * d' ≤ _
    omega
end ZKINDS
end
section
def R_law : String := "WingDoorLaw"
def lw_P (b : Addr) (xs : List Int32) (args : Array Value) (s : State) : Prop := args = #[.ref b] ∧ s.IntsAt b xs ∧ xs.length ≤ 2048 ∧ (Jvm.Cond.and given_1 narrow_1).before args s = true
def lw_Q (_ : Array Value) (s : State) (o : Outcome) (t : State) : Prop := o = .returned (some (.int 1)) ∧ Framed s o t [] 600000 7302250
def lw_Z (below : List Frame) (a : Array Value) (s : State) : State → Prop := fun t => ∃ o, t.status = .running ∧ Ended t below o ∧ lw_Q a s o t
/-- the law's own end, with 1 on the stack, nothing written that was there before, its room as the claim has it -/
theorem lw_ret {p : Program} {l : Launch} {e : Env} {s : State} {m : MethodId} {below : List Frame} {meth : Method} {c : Code} {b : Nat} (hx : p.tables.exec = Jvm.exec) (hb : c.code = code) (hr : meth.sig.returnType = ret) (hlocks : meth.locks = false) {pc : Nat} {H : Heap} {ls : Array Slot} (hdg : decode code pc = .ok (.ireturn, 1)) : W p l e room_1 s m #[Value.ref b] below meth c H [] 600000 7302250 (lw_Z below #[Value.ref b] s) (F0 m pc ls [.int 1]) := by
  intro T hT X
  obtain ⟨fs, hret, hrun, hended, hW, hframe⟩ := X.leave (v := some (.int 1)) (hlocks := hlocks) (fun h => by rw [hr] at h; cases h)
  have hmeth' : T.vm.method? m = some meth := X.method'
  refine ⟨T.setFrames fs, ?_, .returned (some (.int 1)), hrun, hended, rfl, ⟨_, rfl⟩, hW, hframe⟩
  jvm_step X.here [X.here.top, hx, hb, hdg, hmeth', hr, ret, narrow_b1]
  (try refine ⟨rfl, ?_⟩); (try refine ⟨rfl, ?_⟩)
  first | (intro acts; rw [hret _ acts rfl rfl rfl]) | rw [hret _ _ rfl rfl rfl]
  exact Steps.refl _
/-- what holds at the law's entry: the machine, the code, the tables' words (any of lw_tbl by 'hts w (by decide +kernel)'), the script of L ints xs at the cell b, what the Statement gives of the start (any of its parts by flat_of_before) -/
def lw_At (p : Program) (s : State) (m : MethodId) (meth : Method) (c : Code) (b L : Nat) (xs : Nat → Int32) : Prop :=
  p.tables.exec = Jvm.exec ∧ c.code = code ∧ meth.sig.returnType = ret ∧ c.maxLocals = 4 ∧ s.vm.findClass R_law = some m.cls ∧ (∀ w ∈ lw_tbl, w.before #[Value.ref b] s = true) ∧ va_X b L xs s s.heap ∧ b < s.heap.size ∧ meth.locks = false ∧ (Jvm.Cond.and given_1 narrow_1).before #[Value.ref b] s = true
def zLQ (X : zX) : State → Prop := lw_Z X.2.2.2.2.2.2.2.1 X.2.2.2.2.2.2.1 X.2.2.2.2.1
/-- the script, out of the world; the law's own room -/
def zSc (X : zX) (E : zE) (b L : Nat) (xs : Nat → Int32) : Prop := va_X b L xs X.2.2.2.2.1 X.2.2.2.2.1.heap ∧ b < X.2.2.2.2.1.heap.size ∧ ¬ zA E b
def zLw (X : zX) (E : zE) (b : Nat) : Prop := X.2.2.2.1 = room_1 ∧ X.2.2.2.2.2.2.1 = #[Value.ref b] ∧ X.2.2.2.2.2.2.2.2.2.2.1 = 600000 ∧ X.2.2.2.2.2.2.2.2.2.2.2 = 7302250 ∧ ∀ q, zA E q → X.2.2.2.2.1.heap.size ≤ q
section ZLAW
variable {X : zX} {E : zE} {cc : ByteArray} {nL : Nat} {own : String} {rt : Option FieldType} {d : Nat} {Q : State → Prop} {M M' : zM} {pc b L : Nat} {xs : Nat → Int32} {lv : List (Nat × Value)} {st : List Value}
theorem zw_sld (C : zC X E cc nL own rt d) (hx : zSc X E b L xs) {i : Int32} (hin : vp_in i L) (hd : decode cc pc = .ok (.iaload, 1)) (k : zW X E Q M (pc + 1) lv (.int (xs i.toNatClampNeg) :: st)) : zW X E Q M pc lv (.int i :: .ref b :: st) := fun H locs ls hP hS h => va_sld C.1 C.2.1 hx.1 hx.2.1 hx.2.2 hS hin hd (k H locs ls hP hS h)
theorem zw_slen (C : zC X E cc nL own rt d) (hx : zSc X E b L xs) (hd : decode cc pc = .ok (.arraylength, 1)) (k : zW X E Q M (pc + 1) lv (.int (Int32.ofNat L) :: st)) : zW X E Q M pc lv (.ref b :: st) := fun H locs ls hP hS h => va_slen C.1 C.2.1 hx.1 hx.2.1 hx.2.2 hS hd (k H locs ls hP hS h)
theorem zw_not01 : ¬ some ((0 : Int32), M) = some ((1 : Int32), M') := fun h => by
  have h2 : (0 : Int32) = 1 := congrArg Prod.fst (Option.some.inj h)
  exact absurd h2 (by decide)
theorem zw_lawret (C : zC X E code nL own ret d) (hw : zLw X E b) (hd : decode code pc = .ok (.ireturn, 1)) : zW X E (zLQ X) M pc lv [.int 1] := by
  obtain ⟨p, l, e, R, s, m, args, below, meth, c, cells, slots⟩ := X
  obtain ⟨hR, ha, hc, hs, hq⟩ := hw
  dsimp only at hR ha hc hs hq
  subst hR; subst ha; subst hc; subst hs
  intro H locs ls hP hS h
  exact va_forget (fun q h1 => hq _ (hS.2.2 q h1)) (lw_ret (meth := meth) C.1 C.2.1 C.2.2.2.2.2.2.2.2.2.2.2 C.2.2.2.2.2.2.2.2.2.2.1 hd)
end ZLAW
end
section
/-! what is made: a block of cells from the address b on, in the order of their making -/
def ycw (b : Nat) (cs : List va_E) : va_W := cs.zipIdx.map (fun q => (b + q.2, q.1))
theorem ycw_get (b : Nat) (cs : List va_E) (k : Nat) : (ycw b cs)[k]? = (cs[k]?).map (fun e => (b + k, e)) := by
  rw [ycw, List.getElem?_map, List.getElem?_zipIdx]
  cases cs[k]? with
  | none => rfl
  | some e => simp
theorem ycw_at {b : Nat} {cs : List va_E} {k : Nat} {e : va_E} (h : cs[k]? = some e) : (ycw b cs)[k]? = some (b + k, e) := by rw [ycw_get, h]; rfl
theorem ycw_of {b : Nat} {cs : List va_E} {k : Nat} {q : Nat × va_E} (h : (ycw b cs)[k]? = some q) : ∃ e, cs[k]? = some e ∧ q = (b + k, e) := by
  rw [ycw_get] at h
  cases hc : cs[k]? with
  | none => rw [hc] at h; cases h
  | some e => rw [hc] at h; exact ⟨e, rfl, (Option.some.inj h).symm⟩
theorem ycw_len (b : Nat) (cs : List va_E) : (ycw b cs).length = cs.length := by rw [ycw, List.length_map, List.length_zipIdx]
theorem ycw_set {b : Nat} {cs : List va_E} {k : Nat} {e : va_E} : (ycw b cs).set k (b + k, e) = ycw b (cs.set k e) := by
  apply List.ext_getElem?
  intro i
  rw [ycw_get]
  by_cases hi : k = i
  · subst hi
    by_cases hk : k < cs.length
    · rw [List.getElem?_set_self (by rw [ycw_len]; exact hk), List.getElem?_set_self hk]; rfl
    · rw [List.getElem?_eq_none (by rw [List.length_set, ycw_len]; omega), List.getElem?_eq_none (by rw [List.length_set]; omega)]; rfl
  · rw [List.getElem?_set_ne hi, List.getElem?_set_ne hi, ycw_get]
theorem ycw_D (b : Nat) (cs : List va_E) : va_D (fun q => b ≤ q) (ycw b cs) := by
  refine ⟨fun i j p q hp hq e => ?_, fun k q hq => ?_⟩
  · obtain ⟨e1, h1, rfl⟩ := ycw_of hp
    obtain ⟨e2, h2, rfl⟩ := ycw_of hq
    dsimp only at e
    omega
  · obtain ⟨e1, h1, rfl⟩ := ycw_of hq
    show b ≤ b + k
    omega
theorem ycw_size {D : va_G} {cl : List vw_C} {b : Nat} {cs : List va_E} {H : Heap} (hP : va_P D cl (ycw b cs) H) (hc : 0 < cs.length) : b + cs.length ≤ H.size := by
  have h1 : cs[cs.length - 1]? = some (cs[cs.length - 1]'(by omega)) := List.getElem?_eq_getElem (by omega)
  have h2 := (hP (cs.length - 1) _ (ycw_at h1)).lt
  dsimp only at h2
  omega
theorem ycw_addr {A : Nat → Prop} {b q : Nat} {cs : List va_E} {e : va_E} (hD : va_D A (ycw b cs ++ [(q, e)])) (h1 : b ≤ q) (h2 : q ≤ b + cs.length) : q = b + cs.length := by
  by_cases h : q < b + cs.length
  · have h3 : q - b < cs.length := by omega
    have h4 : (ycw b cs ++ [(q, e)])[q - b]? = some (b + (q - b), cs[q - b]) := by
      rw [List.getElem?_append_left (by rw [ycw_len]; exact h3)]
      exact ycw_at (List.getElem?_eq_getElem h3)
    have h5 : (ycw b cs ++ [(q, e)])[cs.length]? = some (q, e) := by
      rw [List.getElem?_append_right (by rw [ycw_len]; omega), ycw_len, Nat.sub_self]
      rfl
    have := hD.1 _ _ _ _ h4 h5 (by dsimp only; omega)
    omega
  · omega
theorem ycw_snoc (b : Nat) (cs : List va_E) (e : va_E) : ycw b cs ++ [(b + cs.length, e)] = ycw b (cs ++ [e]) := by
  apply List.ext_getElem?
  intro i
  rw [ycw_get]
  by_cases h : i < cs.length
  · rw [List.getElem?_append_left (by rw [ycw_len]; exact h), List.getElem?_append_left h, ycw_get]
  · rw [List.getElem?_append_right (by rw [ycw_len]; omega), List.getElem?_append_right (by omega), ycw_len]
    by_cases h2 : i = cs.length
    · subst h2
      rw [Nat.sub_self]
      rfl
    · rw [List.getElem?_eq_none (by rw [List.length_singleton]; omega), List.getElem?_eq_none (by rw [List.length_singleton]; omega)]
      rfl
theorem ycw_join {D : va_G} {cl : List vw_C} {b : Nat} {cs0 cs1 : List va_E} {e0 : va_E} {H H1 : Heap} (hP : va_P D cl (ycw b (cs0 ++ [e0])) H) (hz : H.size = b + (cs0 ++ [e0]).length) (hk : ∀ q : Nat, q < H.size → ¬ b + cs0.length ≤ q → H1[q]? = H[q]?) (hP1 : va_P D cl (ycw (b + cs0.length) cs1) H1) : va_P D cl (ycw b (cs0 ++ cs1)) H1 := by
  intro k q hq
  obtain ⟨e2, h2, rfl⟩ := ycw_of hq
  by_cases h : k < cs0.length
  · rw [List.getElem?_append_left h] at h2
    refine (hP k _ (ycw_at (e := e2) (by rw [List.getElem?_append_left h]; exact h2))).kept (hk _ ?_ ?_)
    · show b + k < _
      rw [hz, List.length_append]
      omega
    · show ¬ b + cs0.length ≤ b + k
      omega
  · rw [List.getElem?_append_right (by omega)] at h2
    have := hP1 (k - cs0.length) _ (ycw_at h2)
    rw [show b + cs0.length + (k - cs0.length) = b + k by omega] at this
    exact this
def yP (E : zE) (b : Nat) (cs : List va_E) (U : State) : Prop := U.heap.size = b + cs.length ∧ va_P E.1 vwCl (ycw b cs) U.heap ∧ va_K E.1 vwCl (zt E) U ∧ zN U
def yQ (E : zE) (b : Nat) (cs : List va_E) : Array Value → State → Outcome → State → Prop := fun _ st oc t => oc = .returned none ∧ va_P E.1 vwCl (ycw b cs) t.heap ∧ va_F (fun q => b ≤ q) st t
def yR (d mc ms : Nat) : Room := { frames := d, cells := mc, slots := ms, locals := 40 * d }
def yMet (l : Launch) (E : zE) (y : MethodName) (cc : ByteArray) (mL d : Nat) (avs : List Value) (b : Nat) (cs cs' : List va_E) (mc ms : Nat) : Prop :=
  Met l y (.code y cc mL none :: zG) (yR d mc ms) (va_Pc avs (yP E b cs)) (yQ E b cs') mc ms (fun q => b ≤ q)
def yW (X : zX) (E : zE) (b : Nat) (Q : State → Prop) (cs : List va_E) (n1 n2 : Nat) (pc : Nat) (lv : List (Nat × Value)) (st : List Value) : Prop :=
  ∀ (H : Heap) (locs : List Loc) (ls : Array Slot), va_P E.1 vwCl (ycw b cs) H → va_S (fun q => b ≤ q) X.2.2.2.2.1.heap H locs → lv_has ls X.2.2.2.2.2.2.2.2.2.1.maxLocals lv → W X.1 X.2.1 X.2.2.1 X.2.2.2.1 X.2.2.2.2.1 X.2.2.2.2.2.1 X.2.2.2.2.2.2.1 X.2.2.2.2.2.2.2.1 X.2.2.2.2.2.2.2.2.1 X.2.2.2.2.2.2.2.2.2.1 H locs n1 n2 Q (F0 X.2.2.2.2.2.1 pc ls st)
def yRQ (X : zX) (E : zE) (b : Nat) (cs : List va_E) (mc ms : Nat) : State → Prop := MQ X.2.2.2.2.2.2.2.1 (yQ E b cs) X.2.2.2.2.2.2.1 X.2.2.2.2.1 mc ms (fun q => b ≤ q)
/-- what a maker's body knows beside: its room, its name, and that nothing of the block was there before it but its own cell -/
abbrev yC (X : zX) (E : zE) (cc : ByteArray) (nL : Nat) (own : String) (d mc ms : Nat) : Prop := zC X E cc nL own none d ∧ mc ≤ X.2.2.2.1.cells ∧ ms ≤ X.2.2.2.1.slots
theorem ym_of {l : Launch} {E : zE} {y : MethodName} {cc : ByteArray} {mL d : Nat} {avs : List Value} {b : Nat} {cs cs' : List va_E} {mc ms : Nat} (hI : zI E) (hy : plainName y.cls = true) (hlen : (lg_sl avs).length ≤ mL)
    (body : ∀ X : zX, X.2.1 = l → yC X E cc mL y.cls d mc ms → X.2.2.2.2.2.2.2.2.1.name = y.name → X.2.2.2.2.1.heap.size = b + cs.length → yW X E b (yRQ X E b cs' mc ms) cs 0 0 0 (lv_args 0 avs) []) : yMet l E y cc mL d avs b cs cs' mc ms := by
  refine Met.ofW (cc := cc) (maxL := mL) (ret := none) hy rfl ?_
  intro p e s m args below meth c s₁ B hml hv
  obtain ⟨rfl, hz, hP, hK, hN⟩ := hv
  have hts := atoms_spec (ws := .code y cc mL none :: zG) B.pre
  have hl := lv_entry avs (n := mL) hlen
  rw [lg_entry_eq]
  have hb := body (p, l, e, yR d mc ms, s, m, avs.toArray, below, meth, c, 0, 0) rfl ⟨⟨B.exec, B.bytes, hml, findClass_of_methodNamed B.named, fun w hw => hts w (List.mem_cons_of_mem _ hw), hK, hN, hI, ⟨Nat.zero_le _, Nat.zero_le _⟩, ⟨Nat.le_refl _, Nat.le_refl _⟩, B.notSynchronized, B.returns⟩, Nat.le_refl _, Nat.le_refl _⟩ (name_of_methodNamed B.named B.method).1 hz
  exact hb s.heap [] _ hP va_S.rf (by show lv_has _ c.maxLocals _; rw [hml]; exact hl)
theorem yM_blind (E : zE) (b : Nat) (cs : List va_E) (avs : List Value) : FrameBlind (va_Pc avs (yP E b cs)) := fun a U g mk q => ⟨q.1, q.2.1, q.2.2.1, va_K.moved (u := U) (U := U.calling g mk a) (Vm.Alike.refl U.vm) q.2.2.2.1, zN.same (u := U) (U := U.calling g mk a) rfl q.2.2.2.2⟩
section YROWS
variable {X : zX} {E : zE} {cc : ByteArray} {nL : Nat} {own : String} {rt : Option FieldType} {d : Nat} {Q : State → Prop} {b : Nat} {cs cs' : List va_E} {n1 n2 : Nat} {pc : Nat} {lv lv' : List (Nat × Value)} {st : List Value}
theorem yw_eq (h : cs = cs') (k : yW X E b Q cs' n1 n2 pc lv st) : yW X E b Q cs n1 n2 pc lv st := by
  subst h
  exact k
theorem yw_iconst (C : zC X E cc nL own rt d) {n : Int} {v : Int32} (hd : decode cc pc = .ok (.iconst n, 1)) (hv : Int32.ofInt n = v) (k : yW X E b Q cs n1 n2 (pc + 1) lv (.int v :: st)) : yW X E b Q cs n1 n2 pc lv st := fun H locs ls hP hS h => lv_iconst C.1 C.2.1 hd hv (k H locs ls hP hS h)
theorem yw_bipush (C : zC X E cc nL own rt d) {n : Int} {v : Int32} (hd : decode cc pc = .ok (.bipush n, 2)) (hv : (Int8.ofInt n).toInt32 = v) (k : yW X E b Q cs n1 n2 (pc + 2) lv (.int v :: st)) : yW X E b Q cs n1 n2 pc lv st := fun H locs ls hP hS h => lv_bipush C.1 C.2.1 hd hv (k H locs ls hP hS h)
theorem yw_sipush (C : zC X E cc nL own rt d) {n : Int} {v : Int32} (hd : decode cc pc = .ok (.sipush n, 3)) (hv : (Int16.ofInt n).toInt32 = v) (k : yW X E b Q cs n1 n2 (pc + 3) lv (.int v :: st)) : yW X E b Q cs n1 n2 pc lv st := fun H locs ls hP hS h => lv_sipush C.1 C.2.1 hd hv (k H locs ls hP hS h)
theorem yw_iload_n (C : zC X E cc nL own rt d) {j : Fin 4} {i : Nat} {x : Int32} (q : Nat) (hl : lv[q]? = some (i, .int x)) (hd : decode cc pc = .ok (.iload_n j, 1)) (hi : (j : Nat) = i) (k : yW X E b Q cs n1 n2 (pc + 1) lv (.int x :: st)) : yW X E b Q cs n1 n2 pc lv st := fun H locs ls hP hS h => lv_iload_n C.1 C.2.1 hd hi (lv_at h q hl) (k H locs ls hP hS h)
theorem yw_aload_n (C : zC X E cc nL own rt d) {j : Fin 4} {i x : Nat} (q : Nat) (hl : lv[q]? = some (i, .ref x)) (hd : decode cc pc = .ok (.aload_n j, 1)) (hi : (j : Nat) = i) (k : yW X E b Q cs n1 n2 (pc + 1) lv (.ref x :: st)) : yW X E b Q cs n1 n2 pc lv st := fun H locs ls hP hS h => lv_aload_n C.1 C.2.1 hd hi (lv_at h q hl) (k H locs ls hP hS h)
theorem yw_istore_n (C : zC X E cc nL own rt d) {j : Fin 4} {i : Nat} {x : Int32} (hd : decode cc pc = .ok (.istore_n j, 1)) (hi : (j : Nat) = i) (hn : i < nL) (hl : (i, Value.int x) :: lv.filter (fun q => !(q.1 == i) && !(q.1 + 1 == i && q.2.category == 2)) = lv') (k : yW X E b Q cs n1 n2 (pc + 1) lv' st) : yW X E b Q cs n1 n2 pc lv (.int x :: st) := fun H locs ls hP hS h => lv_istore_n C.1 C.2.1 hd hi h (by rw [C.2.2.1]; exact hn) hl (fun ls h => k H locs ls hP hS h)
theorem yw_astore_n (C : zC X E cc nL own rt d) {j : Fin 4} {i x : Nat} (hd : decode cc pc = .ok (.astore_n j, 1)) (hi : (j : Nat) = i) (hn : i < nL) (hl : (i, Value.ref x) :: lv.filter (fun q => !(q.1 == i) && !(q.1 + 1 == i && q.2.category == 2)) = lv') (k : yW X E b Q cs n1 n2 (pc + 1) lv' st) : yW X E b Q cs n1 n2 pc lv (.ref x :: st) := fun H locs ls hP hS h => lv_astore_n C.1 C.2.1 hd hi h (by rw [C.2.2.1]; exact hn) hl (fun ls h => k H locs ls hP hS h)
theorem yw_iinc (C : zC X E cc nL own rt d) {i : Nat} {n : Int} {x v : Int32} (q : Nat) (hk : lv[q]? = some (i, .int x)) (hd : decode cc pc = .ok (.iinc i n, 3)) (hv : x + Int32.ofInt n = v) (hn : i < nL) (hl : (i, Value.int v) :: lv.filter (fun q => !(q.1 == i) && !(q.1 + 1 == i && q.2.category == 2)) = lv') (k : yW X E b Q cs n1 n2 (pc + 3) lv' st) : yW X E b Q cs n1 n2 pc lv st := fun H locs ls hP hS h => lv_iinc C.1 C.2.1 hd h hk hv (by rw [C.2.2.1]; exact hn) hl (fun ls h => k H locs ls hP hS h)
theorem yw_dup (C : zC X E cc nL own rt d) {v : Value} (hv : v.category = 1) (hd : decode cc pc = .ok (.dup, 1)) (k : yW X E b Q cs n1 n2 (pc + 1) lv (v :: v :: st)) : yW X E b Q cs n1 n2 pc lv (v :: st) := fun H locs ls hP hS h => lv_dup C.1 C.2.1 hd hv (k H locs ls hP hS h)
theorem yw_goto (C : zC X E cc nL own rt d) {off : Int} {tgt : Nat} (hd : decode cc pc = .ok (.goto off, 3)) (ht : (pc : Int) + off = (tgt : Int)) (k : yW X E b Q cs n1 n2 tgt lv st) : yW X E b Q cs n1 n2 pc lv st := fun H locs ls hP hS h => lv_goto C.1 C.2.1 hd ht (k H locs ls hP hS h)
theorem yw_icmp_geT (C : zC X E cc nL own rt d) {x y : Int32} {off : Int} {tgt : Nat} (hc : y ≤ x) (hd : decode cc pc = .ok (.if_icmp .ge off, 3)) (ht : (pc : Int) + off = (tgt : Int)) (k : yW X E b Q cs n1 n2 tgt lv st) : yW X E b Q cs n1 n2 pc lv (.int y :: .int x :: st) := fun H locs ls hP hS h => lv_icmp_ge C.1 C.2.1 hd ht (fun _ => k H locs ls hP hS h) (fun q => absurd hc q)
theorem yw_icmp_geF (C : zC X E cc nL own rt d) {x y : Int32} {off : Int} {tgt : Nat} (hc : ¬ y ≤ x) (hd : decode cc pc = .ok (.if_icmp .ge off, 3)) (ht : (pc : Int) + off = (tgt : Int)) (k : yW X E b Q cs n1 n2 (pc + 3) lv st) : yW X E b Q cs n1 n2 pc lv (.int y :: .int x :: st) := fun H locs ls hP hS h => lv_icmp_ge C.1 C.2.1 hd ht (fun q => absurd q hc) (fun _ => k H locs ls hP hS h)
theorem yw_get (C : zC X E cc nL own rt d) {i ci N idx : Nat} {Cn : String} {T : u_T} {fs : List Value} (hc : cs[i]? = some (.inr (ci, fs))) (hcl : vwCl[ci]? = some (Cn, T, N)) (hin : ∀ w ∈ u_ws Cn T N, w ∈ zG) (j : Nat) (hj : j < N) (hlink : Cond.fieldLink own idx (T j).1 (T j).2.1 (T j).2.2.1 ∈ zG) {v : Value} (hv : fs[j]? = some v) (hd : decode cc pc = .ok (.getfield idx, 3)) (k : yW X E b Q cs n1 n2 (pc + 3) lv (v :: st)) : yW X E b Q cs n1 n2 pc lv (.ref (b + i) :: st) := fun H locs ls hP hS h => va_get C.1 C.2.1 C.2.2.2.2.1 hin C.2.2.2.1 C.2.2.2.2.2.1 hP i (ycw_at hc) hcl j hj (C.2.2.2.2.1 _ hlink) (fun _ h9 => h9) hv hd (k H locs ls hP hS h)
theorem yw_put (C : zC X E cc nL own rt d) {i ci N idx : Nat} {Cn : String} {T : u_T} {fs : List Value} {v : Value} {ty : FieldType} (hc : cs[i]? = some (.inr (ci, fs))) (hcl : vwCl[ci]? = some (Cn, T, N)) (hin : ∀ w ∈ u_ws Cn T N, w ∈ zG) (ty0 : Nat → FieldType) (hty : ∀ k, k < N → parseFieldDescriptor (T k).2.2.1 = some (ty0 k)) (hnm : ∀ a, a < N → ∀ b, b < N → a ≠ b → (T a).2.1 ≠ (T b).2.1) (j : Nat) (hj : j < N) (hlink : Cond.fieldLink own idx (T j).1 (T j).2.1 (T j).2.2.1 ∈ zG) (hfin : (T j).2.2.2 = false) (hde : parseFieldDescriptor (T j).2.2.1 = some ty) (hn : narrow ty v = v) (hfit : fits ty v = true) (hlen : j < fs.length) (hs : cs.set i (.inr (ci, fs.set j v)) = cs') (hd : decode cc pc = .ok (.putfield idx, 3)) (k : yW X E b Q cs' n1 n2 (pc + 3) lv st) : yW X E b Q cs n1 n2 pc lv (v :: .ref (b + i) :: st) := fun H locs ls hP hS h => va_put C.1 C.2.1 C.2.2.2.2.1 hin ty0 hty hnm C.2.2.2.1 C.2.2.2.2.2.1 hP (ycw_D b cs) hS i (ycw_at hc) hcl j hj (C.2.2.2.2.1 _ hlink) (fun _ h9 => h9) hfin hde hn hfit hlen hd (fun H locs hP hD hS => k H locs ls (by rw [ycw_set, hs] at hP; exact hP) hS h)
theorem yw_putF (C : zC X E cc nL own rt d) {i ci N idx : Nat} {Cn : String} {T : u_T} {fs : List Value} {v : Value} {ty : FieldType} (hnm0 : X.2.2.2.2.2.2.2.2.1.name = "<init>") (hc : cs[i]? = some (.inr (ci, fs))) (hcl : vwCl[ci]? = some (Cn, T, N)) (hin : ∀ w ∈ u_ws Cn T N, w ∈ zG) (ty0 : Nat → FieldType) (hty : ∀ k, k < N → parseFieldDescriptor (T k).2.2.1 = some (ty0 k)) (hnm : ∀ a, a < N → ∀ b, b < N → a ≠ b → (T a).2.1 ≠ (T b).2.1) (j : Nat) (hj : j < N) (hlink : Cond.fieldLink own idx (T j).1 (T j).2.1 (T j).2.2.1 ∈ zG) (hfin : (T j).2.2.2 = true) (hdecl : (T j).1 = own) (hde : parseFieldDescriptor (T j).2.2.1 = some ty) (hn : narrow ty v = v) (hfit : fits ty v = true) (hlen : j < fs.length) (hs : cs.set i (.inr (ci, fs.set j v)) = cs') (hd : decode cc pc = .ok (.putfield idx, 3)) (k : yW X E b Q cs' n1 n2 (pc + 3) lv st) : yW X E b Q cs n1 n2 pc lv (v :: .ref (b + i) :: st) := fun H locs ls hP hS h => va_putF C.1 C.2.1 C.2.2.2.2.1 hin ty0 hty hnm C.2.2.2.1 C.2.2.2.2.2.1 hP (ycw_D b cs) hS i (ycw_at hc) hcl j hj (C.2.2.2.2.1 _ hlink) (fun _ h9 => h9) hfin hnm0 hdecl hde hn hfit hlen hd (fun H locs hP hD hS => k H locs ls (by rw [ycw_set, hs] at hP; exact hP) hS h)
theorem yw_objInit (C : zC X E cc nL own rt d) {a idx : Nat} (hlink : Cond.methodLink own idx objectInit ∈ zG) (hin : Cond.instanceMethod objectInit ∈ zG) (hcode : Cond.code objectInit ⟨#[0xb1]⟩ 1 none ∈ zG) (hd0 : 1 ≤ d) (hst : (st.map fun v => v.category).sum ≤ 8) (hd : decode cc pc = .ok (.invokespecial idx, 3)) (k : yW X E b Q cs n1 n2 (pc + 3) lv st) : yW X E b Q cs n1 n2 pc lv (.ref a :: st) := fun H locs ls hP hS h => by
  have h9 := C.2.2.2.2.2.2.2.2.2.1
  exact W.objInit C.1 C.2.1 C.2.2.2.1 (C.2.2.2.2.1 _ hlink) (C.2.2.2.2.1 _ hin) (C.2.2.2.2.1 _ hcode) rfl h.1 rfl hd (by omega) (by show 2 * 0 + _ + 12 ≤ _; omega) (k H locs ls hP hS h)
theorem yw_return (C : zC X E cc nL own none d) (hd : decode cc pc = .ok (.return_, 1)) : yW X E b (yRQ X E b cs n1 n2) cs n1 n2 pc lv [] := fun H locs ls hP hS h => W.vret C.1 C.2.1 C.2.2.2.2.2.2.2.2.2.2.2 (fun t ht hW => ⟨rfl, by rw [ht]; exact hP, hS.F ht⟩) hS.2.2 hd C.2.2.2.2.2.2.2.2.2.2.1
/-- making: the new cell's address is the next one, since no more cells are there than were counted -/
theorem yw_at (h : X.2.2.2.2.1.heap.size + n1 = b + cs.length) {H : Heap} {locs : List Loc} {g : JFrame} (k : H.size ≤ b + cs.length → W X.1 X.2.1 X.2.2.1 X.2.2.2.1 X.2.2.2.2.1 X.2.2.2.2.2.1 X.2.2.2.2.2.2.1 X.2.2.2.2.2.2.2.1 X.2.2.2.2.2.2.2.2.1 X.2.2.2.2.2.2.2.2.2.1 H locs n1 n2 Q g) : W X.1 X.2.1 X.2.2.1 X.2.2.2.1 X.2.2.2.2.1 X.2.2.2.2.2.1 X.2.2.2.2.2.2.1 X.2.2.2.2.2.2.2.1 X.2.2.2.2.2.2.2.2.1 X.2.2.2.2.2.2.2.2.2.1 H locs n1 n2 Q g := by
  intro T hT Y
  refine k ?_ T hT Y
  have h1 := Y.same.2.2.1
  have h2 : (T.setVm X.2.2.2.2.1.vm).heap = H := hT
  rw [h2] at h1
  omega
theorem yw_last {D : va_G} {cl : List vw_C} {ws : va_W} {q : Nat} {e : va_E} {H : Heap} (hP : va_P D cl (ws ++ [(q, e)]) H) : q < H.size := by
  have h := hP ws.length (q, e) (by rw [List.getElem?_append_right (Nat.le_refl _), Nat.sub_self]; rfl)
  exact h.lt
theorem yw_lastD {A : Nat → Prop} {ws : va_W} {q : Nat} {e : va_E} (hD : va_D A (ws ++ [(q, e)])) : A q := hD.2 ws.length (q, e) (by rw [List.getElem?_append_right (Nat.le_refl _), Nat.sub_self]; rfl)
theorem yw_new (C : zC X E cc nL own rt d) {ci N idx : Nat} {Cn : String} {T : u_T} {fs : List Value} (hz : X.2.2.2.2.1.heap.size + n1 = b + cs.length) (hb : b ≤ X.2.2.2.2.1.heap.size) (hcl : vwCl[ci]? = some (Cn, T, N)) (hin : ∀ w ∈ u_ws Cn T N, w ∈ zG) (ty : Nat → FieldType) (hty : ∀ k, k < N → parseFieldDescriptor (T k).2.2.1 = some (ty k)) (hlink : Cond.classLink own idx Cn ∈ zG) (hinst : Cond.instantiable Cn N ∈ zG) (hini : Cond.initialized Cn ∈ zG) (hfs : ∀ j, j < N → defaultValue (ty j) = vp_V fs j) (hr : n1 + 1 ≤ X.2.2.2.1.cells ∧ n2 + N ≤ X.2.2.2.1.slots) (hd : decode cc pc = .ok (.new idx, 3)) (k : yW X E b Q (cs ++ [.inr (ci, fs)]) (n1 + 1) (n2 + N) (pc + 3) lv (.ref (b + cs.length) :: st)) : yW X E b Q cs n1 n2 pc lv st := by
  intro H locs ls hP hS h
  refine va_new (fs := fs) C.1 C.2.1 C.2.2.2.2.1 hin ty hty C.2.2.2.1 (C.2.2.2.2.1 _ hlink) (C.2.2.2.2.1 _ hinst) (C.2.2.2.2.1 _ hini) C.2.2.2.2.2.1 hP (ycw_D b cs) hS (fun q hq => Nat.le_trans hb hq) hcl hfs hr.1 hr.2 hd (fun q H1 hP1 hD1 hS1 => ?_)
  refine yw_at (b := b) (cs := cs ++ [.inr (ci, fs)]) (by rw [List.length_append, List.length_singleton]; omega) (fun hle => ?_)
  rw [List.length_append, List.length_singleton] at hle
  have h1 := yw_last hP1
  have h2 : b ≤ q := yw_lastD hD1
  have h3 := ycw_addr hD1 h2 (by omega)
  subst h3
  rw [ycw_snoc] at hP1
  exact k H1 locs ls hP1 hS1 h
theorem yw_newa (C : zC X E cc nL own rt d) {aty : ArrayType} {t : Nat} {ty : FieldType} {n : Int32} {N : Nat} {a0 : vp_A} (hz : X.2.2.2.2.1.heap.size + n1 = b + cs.length) (hb : b ≤ X.2.2.2.2.1.heap.size) (hw : Cond.arrayClass ty ∈ zG) (hty : newarray.typeOf aty = ty) (ht : (zt E)[t]? = some (E.2.2 t, ty)) (hnr : ∀ (U : State) (c : ClassId), va_RA U c ty → U.vm.findClass ("[" ++ ty.toString) = some c) (ha : ∀ cA : ClassId, vp_cell cA a0 = arrV cA N (fun _ => defaultValue ty)) (hn : ¬ n < 0) (hN : n.toNatClampNeg = N) (hby : N * componentBytes ty ≤ 536870912) (hr : n1 + 1 ≤ X.2.2.2.1.cells ∧ n2 + N ≤ X.2.2.2.1.slots) (hd : decode cc pc = .ok (.newarray aty, 2)) (k : yW X E b Q (cs ++ [.inl (E.2.2 t, a0)]) (n1 + 1) (n2 + N) (pc + 2) lv (.ref (b + cs.length) :: st)) : yW X E b Q cs n1 n2 pc lv (.int n :: st) := by
  intro H locs ls hP hS h
  subst hty
  refine va_newa (a0 := a0) C.1 C.2.1 (C.2.2.2.2.1 _ hw) rfl C.2.2.2.2.2.1 hP (ycw_D b cs) hS (fun q hq => Nat.le_trans hb hq) ha hn hN hby hr.1 hr.2 hd (fun q cA H1 hK1 hP1 hD1 hS1 => ?_)
  have e1 := hnr _ _ (hK1.2 (zt E).length _ (by rw [List.getElem?_append_right (Nat.le_refl _), Nat.sub_self]; rfl)).2
  have e2 := hnr _ _ (C.2.2.2.2.2.1.2 t _ ht).2
  have e3 : cA = E.2.2 t := Option.some.inj (e1.symm.trans e2)
  subst e3
  refine yw_at (b := b) (cs := cs ++ [.inl (E.2.2 t, a0)]) (by rw [List.length_append, List.length_singleton]; omega) (fun hle => ?_)
  rw [List.length_append, List.length_singleton] at hle
  have h1 := yw_last hP1
  have h2 : b ≤ q := yw_lastD hD1
  have h3 := ycw_addr hD1 h2 (by omega)
  subst h3
  rw [ycw_snoc] at hP1
  exact k H1 locs ls hP1 hS1 h
theorem yw_newq (C : zC X E cc nL own rt d) {t idx : Nat} {Cn : String} {n : Int32} {N : Nat} (hz : X.2.2.2.2.1.heap.size + n1 = b + cs.length) (hb : b ≤ X.2.2.2.2.1.heap.size) (hlink : Cond.classLink own idx Cn ∈ zG) (hover : va_AO Cn X.2.2.2.2.1) (ht : (zt E)[t]? = some (E.2.2 t, .object Cn)) (hn : ¬ n < 0) (hN : n.toNatClampNeg = N) (hby : N * 4 ≤ 536870912) (hr : n1 + 1 ≤ X.2.2.2.1.cells ∧ n2 + N ≤ X.2.2.2.1.slots) (hd : decode cc pc = .ok (.anewarray idx, 3)) (k : yW X E b Q (cs ++ [.inl (E.2.2 t, N, .inr (.inr (.inr (.inr (fun _ => none)))))]) (n1 + 1) (n2 + N) (pc + 3) lv (.ref (b + cs.length) :: st)) : yW X E b Q cs n1 n2 pc lv (.int n :: st) := by
  intro H locs ls hP hS h
  refine va_newq C.1 C.2.1 C.2.2.2.1 (C.2.2.2.2.1 _ hlink) hover C.2.2.2.2.2.1 hP (ycw_D b cs) hS (fun q hq => Nat.le_trans hb hq) hn hN hby hr.1 hr.2 hd (fun q cA H1 hK1 hP1 hD1 hS1 => ?_)
  obtain ⟨_, _, -, -, -, e1⟩ := (hK1.2 (zt E).length (cA, .object Cn) (by rw [List.getElem?_append_right (Nat.le_refl _), Nat.sub_self]; rfl)).2
  obtain ⟨_, _, -, -, -, e2⟩ := (C.2.2.2.2.2.1.2 t _ ht).2
  have e3 : cA = E.2.2 t := Option.some.inj (e1.symm.trans e2)
  subst e3
  refine yw_at (b := b) (cs := cs ++ [.inl (E.2.2 t, N, .inr (.inr (.inr (.inr (fun _ => none)))))]) (by rw [List.length_append, List.length_singleton]; omega) (fun hle => ?_)
  rw [List.length_append, List.length_singleton] at hle
  have h1 := yw_last hP1
  have h2 : b ≤ q := yw_lastD hD1
  have h3 := ycw_addr hD1 h2 (by omega)
  subst h3
  rw [ycw_snoc] at hP1
  exact k H1 locs ls hP1 hS1 h
theorem yw_aast (C : zC X E cc nL own rt d) {t i j ci m : Nat} {r : vw_C} {vs : List Value} {f : Nat → Option Nat} {x : Int32} {s : String} (ha : cs[i]? = some (.inl (E.2.2 t, m, .inr (.inr (.inr (.inr f)))))) (ht : (zt E)[t]? = some (E.2.2 t, .object s)) (hv : cs[j]? = some (.inr (ci, vs))) (hc : vwCl[ci]? = some r) (hca : r.1 = s ∨ Cond.castable r.1 s ∈ zNc) (hin : vp_in x m) (hs : cs.set i (.inl (E.2.2 t, m, .inr (.inr (.inr (.inr (va_up f x.toNatClampNeg (some (b + j)))))))) = cs') (hd : decode cc pc = .ok (.aastore, 1)) (k : yW X E b Q cs' n1 n2 (pc + 1) lv st) : yW X E b Q cs n1 n2 pc lv (.ref (b + j) :: .int x :: .ref (b + i) :: st) := by
  intro H locs ls hP hS h
  rcases hca with rfl | hca
  · exact va_astq C.1 C.2.1 C.2.2.2.2.2.1 hP (ycw_D b cs) hS i t j ci (ycw_at ha) ht (ycw_at hv) hc hin hd (fun H locs hP hD hS => k H locs ls (by rw [ycw_set, hs] at hP; exact hP) hS h)
  · exact va_astqO C.1 C.2.1 C.2.2.2.2.2.1 hP (ycw_D b cs) hS i t j ci (ycw_at ha) ht (C.2.2.2.2.2.2.1.2.2 _ hca) (ycw_at hv) hc hin hd (fun H locs hP hD hS => k H locs ls (by rw [ycw_set, hs] at hP; exact hP) hS h)
/-- a maker is called on the last cell -/
theorem yw_run {cs0 cs1 : List va_E} {e0 : va_E} {mc ms : Nat} {a : Array Value} {st0 : List Value} (hz : X.2.2.2.2.1.heap.size + n1 = b + (cs0 ++ [e0]).length) (hr : ∀ (H : Heap) (locs : List Loc) (ls : Array Slot), H.size = b + cs0.length + 1 → va_P E.1 vwCl (ycw (b + cs0.length) [e0]) H → lv_has ls X.2.2.2.2.2.2.2.2.2.1.maxLocals lv → va_Run X.1 X.2.1 X.2.2.1 X.2.2.2.1 X.2.2.2.2.1 X.2.2.2.2.2.1 X.2.2.2.2.2.2.1 X.2.2.2.2.2.2.2.1 X.2.2.2.2.2.2.2.2.1 X.2.2.2.2.2.2.2.2.2.1 H locs n1 n2 mc ms (F0 X.2.2.2.2.2.1 pc ls st0) st (yQ E (b + cs0.length) cs1 a) (fun q => b + cs0.length ≤ q)) (k : yW X E b Q (cs0 ++ cs1) (n1 + mc) (n2 + ms) (pc + 3) lv st) : yW X E b Q (cs0 ++ [e0]) n1 n2 pc lv st0 := by
  intro H locs ls hP hS h
  refine yw_at (b := b) (cs := cs0 ++ [e0]) hz (fun hle => ?_)
  have hge := ycw_size hP (by rw [List.length_append, List.length_singleton]; omega)
  rw [List.length_append, List.length_singleton] at hle hge
  have hz1 : H.size = b + cs0.length + 1 := by omega
  have hP0 : va_P E.1 vwCl (ycw (b + cs0.length) [e0]) H := by
    intro i q hq
    obtain ⟨e2, h2, rfl⟩ := ycw_of hq
    have hi : i < 1 := (List.getElem?_eq_some_iff.mp h2).1
    obtain rfl : i = 0 := by omega
    cases h2
    exact hP cs0.length _ (ycw_at (by rw [List.getElem?_append_right (Nat.le_refl _), Nat.sub_self]; rfl))
  intro T hT Y
  obtain ⟨v, st₀, t, T', L, h0, Y', hL, e1, e2, ⟨hv, hp, hzz, hk⟩, go⟩ := hr H locs ls hz1 hP0 h T hT Y
  cases hv
  rw [h0] at hzz hk
  obtain ⟨t2, a1, b1⟩ := k T'.heap (locs ++ L) ls (by rw [e1]; exact ycw_join hP (by rw [List.length_append, List.length_singleton]; omega) hk hp) ⟨Nat.le_trans hS.1 (by rw [e1]; exact hzz), fun q h1 h2 => by rw [e1, hk q (Nat.lt_of_lt_of_le h1 hS.1) (fun h9 => h2 (show b ≤ q by omega))]; exact hS.2.1 q h1 h2, fun q hq => by
      rcases List.mem_append.mp hq with h | h
      · exact hS.2.2 q h
      · have := hL q h
        show b ≤ q.base
        omega⟩ h T' rfl Y'
  exact ⟨t2, go t2 a1, b1⟩
/-- a maker's words -/
def yKI (y : MethodName) (bytes : ByteArray) (mL n : Nat) : Prop := (Cond.instanceMethod y ∈ zG ∧ Cond.initialized y.cls ∈ zG ∧ Cond.code y bytes mL none ∈ zG) ∧ y.name = "<init>" ∧ (y.cls ≠ "java/lang/invoke/MethodHandle" ∧ y.cls ≠ "java/lang/invoke/VarHandle" ∧ (parseMethodDescriptor y.desc).map (fun d => d.parameters.length) = some n) ∧ mL ≤ 21
theorem yw_preS (C : zC X E cc nL own rt d) {As : List Value} {H : Heap} {b' : Nat} {cs1 : List va_E} (hz : H.size = b' + cs1.length) (hP : va_P E.1 vwCl (ycw b' cs1) H) : PreS X.2.2.2.2.1 H (va_Pc As (yP E b' cs1)) As := ⟨yM_blind E b' cs1 As, fun U hU hW => ⟨rfl, by rw [hU]; exact hz, by rw [hU]; exact hP, va_K.moved hW.alike C.2.2.2.2.2.1, C.2.2.2.2.2.2.1.warm hW⟩⟩
theorem yw_callI (C : zC X E cc nL own rt d) {y : MethodName} {bytes : ByteArray} {mL : Nat} {d' n idx q0 : Nat} {As st0 : List Value} {cs0 cs1 : List va_E} {e0 : va_E} {mc ms : Nat} (hq : cs0.length = q0) (hs : cs0 ++ [e0] = cs) (hs2 : cs0 ++ cs1 = cs') (hM : yMet X.2.1 E y bytes mL d' (.ref (b + cs0.length) :: As) (b + cs0.length) [e0] cs1 mc ms) (hk : yKI y bytes mL n) (hlink : Cond.methodLink own idx y ∈ zG ∨ ∃ host, Cond.methodLinkNest own idx y host ∈ zNm) (hz : X.2.2.2.2.1.heap.size + n1 = b + cs.length) (hdd : d' < d) (hr : n1 + mc ≤ X.2.2.2.1.cells ∧ n2 + ms ≤ X.2.2.2.1.slots) (hn : As.length = n) (hst0 : st0 = As.reverse ++ .ref (b + q0) :: st) (hst : (st.map fun v => v.category).sum ≤ 8) (hd : decode cc pc = .ok (.invokespecial idx, 3)) (k : yW X E b Q cs' (n1 + mc) (n2 + ms) (pc + 3) lv st) : yW X E b Q cs n1 n2 pc lv st0 := by
  subst hs; subst hs2; subst hq
  have h9 := C.2.2.2.2.2.2.2.2.2.1
  have hm := hk.2.2.2
  have hR : (yR d' mc ms).frames + 1 ≤ X.2.2.2.1.frames ∧ 8 + (mL + 11) + (yR d' mc ms).locals ≤ X.2.2.2.1.locals := by
    refine ⟨?_, ?_⟩
    · show d' + 1 ≤ _
      omega
    · show 8 + (mL + 11) + 40 * d' ≤ _
      omega
  refine yw_run (a := (Value.ref (b + cs0.length) :: As).toArray) hz (fun H locs ls hz1 hP0 h => ?_) k
  rcases hlink with hlink | ⟨host, hlink⟩
  · exact va_runI (As := As) (rest := st) (nL := X.2.2.2.2.2.2.2.2.2.1.maxLocals) ⟨C.1, C.2.1, rfl, C.2.2.2.1, C.2.2.2.2.1⟩ hM (cwI n C.2.2.2.2.1 (zw_good2 hk.1.2.2) rfl rfl rfl (C.2.2.2.2.1 _ hk.1.2.1) (C.2.2.2.2.1 _ hlink) (C.2.2.2.2.1 _ hk.1.1) hk.2.1 hk.2.2.1 hR) (yw_preS C hz1 hP0) rfl hn h.1 hst0 (lv_room hst) hd hr
  · exact va_runIN (As := As) (rest := st) (nL := X.2.2.2.2.2.2.2.2.2.1.maxLocals) ⟨C.1, C.2.1, rfl, C.2.2.2.1, C.2.2.2.2.1⟩ hM ⟨va_cnB n C.2.2.2.2.1 (zw_good2 hk.1.2.2) rfl rfl rfl (C.2.2.2.2.2.2.1.2.1 _ hlink) (C.2.2.2.2.1 _ hk.1.2.1) hk.2.2.1 hR, hk.2.1, C.2.2.2.2.1 _ hk.1.1⟩ (yw_preS C hz1 hP0) rfl hn h.1 hst0 (lv_room hst) hd hr
/-- a void method is called on the whole block, that begins with its object -/
theorem yw_callV (C : zC X E cc nL own rt d) {y : MethodName} {bytes : ByteArray} {mL : Nat} {d' idx ci : Nat} {q : vw_C} {fs : List Value} (hM : yMet X.2.1 E y bytes mL d' [.ref (b + 0)] b cs cs' 0 0) (hk : zKV y bytes mL none 0) (hlink : Cond.methodLink own idx y ∈ zG) (hz : X.2.2.2.2.1.heap.size + n1 = b + cs.length) (hdd : d' < d) (hr : n1 ≤ X.2.2.2.1.cells ∧ n2 ≤ X.2.2.2.1.slots) (hc : cs[0]? = some (.inr (ci, fs))) (hcl : vwCl[ci]? = some q) (hq : q.1 = y.cls) (hd : decode cc pc = .ok (.invokevirtual idx, 3)) (k : yW X E b Q cs' n1 n2 (pc + 3) lv []) : yW X E b Q cs n1 n2 pc lv [.ref (b + 0)] := by
  intro H locs ls hP hS h
  refine yw_at (b := b) (cs := cs) hz (fun hle => ?_)
  have h0 : 0 < cs.length := (List.getElem?_eq_some_iff.mp hc).1
  have hge := ycw_size hP h0
  have hz1 : H.size = b + cs.length := by omega
  have h9 := C.2.2.2.2.2.2.2.2.2.1
  have hm := hk.2.2
  have hB : CallB X.2.2.2.1 X.2.2.2.2.1 X.2.2.2.2.2.2.1 own idx y bytes mL none (.code y bytes mL none :: zG) (yR d' 0 0) 0 0 0 := by
    refine callB_of 0 C.2.2.2.2.1 (zw_good2 hk.1.2.2.2) rfl rfl rfl (C.2.2.2.2.1 _ hk.1.2.2.1) (C.2.2.2.2.1 _ hlink) hk.2.1 ⟨?_, ?_⟩
    · show d' + 1 ≤ _
      omega
    · show 8 + (mL + 11) + 40 * d' ≤ _
      omega
  have hrun := va_runV (As := []) (rest := []) (locs := locs) (cells := n1) (slots := n2) (g := F0 X.2.2.2.2.2.1 pc ls [.ref (b + 0)]) (p := X.1) (e := X.2.2.1) (below := X.2.2.2.2.2.2.2.1) (meth := X.2.2.2.2.2.2.2.2.1) (nL := X.2.2.2.2.2.2.2.2.2.1.maxLocals) ⟨C.1, C.2.1, rfl, C.2.2.2.1, C.2.2.2.2.1⟩ hM ⟨hB, C.2.2.2.2.1 _ hk.1.1, C.2.2.2.2.1 _ (hq ▸ hk.1.2.1)⟩ ⟨yM_blind E b cs _, va_recv C.2.2.2.2.2.1 hP hcl (ycw_at hc), (yw_preS C hz1 hP).2⟩ rfl rfl h.1 rfl (lv_room (Nat.zero_le _)) hd hr
  intro T hT Y
  obtain ⟨v, st₀, t, T', L, h0, Y', hL, e1, e2, ⟨hv, hp, hzz, hk⟩, go⟩ := hrun T hT Y
  cases hv
  rw [h0] at hzz hk
  obtain ⟨t2, a1, b1⟩ := k T'.heap (locs ++ L) ls (by rw [e1]; exact hp) ⟨Nat.le_trans hS.1 (by rw [e1]; exact hzz), fun q h1 h2 => by rw [e1, hk q (Nat.lt_of_lt_of_le h1 hS.1) h2]; exact hS.2.1 q h1 h2, fun q hq => by
      rcases List.mem_append.mp hq with h | h
      · exact hS.2.2 q h
      · exact hL q h⟩ h T' rfl Y'
  exact ⟨t2, go t2 a1, b1⟩
end YROWS
end
