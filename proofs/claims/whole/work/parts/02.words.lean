/-- the words that a callee may take along: all of the tables that are good -/
def zG : List Cond := lw_tbl.filter goodWord
theorem zG_in {w : Cond} (h : w ∈ zG) : w ∈ lw_tbl := (List.mem_filter.mp h).1
theorem zG_good {w : Cond} (h : w ∈ zG) : (w.onTables && w.keeps) = true ∨ ∃ ty, w = .arrayClass ty := good_of_word (List.mem_filter.mp h).2
theorem zG_mk {w : Cond} (h : w ∈ lw_tbl) (hg : goodWord w = true) : w ∈ zG := List.mem_filter.mpr ⟨h, hg⟩
theorem zG_t1 {w : Cond} (h : w ∈ tables_1_1) : w ∈ lw_tbl := List.mem_append_right _ (show w ∈ tables_1 from List.mem_append_left _ h)
theorem zG_t2 {w : Cond} (h : w ∈ tables_1_2) : w ∈ lw_tbl := List.mem_append_right _ (show w ∈ tables_1 from List.mem_append_right _ (List.mem_append_left _ h))
theorem zG_t3 {w : Cond} (h : w ∈ tables_1_3) : w ∈ lw_tbl := List.mem_append_right _ (show w ∈ tables_1 from List.mem_append_right _ (List.mem_append_right _ (List.mem_append_left _ h)))
theorem zG_t4 {w : Cond} (h : w ∈ tables_1_4) : w ∈ lw_tbl := List.mem_append_right _ (show w ∈ tables_1 from List.mem_append_right _ (List.mem_append_right _ (List.mem_append_right _ (List.mem_append_left _ h))))
theorem zG_t5 {w : Cond} (h : w ∈ tables_1_5) : w ∈ lw_tbl := List.mem_append_right _ (show w ∈ tables_1 from List.mem_append_right _ (List.mem_append_right _ (List.mem_append_right _ (List.mem_append_right _ (h)))))
theorem gw_1_0 : (Cond.initialized "WingDoorLaw") ∈ zG := zG_mk (zG_t1 (List.mem_of_getElem? (i := 0) rfl)) rfl
theorem gw_1_1 : (Cond.initialized "WingDoor") ∈ zG := zG_mk (zG_t1 (List.mem_of_getElem? (i := 1) rfl)) rfl
theorem gw_1_2 : (Cond.initialized "WingDoor$Text") ∈ zG := zG_mk (zG_t1 (List.mem_of_getElem? (i := 2) rfl)) rfl
theorem gw_1_3 : (Cond.initialized "WingDoor$Plan") ∈ zG := zG_mk (zG_t1 (List.mem_of_getElem? (i := 3) rfl)) rfl
theorem gw_1_4 : (Cond.initialized "WingDoor$Moment") ∈ zG := zG_mk (zG_t1 (List.mem_of_getElem? (i := 4) rfl)) rfl
theorem gw_1_5 : (Cond.initialized "WingDoor$Past") ∈ zG := zG_mk (zG_t1 (List.mem_of_getElem? (i := 5) rfl)) rfl
theorem gw_1_6 : (Cond.initialized "WingDoor$Sightings") ∈ zG := zG_mk (zG_t1 (List.mem_of_getElem? (i := 6) rfl)) rfl
theorem gw_1_7 : (Cond.initialized "WingDoor$DoorKind") ∈ zG := zG_mk (zG_t1 (List.mem_of_getElem? (i := 7) rfl)) rfl
theorem gw_1_8 : (Cond.initialized "WingDoor$BankKind") ∈ zG := zG_mk (zG_t1 (List.mem_of_getElem? (i := 8) rfl)) rfl
theorem gw_1_9 : (Cond.initialized "WingDoor$HotelKind") ∈ zG := zG_mk (zG_t1 (List.mem_of_getElem? (i := 9) rfl)) rfl
theorem gw_1_10 : (Cond.initialized "WingDoor$CourtKind") ∈ zG := zG_mk (zG_t1 (List.mem_of_getElem? (i := 10) rfl)) rfl
theorem gw_1_11 : (Cond.initialized "WingDoor$GrandKind") ∈ zG := zG_mk (zG_t1 (List.mem_of_getElem? (i := 11) rfl)) rfl
theorem gw_1_12 : (Cond.initialized "WingDoor$StoreKind") ∈ zG := zG_mk (zG_t1 (List.mem_of_getElem? (i := 12) rfl)) rfl
theorem gw_1_13 : (Cond.initialized "WingDoorModel") ∈ zG := zG_mk (zG_t1 (List.mem_of_getElem? (i := 13) rfl)) rfl
theorem gw_1_14 : (Cond.initialized "java/lang/System") ∈ zG := zG_mk (zG_t1 (List.mem_of_getElem? (i := 14) rfl)) rfl
theorem gw_1_15 : (Cond.initialized "java/lang/Integer") ∈ zG := zG_mk (zG_t1 (List.mem_of_getElem? (i := 15) rfl)) rfl
theorem gw_1_16 : (Cond.initialized "java/util/Arrays") ∈ zG := zG_mk (zG_t1 (List.mem_of_getElem? (i := 16) rfl)) rfl
theorem gw_1_17 : (Cond.initialized "java/lang/Math") ∈ zG := zG_mk (zG_t1 (List.mem_of_getElem? (i := 17) rfl)) rfl
theorem gw_1_18 : (Cond.classLink "WingDoorLaw" 7 "WingDoor") ∈ zG := zG_mk (zG_t1 (List.mem_of_getElem? (i := 18) rfl)) rfl
theorem gw_1_19 : (Cond.instantiable "WingDoor" 11) ∈ zG := zG_mk (zG_t1 (List.mem_of_getElem? (i := 19) rfl)) rfl
theorem gw_1_20 : (Cond.methodLink "WingDoorLaw" 9 ⟨"WingDoor", "<init>", "()V"⟩) ∈ zG := zG_mk (zG_t1 (List.mem_of_getElem? (i := 20) rfl)) rfl
theorem gw_1_21 : (Cond.instanceMethod ⟨"WingDoor", "<init>", "()V"⟩) ∈ zG := zG_mk (zG_t1 (List.mem_of_getElem? (i := 21) rfl)) rfl
theorem gw_1_22 : (Cond.code ⟨"WingDoor", "<init>", "()V"⟩ prog_1_method_1_code 1 none) ∈ zG := zG_mk (zG_t1 (List.mem_of_getElem? (i := 22) rfl)) rfl
theorem gw_1_23 : (Cond.methodLink "WingDoor" 1 ⟨"java/lang/Object", "<init>", "()V"⟩) ∈ zG := zG_mk (zG_t1 (List.mem_of_getElem? (i := 23) rfl)) rfl
theorem gw_1_24 : (Cond.instanceMethod ⟨"java/lang/Object", "<init>", "()V"⟩) ∈ zG := zG_mk (zG_t1 (List.mem_of_getElem? (i := 24) rfl)) rfl
theorem gw_1_25 : (Cond.code ⟨"java/lang/Object", "<init>", "()V"⟩ object_method_1_code 1 none) ∈ zG := zG_mk (zG_t1 (List.mem_of_getElem? (i := 25) rfl)) rfl
theorem gw_1_26 : (Cond.classLink "WingDoor" 7 "WingDoor$Text") ∈ zG := zG_mk (zG_t1 (List.mem_of_getElem? (i := 26) rfl)) rfl
theorem gw_1_27 : (Cond.instantiable "WingDoor$Text" 7) ∈ zG := zG_mk (zG_t1 (List.mem_of_getElem? (i := 27) rfl)) rfl
theorem gw_1_29 : (Cond.instanceMethod ⟨"WingDoor$Text", "<init>", "()V"⟩) ∈ zG := zG_mk (zG_t1 (List.mem_of_getElem? (i := 29) rfl)) rfl
theorem gw_1_30 : (Cond.code ⟨"WingDoor$Text", "<init>", "()V"⟩ prog_12_method_1_code 1 none) ∈ zG := zG_mk (zG_t1 (List.mem_of_getElem? (i := 30) rfl)) rfl
theorem gw_1_31 : (Cond.methodLink "WingDoor$Text" 3 ⟨"java/lang/Object", "<init>", "()V"⟩) ∈ zG := zG_mk (zG_t1 (List.mem_of_getElem? (i := 31) rfl)) rfl
theorem gw_1_32 : (Cond.fieldLink "WingDoor$Text" 9 "WingDoor$Text" "letters" "[I") ∈ zG := zG_mk (zG_t1 (List.mem_of_getElem? (i := 32) rfl)) rfl
theorem gw_1_33 : (Cond.fieldLink "WingDoor$Text" 15 "WingDoor$Text" "length" "I") ∈ zG := zG_mk (zG_t1 (List.mem_of_getElem? (i := 33) rfl)) rfl
theorem gw_1_35 : (Cond.fieldLink "WingDoor$Text" 28 "WingDoor$Text" "at" "I") ∈ zG := zG_mk (zG_t1 (List.mem_of_getElem? (i := 35) rfl)) rfl
theorem gw_1_36 : (Cond.fieldLink "WingDoor$Text" 34 "WingDoor$Text" "token" "I") ∈ zG := zG_mk (zG_t1 (List.mem_of_getElem? (i := 36) rfl)) rfl
theorem gw_1_37 : (Cond.fieldLink "WingDoor$Text" 41 "WingDoor$Text" "tokenAt" "I") ∈ zG := zG_mk (zG_t1 (List.mem_of_getElem? (i := 37) rfl)) rfl
theorem gw_1_38 : (Cond.fieldLink "WingDoor$Text" 61 "WingDoor$Text" "number" "I") ∈ zG := zG_mk (zG_t1 (List.mem_of_getElem? (i := 38) rfl)) rfl
theorem gw_1_39 : (Cond.fieldLink "WingDoor$Text" 24 "WingDoor$Text" "hardIsTold" "Z") ∈ zG := zG_mk (zG_t1 (List.mem_of_getElem? (i := 39) rfl)) rfl
theorem gw_1_40 : (Cond.laysFinal "WingDoor$Text" "WingDoor$Text" "letters" "[I") ∈ zG := zG_mk (zG_t1 (List.mem_of_getElem? (i := 40) rfl)) rfl
theorem gw_1_42 : (Cond.lays "WingDoor$Text" "WingDoor$Text" "length" "I") ∈ zG := zG_mk (zG_t1 (List.mem_of_getElem? (i := 42) rfl)) rfl
theorem gw_1_44 : (Cond.lays "WingDoor$Text" "WingDoor$Text" "at" "I") ∈ zG := zG_mk (zG_t1 (List.mem_of_getElem? (i := 44) rfl)) rfl
theorem gw_1_46 : (Cond.lays "WingDoor$Text" "WingDoor$Text" "token" "I") ∈ zG := zG_mk (zG_t1 (List.mem_of_getElem? (i := 46) rfl)) rfl
theorem gw_1_48 : (Cond.lays "WingDoor$Text" "WingDoor$Text" "tokenAt" "I") ∈ zG := zG_mk (zG_t1 (List.mem_of_getElem? (i := 48) rfl)) rfl
theorem gw_1_50 : (Cond.lays "WingDoor$Text" "WingDoor$Text" "number" "I") ∈ zG := zG_mk (zG_t1 (List.mem_of_getElem? (i := 50) rfl)) rfl
theorem gw_1_52 : (Cond.lays "WingDoor$Text" "WingDoor$Text" "hardIsTold" "Z") ∈ zG := zG_mk (zG_t1 (List.mem_of_getElem? (i := 52) rfl)) rfl
theorem gw_1_54 : (Cond.superclass "WingDoor$Text" "java/lang/Object") ∈ zG := zG_mk (zG_t1 (List.mem_of_getElem? (i := 54) rfl)) rfl
theorem gw_1_55 : (Cond.arrayClass .int) ∈ zG := zG_mk (zG_t1 (List.mem_of_getElem? (i := 55) rfl)) rfl
theorem gw_1_56 : (Cond.classLink "WingDoor" 16 "WingDoor$Plan") ∈ zG := zG_mk (zG_t1 (List.mem_of_getElem? (i := 56) rfl)) rfl
theorem gw_1_57 : (Cond.instantiable "WingDoor$Plan" 6) ∈ zG := zG_mk (zG_t1 (List.mem_of_getElem? (i := 57) rfl)) rfl
theorem gw_1_58 : (Cond.methodLink "WingDoor" 18 ⟨"WingDoor$Plan", "<init>", "()V"⟩) ∈ zG := zG_mk (zG_t1 (List.mem_of_getElem? (i := 58) rfl)) rfl
theorem gw_1_59 : (Cond.instanceMethod ⟨"WingDoor$Plan", "<init>", "()V"⟩) ∈ zG := zG_mk (zG_t1 (List.mem_of_getElem? (i := 59) rfl)) rfl
theorem gw_1_60 : (Cond.code ⟨"WingDoor$Plan", "<init>", "()V"⟩ prog_9_method_1_code 1 none) ∈ zG := zG_mk (zG_t1 (List.mem_of_getElem? (i := 60) rfl)) rfl
theorem gw_1_61 : (Cond.methodLink "WingDoor$Plan" 3 ⟨"java/lang/Object", "<init>", "()V"⟩) ∈ zG := zG_mk (zG_t1 (List.mem_of_getElem? (i := 61) rfl)) rfl
theorem gw_1_62 : (Cond.methodLink "WingDoor$Plan" 18 ⟨"WingDoor$Plan", "setFirst", "()V"⟩) ∈ zG := zG_mk (zG_t1 (List.mem_of_getElem? (i := 62) rfl)) rfl
theorem gw_1_63 : (Cond.instanceMethod ⟨"WingDoor$Plan", "setFirst", "()V"⟩) ∈ zG := zG_mk (zG_t1 (List.mem_of_getElem? (i := 63) rfl)) rfl
theorem gw_1_64 : (Cond.selects "WingDoor$Plan" ⟨"WingDoor$Plan", "setFirst", "()V"⟩ ⟨"WingDoor$Plan", "setFirst", "()V"⟩) ∈ zG := zG_mk (zG_t1 (List.mem_of_getElem? (i := 64) rfl)) rfl
theorem gw_1_65 : (Cond.code ⟨"WingDoor$Plan", "setFirst", "()V"⟩ prog_9_method_2_code 1 none) ∈ zG := zG_mk (zG_t1 (List.mem_of_getElem? (i := 65) rfl)) rfl
theorem gw_1_66 : (Cond.fieldLink "WingDoor$Plan" 21 "WingDoor$Plan" "rooms" "I") ∈ zG := zG_mk (zG_t1 (List.mem_of_getElem? (i := 66) rfl)) rfl
theorem gw_1_69 : (Cond.fieldLink "WingDoor$Plan" 25 "WingDoor$Plan" "wide" "I") ∈ zG := zG_mk (zG_t1 (List.mem_of_getElem? (i := 69) rfl)) rfl
theorem gw_1_73 : (Cond.fieldLink "WingDoor$Plan" 28 "WingDoor$Plan" "hard" "I") ∈ zG := zG_mk (zG_t1 (List.mem_of_getElem? (i := 73) rfl)) rfl
theorem gw_1_77 : (Cond.fieldLink "WingDoor$Plan" 31 "WingDoor$Plan" "sorts" "I") ∈ zG := zG_mk (zG_t1 (List.mem_of_getElem? (i := 77) rfl)) rfl
theorem gw_1_81 : (Cond.fieldLink "WingDoor$Plan" 9 "WingDoor$Plan" "bulk" "[I") ∈ zG := zG_mk (zG_t1 (List.mem_of_getElem? (i := 81) rfl)) rfl
theorem gw_1_82 : (Cond.fieldLink "WingDoor$Plan" 15 "WingDoor$Plan" "push" "[I") ∈ zG := zG_mk (zG_t1 (List.mem_of_getElem? (i := 82) rfl)) rfl
theorem gw_1_83 : (Cond.lays "WingDoor$Plan" "WingDoor$Plan" "rooms" "I") ∈ zG := zG_mk (zG_t1 (List.mem_of_getElem? (i := 83) rfl)) rfl
theorem gw_1_85 : (Cond.lays "WingDoor$Plan" "WingDoor$Plan" "wide" "I") ∈ zG := zG_mk (zG_t1 (List.mem_of_getElem? (i := 85) rfl)) rfl
theorem gw_1_87 : (Cond.lays "WingDoor$Plan" "WingDoor$Plan" "hard" "I") ∈ zG := zG_mk (zG_t1 (List.mem_of_getElem? (i := 87) rfl)) rfl
theorem gw_1_89 : (Cond.lays "WingDoor$Plan" "WingDoor$Plan" "sorts" "I") ∈ zG := zG_mk (zG_t1 (List.mem_of_getElem? (i := 89) rfl)) rfl
theorem gw_1_91 : (Cond.laysFinal "WingDoor$Plan" "WingDoor$Plan" "bulk" "[I") ∈ zG := zG_mk (zG_t1 (List.mem_of_getElem? (i := 91) rfl)) rfl
theorem gw_1_93 : (Cond.laysFinal "WingDoor$Plan" "WingDoor$Plan" "push" "[I") ∈ zG := zG_mk (zG_t1 (List.mem_of_getElem? (i := 93) rfl)) rfl
theorem gw_1_95 : (Cond.superclass "WingDoor$Plan" "java/lang/Object") ∈ zG := zG_mk (zG_t1 (List.mem_of_getElem? (i := 95) rfl)) rfl
theorem gw_1_96 : (Cond.classLink "WingDoor" 26 "WingDoor$Moment") ∈ zG := zG_mk (zG_t1 (List.mem_of_getElem? (i := 96) rfl)) rfl
theorem gw_1_97 : (Cond.instantiable "WingDoor$Moment" 8) ∈ zG := zG_mk (zG_t1 (List.mem_of_getElem? (i := 97) rfl)) rfl
theorem gw_1_98 : (Cond.methodLink "WingDoor" 28 ⟨"WingDoor$Moment", "<init>", "(LWingDoor$Plan;)V"⟩) ∈ zG := zG_mk (zG_t1 (List.mem_of_getElem? (i := 98) rfl)) rfl
theorem gw_1_99 : (Cond.instanceMethod ⟨"WingDoor$Moment", "<init>", "(LWingDoor$Plan;)V"⟩) ∈ zG := zG_mk (zG_t1 (List.mem_of_getElem? (i := 99) rfl)) rfl
theorem gw_1_100 : (Cond.code ⟨"WingDoor$Moment", "<init>", "(LWingDoor$Plan;)V"⟩ prog_7_method_1_code 2 none) ∈ zG := zG_mk (zG_t1 (List.mem_of_getElem? (i := 100) rfl)) rfl
theorem gw_1_101 : (Cond.methodLink "WingDoor$Moment" 3 ⟨"java/lang/Object", "<init>", "()V"⟩) ∈ zG := zG_mk (zG_t1 (List.mem_of_getElem? (i := 101) rfl)) rfl
theorem gw_1_102 : (Cond.fieldLink "WingDoor$Moment" 27 "WingDoor$Moment" "plan" "LWingDoor$Plan;") ∈ zG := zG_mk (zG_t1 (List.mem_of_getElem? (i := 102) rfl)) rfl
theorem gw_1_103 : (Cond.fieldLink "WingDoor$Moment" 31 "WingDoor$Moment" "step" "I") ∈ zG := zG_mk (zG_t1 (List.mem_of_getElem? (i := 103) rfl)) rfl
theorem gw_1_106 : (Cond.fieldLink "WingDoor$Moment" 35 "WingDoor$Moment" "goers" "I") ∈ zG := zG_mk (zG_t1 (List.mem_of_getElem? (i := 106) rfl)) rfl
theorem gw_1_108 : (Cond.fieldLink "WingDoor$Moment" 9 "WingDoor$Moment" "sortOf" "[I") ∈ zG := zG_mk (zG_t1 (List.mem_of_getElem? (i := 108) rfl)) rfl
theorem gw_1_110 : (Cond.fieldLink "WingDoor$Moment" 15 "WingDoor$Moment" "sideOf" "[I") ∈ zG := zG_mk (zG_t1 (List.mem_of_getElem? (i := 110) rfl)) rfl
theorem gw_1_112 : (Cond.fieldLink "WingDoor$Moment" 18 "WingDoor$Moment" "whereOf" "[I") ∈ zG := zG_mk (zG_t1 (List.mem_of_getElem? (i := 112) rfl)) rfl
theorem gw_1_114 : (Cond.fieldLink "WingDoor$Moment" 21 "WingDoor$Moment" "placeOf" "[I") ∈ zG := zG_mk (zG_t1 (List.mem_of_getElem? (i := 114) rfl)) rfl
theorem gw_1_116 : (Cond.fieldLink "WingDoor$Moment" 24 "WingDoor$Moment" "turnOf" "[I") ∈ zG := zG_mk (zG_t1 (List.mem_of_getElem? (i := 116) rfl)) rfl
theorem gw_1_117 : (Cond.laysFinal "WingDoor$Moment" "WingDoor$Moment" "plan" "LWingDoor$Plan;") ∈ zG := zG_mk (zG_t1 (List.mem_of_getElem? (i := 117) rfl)) rfl
theorem gw_1_119 : (Cond.lays "WingDoor$Moment" "WingDoor$Moment" "step" "I") ∈ zG := zG_mk (zG_t1 (List.mem_of_getElem? (i := 119) rfl)) rfl
theorem gw_1_121 : (Cond.lays "WingDoor$Moment" "WingDoor$Moment" "goers" "I") ∈ zG := zG_mk (zG_t1 (List.mem_of_getElem? (i := 121) rfl)) rfl
theorem gw_1_123 : (Cond.laysFinal "WingDoor$Moment" "WingDoor$Moment" "sortOf" "[I") ∈ zG := zG_mk (zG_t1 (List.mem_of_getElem? (i := 123) rfl)) rfl
theorem gw_1_125 : (Cond.laysFinal "WingDoor$Moment" "WingDoor$Moment" "sideOf" "[I") ∈ zG := zG_mk (zG_t1 (List.mem_of_getElem? (i := 125) rfl)) rfl
theorem gw_1_127 : (Cond.laysFinal "WingDoor$Moment" "WingDoor$Moment" "whereOf" "[I") ∈ zG := zG_mk (zG_t1 (List.mem_of_getElem? (i := 127) rfl)) rfl
theorem gw_1_129 : (Cond.laysFinal "WingDoor$Moment" "WingDoor$Moment" "placeOf" "[I") ∈ zG := zG_mk (zG_t1 (List.mem_of_getElem? (i := 129) rfl)) rfl
theorem gw_1_131 : (Cond.laysFinal "WingDoor$Moment" "WingDoor$Moment" "turnOf" "[I") ∈ zG := zG_mk (zG_t1 (List.mem_of_getElem? (i := 131) rfl)) rfl
theorem gw_1_133 : (Cond.superclass "WingDoor$Moment" "java/lang/Object") ∈ zG := zG_mk (zG_t1 (List.mem_of_getElem? (i := 133) rfl)) rfl
theorem gw_1_134 : (Cond.classLink "WingDoor" 38 "WingDoor$Past") ∈ zG := zG_mk (zG_t1 (List.mem_of_getElem? (i := 134) rfl)) rfl
theorem gw_1_135 : (Cond.instantiable "WingDoor$Past" 3) ∈ zG := zG_mk (zG_t1 (List.mem_of_getElem? (i := 135) rfl)) rfl
theorem gw_1_136 : (Cond.methodLink "WingDoor" 40 ⟨"WingDoor$Past", "<init>", "(LWingDoor$Plan;)V"⟩) ∈ zG := zG_mk (zG_t1 (List.mem_of_getElem? (i := 136) rfl)) rfl
theorem gw_1_137 : (Cond.instanceMethod ⟨"WingDoor$Past", "<init>", "(LWingDoor$Plan;)V"⟩) ∈ zG := zG_mk (zG_t1 (List.mem_of_getElem? (i := 137) rfl)) rfl
theorem gw_1_138 : (Cond.code ⟨"WingDoor$Past", "<init>", "(LWingDoor$Plan;)V"⟩ prog_8_method_1_code 3 none) ∈ zG := zG_mk (zG_t1 (List.mem_of_getElem? (i := 138) rfl)) rfl
theorem gw_1_139 : (Cond.methodLink "WingDoor$Past" 3 ⟨"java/lang/Object", "<init>", "()V"⟩) ∈ zG := zG_mk (zG_t1 (List.mem_of_getElem? (i := 139) rfl)) rfl
theorem gw_1_140 : (Cond.classLink "WingDoor$Past" 9 "WingDoor$Moment") ∈ zG := zG_mk (zG_t1 (List.mem_of_getElem? (i := 140) rfl)) rfl
theorem gw_1_142 : (Cond.methodLink "WingDoor$Past" 17 ⟨"WingDoor$Moment", "<init>", "(LWingDoor$Plan;)V"⟩) ∈ zG := zG_mk (zG_t1 (List.mem_of_getElem? (i := 142) rfl)) rfl
theorem gw_1_143 : (Cond.fieldLink "WingDoor$Past" 11 "WingDoor$Past" "moments" "[LWingDoor$Moment;") ∈ zG := zG_mk (zG_t1 (List.mem_of_getElem? (i := 143) rfl)) rfl
theorem gw_1_144 : (Cond.fieldLink "WingDoor$Past" 20 "WingDoor$Past" "oldest" "I") ∈ zG := zG_mk (zG_t1 (List.mem_of_getElem? (i := 144) rfl)) rfl
theorem gw_1_145 : (Cond.fieldLink "WingDoor$Past" 24 "WingDoor$Past" "size" "I") ∈ zG := zG_mk (zG_t1 (List.mem_of_getElem? (i := 145) rfl)) rfl
theorem gw_1_147 : (Cond.laysFinal "WingDoor$Past" "WingDoor$Past" "moments" "[LWingDoor$Moment;") ∈ zG := zG_mk (zG_t1 (List.mem_of_getElem? (i := 147) rfl)) rfl
theorem gw_1_149 : (Cond.lays "WingDoor$Past" "WingDoor$Past" "oldest" "I") ∈ zG := zG_mk (zG_t1 (List.mem_of_getElem? (i := 149) rfl)) rfl
theorem gw_1_151 : (Cond.lays "WingDoor$Past" "WingDoor$Past" "size" "I") ∈ zG := zG_mk (zG_t1 (List.mem_of_getElem? (i := 151) rfl)) rfl
theorem gw_1_153 : (Cond.superclass "WingDoor$Past" "java/lang/Object") ∈ zG := zG_mk (zG_t1 (List.mem_of_getElem? (i := 153) rfl)) rfl
theorem gw_1_154 : (Cond.classLink "WingDoor" 53 "WingDoor$Sightings") ∈ zG := zG_mk (zG_t1 (List.mem_of_getElem? (i := 154) rfl)) rfl
theorem gw_1_155 : (Cond.instantiable "WingDoor$Sightings" 5) ∈ zG := zG_mk (zG_t1 (List.mem_of_getElem? (i := 155) rfl)) rfl
theorem gw_1_156 : (Cond.methodLink "WingDoor" 55 ⟨"WingDoor$Sightings", "<init>", "(LWingDoor$Plan;)V"⟩) ∈ zG := zG_mk (zG_t1 (List.mem_of_getElem? (i := 156) rfl)) rfl
theorem gw_1_157 : (Cond.instanceMethod ⟨"WingDoor$Sightings", "<init>", "(LWingDoor$Plan;)V"⟩) ∈ zG := zG_mk (zG_t1 (List.mem_of_getElem? (i := 157) rfl)) rfl
theorem gw_1_158 : (Cond.code ⟨"WingDoor$Sightings", "<init>", "(LWingDoor$Plan;)V"⟩ prog_10_method_1_code 2 none) ∈ zG := zG_mk (zG_t1 (List.mem_of_getElem? (i := 158) rfl)) rfl
theorem gw_1_159 : (Cond.methodLink "WingDoor$Sightings" 3 ⟨"java/lang/Object", "<init>", "()V"⟩) ∈ zG := zG_mk (zG_t1 (List.mem_of_getElem? (i := 159) rfl)) rfl
theorem gw_1_160 : (Cond.fieldLink "WingDoor$Sightings" 21 "WingDoor$Sightings" "plan" "LWingDoor$Plan;") ∈ zG := zG_mk (zG_t1 (List.mem_of_getElem? (i := 160) rfl)) rfl
theorem gw_1_161 : (Cond.fieldLink "WingDoor$Sightings" 9 "WingDoor$Sightings" "what" "[I") ∈ zG := zG_mk (zG_t1 (List.mem_of_getElem? (i := 161) rfl)) rfl
theorem gw_1_162 : (Cond.fieldLink "WingDoor$Sightings" 15 "WingDoor$Sightings" "bound" "[I") ∈ zG := zG_mk (zG_t1 (List.mem_of_getElem? (i := 162) rfl)) rfl
theorem gw_1_163 : (Cond.fieldLink "WingDoor$Sightings" 18 "WingDoor$Sightings" "most" "[I") ∈ zG := zG_mk (zG_t1 (List.mem_of_getElem? (i := 163) rfl)) rfl
theorem gw_1_164 : (Cond.fieldLink "WingDoor$Sightings" 25 "WingDoor$Sightings" "size" "I") ∈ zG := zG_mk (zG_t1 (List.mem_of_getElem? (i := 164) rfl)) rfl
theorem gw_1_166 : (Cond.laysFinal "WingDoor$Sightings" "WingDoor$Sightings" "plan" "LWingDoor$Plan;") ∈ zG := zG_mk (zG_t1 (List.mem_of_getElem? (i := 166) rfl)) rfl
theorem gw_1_168 : (Cond.laysFinal "WingDoor$Sightings" "WingDoor$Sightings" "what" "[I") ∈ zG := zG_mk (zG_t1 (List.mem_of_getElem? (i := 168) rfl)) rfl
theorem gw_1_170 : (Cond.laysFinal "WingDoor$Sightings" "WingDoor$Sightings" "bound" "[I") ∈ zG := zG_mk (zG_t1 (List.mem_of_getElem? (i := 170) rfl)) rfl
theorem gw_1_172 : (Cond.laysFinal "WingDoor$Sightings" "WingDoor$Sightings" "most" "[I") ∈ zG := zG_mk (zG_t1 (List.mem_of_getElem? (i := 172) rfl)) rfl
theorem gw_1_174 : (Cond.lays "WingDoor$Sightings" "WingDoor$Sightings" "size" "I") ∈ zG := zG_mk (zG_t1 (List.mem_of_getElem? (i := 174) rfl)) rfl
theorem gw_1_176 : (Cond.superclass "WingDoor$Sightings" "java/lang/Object") ∈ zG := zG_mk (zG_t1 (List.mem_of_getElem? (i := 176) rfl)) rfl
theorem gw_1_177 : (Cond.arrayClass .boolean) ∈ zG := zG_mk (zG_t1 (List.mem_of_getElem? (i := 177) rfl)) rfl
theorem gw_1_178 : (Cond.classLink "WingDoor" 64 "WingDoor$DoorKind") ∈ zG := zG_mk (zG_t1 (List.mem_of_getElem? (i := 178) rfl)) rfl
theorem gw_1_180 : (Cond.instantiable "WingDoor$DoorKind" 1) ∈ zG := zG_mk (zG_t1 (List.mem_of_getElem? (i := 180) rfl)) rfl
theorem gw_1_182 : (Cond.instanceMethod ⟨"WingDoor$DoorKind", "<init>", "()V"⟩) ∈ zG := zG_mk (zG_t1 (List.mem_of_getElem? (i := 182) rfl)) rfl
theorem gw_1_183 : (Cond.code ⟨"WingDoor$DoorKind", "<init>", "()V"⟩ prog_4_method_1_code 1 none) ∈ zG := zG_mk (zG_t1 (List.mem_of_getElem? (i := 183) rfl)) rfl
theorem gw_1_184 : (Cond.methodLink "WingDoor$DoorKind" 1 ⟨"java/lang/Object", "<init>", "()V"⟩) ∈ zG := zG_mk (zG_t1 (List.mem_of_getElem? (i := 184) rfl)) rfl
theorem gw_1_185 : (Cond.fieldLink "WingDoor$DoorKind" 7 "WingDoor$DoorKind" "noted" "J") ∈ zG := zG_mk (zG_t1 (List.mem_of_getElem? (i := 185) rfl)) rfl
theorem gw_1_186 : (Cond.fieldLink "WingDoor$BankKind" 7 "WingDoor$BankKind" "noted" "J") ∈ zG := zG_mk (zG_t1 (List.mem_of_getElem? (i := 186) rfl)) rfl
theorem gw_1_187 : (Cond.sameField "WingDoor$BankKind" "WingDoor$DoorKind" "noted" "J") ∈ zG := zG_mk (zG_t1 (List.mem_of_getElem? (i := 187) rfl)) rfl
theorem gw_1_188 : (Cond.fieldLink "WingDoor$CourtKind" 7 "WingDoor$CourtKind" "noted" "J") ∈ zG := zG_mk (zG_t1 (List.mem_of_getElem? (i := 188) rfl)) rfl
theorem gw_1_189 : (Cond.sameField "WingDoor$CourtKind" "WingDoor$DoorKind" "noted" "J") ∈ zG := zG_mk (zG_t1 (List.mem_of_getElem? (i := 189) rfl)) rfl
theorem gw_1_190 : (Cond.fieldLink "WingDoor$GrandKind" 7 "WingDoor$GrandKind" "noted" "J") ∈ zG := zG_mk (zG_t1 (List.mem_of_getElem? (i := 190) rfl)) rfl
theorem gw_1_191 : (Cond.sameField "WingDoor$GrandKind" "WingDoor$DoorKind" "noted" "J") ∈ zG := zG_mk (zG_t1 (List.mem_of_getElem? (i := 191) rfl)) rfl
theorem gw_1_192 : (Cond.fieldLink "WingDoor$HotelKind" 9 "WingDoor$HotelKind" "noted" "J") ∈ zG := zG_mk (zG_t1 (List.mem_of_getElem? (i := 192) rfl)) rfl
theorem gw_1_193 : (Cond.sameField "WingDoor$HotelKind" "WingDoor$DoorKind" "noted" "J") ∈ zG := zG_mk (zG_t1 (List.mem_of_getElem? (i := 193) rfl)) rfl
theorem gw_1_194 : (Cond.fieldLink "WingDoor$StoreKind" 7 "WingDoor$StoreKind" "noted" "J") ∈ zG := zG_mk (zG_t1 (List.mem_of_getElem? (i := 194) rfl)) rfl
theorem gw_1_195 : (Cond.sameField "WingDoor$StoreKind" "WingDoor$DoorKind" "noted" "J") ∈ zG := zG_mk (zG_t1 (List.mem_of_getElem? (i := 195) rfl)) rfl
theorem gw_1_196 : (Cond.fieldLink "WingDoor" 259 "WingDoor$DoorKind" "noted" "J") ∈ zG := zG_mk (zG_t1 (List.mem_of_getElem? (i := 196) rfl)) rfl
theorem gw_1_197 : (Cond.lays "WingDoor$DoorKind" "WingDoor$DoorKind" "noted" "J") ∈ zG := zG_mk (zG_t1 (List.mem_of_getElem? (i := 197) rfl)) rfl
theorem gw_1_199 : (Cond.superclass "WingDoor$DoorKind" "java/lang/Object") ∈ zG := zG_mk (zG_t1 (List.mem_of_getElem? (i := 199) rfl)) rfl
theorem gw_1_200 : (Cond.arrayClass .long) ∈ zG := zG_mk (zG_t1 (List.mem_of_getElem? (i := 200) rfl)) rfl
theorem gw_1_201 : (Cond.classLink "WingDoor" 67 "WingDoor$BankKind") ∈ zG := zG_mk (zG_t1 (List.mem_of_getElem? (i := 201) rfl)) rfl
theorem gw_1_202 : (Cond.instantiable "WingDoor$BankKind" 1) ∈ zG := zG_mk (zG_t1 (List.mem_of_getElem? (i := 202) rfl)) rfl
theorem gw_1_204 : (Cond.instanceMethod ⟨"WingDoor$BankKind", "<init>", "()V"⟩) ∈ zG := zG_mk (zG_t1 (List.mem_of_getElem? (i := 204) rfl)) rfl
theorem gw_1_205 : (Cond.code ⟨"WingDoor$BankKind", "<init>", "()V"⟩ prog_2_method_1_code 1 none) ∈ zG := zG_mk (zG_t1 (List.mem_of_getElem? (i := 205) rfl)) rfl
theorem gw_1_207 : (Cond.lays "WingDoor$BankKind" "WingDoor$DoorKind" "noted" "J") ∈ zG := zG_mk (zG_t1 (List.mem_of_getElem? (i := 207) rfl)) rfl
theorem gw_1_208 : (Cond.superclass "WingDoor$BankKind" "WingDoor$DoorKind") ∈ zG := zG_mk (zG_t1 (List.mem_of_getElem? (i := 208) rfl)) rfl
theorem gw_1_209 : (Cond.classLink "WingDoor" 70 "WingDoor$HotelKind") ∈ zG := zG_mk (zG_t1 (List.mem_of_getElem? (i := 209) rfl)) rfl
theorem gw_1_210 : (Cond.instantiable "WingDoor$HotelKind" 1) ∈ zG := zG_mk (zG_t1 (List.mem_of_getElem? (i := 210) rfl)) rfl
theorem gw_1_212 : (Cond.instanceMethod ⟨"WingDoor$HotelKind", "<init>", "()V"⟩) ∈ zG := zG_mk (zG_t1 (List.mem_of_getElem? (i := 212) rfl)) rfl
theorem gw_1_213 : (Cond.code ⟨"WingDoor$HotelKind", "<init>", "()V"⟩ prog_6_method_1_code 1 none) ∈ zG := zG_mk (zG_t1 (List.mem_of_getElem? (i := 213) rfl)) rfl
theorem gw_1_215 : (Cond.lays "WingDoor$HotelKind" "WingDoor$DoorKind" "noted" "J") ∈ zG := zG_mk (zG_t1 (List.mem_of_getElem? (i := 215) rfl)) rfl
theorem gw_1_216 : (Cond.superclass "WingDoor$HotelKind" "WingDoor$DoorKind") ∈ zG := zG_mk (zG_t1 (List.mem_of_getElem? (i := 216) rfl)) rfl
theorem gw_1_217 : (Cond.classLink "WingDoor" 73 "WingDoor$CourtKind") ∈ zG := zG_mk (zG_t1 (List.mem_of_getElem? (i := 217) rfl)) rfl
theorem gw_1_218 : (Cond.instantiable "WingDoor$CourtKind" 1) ∈ zG := zG_mk (zG_t1 (List.mem_of_getElem? (i := 218) rfl)) rfl
theorem gw_1_220 : (Cond.instanceMethod ⟨"WingDoor$CourtKind", "<init>", "()V"⟩) ∈ zG := zG_mk (zG_t1 (List.mem_of_getElem? (i := 220) rfl)) rfl
theorem gw_1_221 : (Cond.code ⟨"WingDoor$CourtKind", "<init>", "()V"⟩ prog_3_method_1_code 1 none) ∈ zG := zG_mk (zG_t1 (List.mem_of_getElem? (i := 221) rfl)) rfl
theorem gw_1_223 : (Cond.lays "WingDoor$CourtKind" "WingDoor$DoorKind" "noted" "J") ∈ zG := zG_mk (zG_t1 (List.mem_of_getElem? (i := 223) rfl)) rfl
theorem gw_1_224 : (Cond.superclass "WingDoor$CourtKind" "WingDoor$BankKind") ∈ zG := zG_mk (zG_t1 (List.mem_of_getElem? (i := 224) rfl)) rfl
theorem gw_1_225 : (Cond.classLink "WingDoor" 76 "WingDoor$GrandKind") ∈ zG := zG_mk (zG_t1 (List.mem_of_getElem? (i := 225) rfl)) rfl
theorem gw_1_226 : (Cond.instantiable "WingDoor$GrandKind" 1) ∈ zG := zG_mk (zG_t1 (List.mem_of_getElem? (i := 226) rfl)) rfl
theorem gw_1_228 : (Cond.instanceMethod ⟨"WingDoor$GrandKind", "<init>", "()V"⟩) ∈ zG := zG_mk (zG_t1 (List.mem_of_getElem? (i := 228) rfl)) rfl
theorem gw_1_229 : (Cond.code ⟨"WingDoor$GrandKind", "<init>", "()V"⟩ prog_5_method_1_code 1 none) ∈ zG := zG_mk (zG_t1 (List.mem_of_getElem? (i := 229) rfl)) rfl
theorem gw_1_231 : (Cond.lays "WingDoor$GrandKind" "WingDoor$DoorKind" "noted" "J") ∈ zG := zG_mk (zG_t1 (List.mem_of_getElem? (i := 231) rfl)) rfl
theorem gw_1_232 : (Cond.superclass "WingDoor$GrandKind" "WingDoor$HotelKind") ∈ zG := zG_mk (zG_t1 (List.mem_of_getElem? (i := 232) rfl)) rfl
theorem gw_1_233 : (Cond.classLink "WingDoor" 79 "WingDoor$StoreKind") ∈ zG := zG_mk (zG_t1 (List.mem_of_getElem? (i := 233) rfl)) rfl
theorem gw_1_234 : (Cond.instantiable "WingDoor$StoreKind" 1) ∈ zG := zG_mk (zG_t1 (List.mem_of_getElem? (i := 234) rfl)) rfl
theorem gw_1_236 : (Cond.instanceMethod ⟨"WingDoor$StoreKind", "<init>", "()V"⟩) ∈ zG := zG_mk (zG_t1 (List.mem_of_getElem? (i := 236) rfl)) rfl
theorem gw_1_237 : (Cond.code ⟨"WingDoor$StoreKind", "<init>", "()V"⟩ prog_11_method_1_code 1 none) ∈ zG := zG_mk (zG_t1 (List.mem_of_getElem? (i := 237) rfl)) rfl
theorem gw_1_239 : (Cond.lays "WingDoor$StoreKind" "WingDoor$DoorKind" "noted" "J") ∈ zG := zG_mk (zG_t1 (List.mem_of_getElem? (i := 239) rfl)) rfl
theorem gw_2_0 : (Cond.superclass "WingDoor$StoreKind" "WingDoor$DoorKind") ∈ zG := zG_mk (zG_t2 (List.mem_of_getElem? (i := 0) rfl)) rfl
theorem gw_2_1 : (Cond.fieldLink "WingDoor" 10 "WingDoor" "text" "LWingDoor$Text;") ∈ zG := zG_mk (zG_t2 (List.mem_of_getElem? (i := 1) rfl)) rfl
theorem gw_2_2 : (Cond.fieldLink "WingDoor" 19 "WingDoor" "plan" "LWingDoor$Plan;") ∈ zG := zG_mk (zG_t2 (List.mem_of_getElem? (i := 2) rfl)) rfl
theorem gw_2_3 : (Cond.fieldLink "WingDoor" 23 "WingDoor" "draft" "LWingDoor$Plan;") ∈ zG := zG_mk (zG_t2 (List.mem_of_getElem? (i := 3) rfl)) rfl
theorem gw_2_4 : (Cond.fieldLink "WingDoor" 31 "WingDoor" "state" "LWingDoor$Moment;") ∈ zG := zG_mk (zG_t2 (List.mem_of_getElem? (i := 4) rfl)) rfl
theorem gw_2_5 : (Cond.fieldLink "WingDoor" 35 "WingDoor" "trial" "LWingDoor$Moment;") ∈ zG := zG_mk (zG_t2 (List.mem_of_getElem? (i := 5) rfl)) rfl
theorem gw_2_6 : (Cond.fieldLink "WingDoor" 41 "WingDoor" "past" "LWingDoor$Past;") ∈ zG := zG_mk (zG_t2 (List.mem_of_getElem? (i := 6) rfl)) rfl
theorem gw_2_7 : (Cond.fieldLink "WingDoor" 45 "WingDoor" "images" "[LWingDoor$Moment;") ∈ zG := zG_mk (zG_t2 (List.mem_of_getElem? (i := 7) rfl)) rfl
theorem gw_2_8 : (Cond.fieldLink "WingDoor" 49 "WingDoor" "imageKept" "[Z") ∈ zG := zG_mk (zG_t2 (List.mem_of_getElem? (i := 8) rfl)) rfl
theorem gw_2_9 : (Cond.fieldLink "WingDoor" 56 "WingDoor" "sightings" "LWingDoor$Sightings;") ∈ zG := zG_mk (zG_t2 (List.mem_of_getElem? (i := 9) rfl)) rfl
theorem gw_2_10 : (Cond.fieldLink "WingDoor" 60 "WingDoor" "ways" "[J") ∈ zG := zG_mk (zG_t2 (List.mem_of_getElem? (i := 10) rfl)) rfl
theorem gw_2_11 : (Cond.fieldLink "WingDoor" 82 "WingDoor" "kinds" "[LWingDoor$DoorKind;") ∈ zG := zG_mk (zG_t2 (List.mem_of_getElem? (i := 11) rfl)) rfl
theorem gw_2_12 : (Cond.laysFinal "WingDoor" "WingDoor" "text" "LWingDoor$Text;") ∈ zG := zG_mk (zG_t2 (List.mem_of_getElem? (i := 12) rfl)) rfl
theorem gw_2_14 : (Cond.laysFinal "WingDoor" "WingDoor" "plan" "LWingDoor$Plan;") ∈ zG := zG_mk (zG_t2 (List.mem_of_getElem? (i := 14) rfl)) rfl
theorem gw_2_16 : (Cond.laysFinal "WingDoor" "WingDoor" "draft" "LWingDoor$Plan;") ∈ zG := zG_mk (zG_t2 (List.mem_of_getElem? (i := 16) rfl)) rfl
theorem gw_2_18 : (Cond.laysFinal "WingDoor" "WingDoor" "state" "LWingDoor$Moment;") ∈ zG := zG_mk (zG_t2 (List.mem_of_getElem? (i := 18) rfl)) rfl
theorem gw_2_20 : (Cond.laysFinal "WingDoor" "WingDoor" "trial" "LWingDoor$Moment;") ∈ zG := zG_mk (zG_t2 (List.mem_of_getElem? (i := 20) rfl)) rfl
theorem gw_2_22 : (Cond.laysFinal "WingDoor" "WingDoor" "past" "LWingDoor$Past;") ∈ zG := zG_mk (zG_t2 (List.mem_of_getElem? (i := 22) rfl)) rfl
theorem gw_2_24 : (Cond.laysFinal "WingDoor" "WingDoor" "images" "[LWingDoor$Moment;") ∈ zG := zG_mk (zG_t2 (List.mem_of_getElem? (i := 24) rfl)) rfl
theorem gw_2_26 : (Cond.laysFinal "WingDoor" "WingDoor" "imageKept" "[Z") ∈ zG := zG_mk (zG_t2 (List.mem_of_getElem? (i := 26) rfl)) rfl
theorem gw_2_28 : (Cond.laysFinal "WingDoor" "WingDoor" "sightings" "LWingDoor$Sightings;") ∈ zG := zG_mk (zG_t2 (List.mem_of_getElem? (i := 28) rfl)) rfl
theorem gw_2_30 : (Cond.laysFinal "WingDoor" "WingDoor" "ways" "[J") ∈ zG := zG_mk (zG_t2 (List.mem_of_getElem? (i := 30) rfl)) rfl
theorem gw_2_32 : (Cond.laysFinal "WingDoor" "WingDoor" "kinds" "[LWingDoor$DoorKind;") ∈ zG := zG_mk (zG_t2 (List.mem_of_getElem? (i := 32) rfl)) rfl
theorem gw_2_34 : (Cond.superclass "WingDoor" "java/lang/Object") ∈ zG := zG_mk (zG_t2 (List.mem_of_getElem? (i := 34) rfl)) rfl
theorem gw_2_35 : (Cond.methodLink "WingDoorLaw" 13 ⟨"WingDoor", "type", "(I)I"⟩) ∈ zG := zG_mk (zG_t2 (List.mem_of_getElem? (i := 35) rfl)) rfl
theorem gw_2_36 : (Cond.instanceMethod ⟨"WingDoor", "type", "(I)I"⟩) ∈ zG := zG_mk (zG_t2 (List.mem_of_getElem? (i := 36) rfl)) rfl
theorem gw_2_37 : (Cond.selects "WingDoor" ⟨"WingDoor", "type", "(I)I"⟩ ⟨"WingDoor", "type", "(I)I"⟩) ∈ zG := zG_mk (zG_t2 (List.mem_of_getElem? (i := 37) rfl)) rfl
theorem gw_2_38 : (Cond.code ⟨"WingDoor", "type", "(I)I"⟩ prog_1_method_2_code 2 (some .int)) ∈ zG := zG_mk (zG_t2 (List.mem_of_getElem? (i := 38) rfl)) rfl
theorem gw_2_39 : (Cond.methodLink "WingDoor" 86 ⟨"WingDoor$Text", "add", "(I)Z"⟩) ∈ zG := zG_mk (zG_t2 (List.mem_of_getElem? (i := 39) rfl)) rfl
theorem gw_2_40 : (Cond.instanceMethod ⟨"WingDoor$Text", "add", "(I)Z"⟩) ∈ zG := zG_mk (zG_t2 (List.mem_of_getElem? (i := 40) rfl)) rfl
theorem gw_2_41 : (Cond.selects "WingDoor$Text" ⟨"WingDoor$Text", "add", "(I)Z"⟩ ⟨"WingDoor$Text", "add", "(I)Z"⟩) ∈ zG := zG_mk (zG_t2 (List.mem_of_getElem? (i := 41) rfl)) rfl
theorem gw_2_42 : (Cond.code ⟨"WingDoor$Text", "add", "(I)Z"⟩ prog_12_method_2_code 2 (some .boolean)) ∈ zG := zG_mk (zG_t2 (List.mem_of_getElem? (i := 42) rfl)) rfl
theorem gw_2_43 : (Cond.methodLink "WingDoorLaw" 18 ⟨"WingDoor", "clear", "()I"⟩) ∈ zG := zG_mk (zG_t2 (List.mem_of_getElem? (i := 43) rfl)) rfl
theorem gw_2_44 : (Cond.instanceMethod ⟨"WingDoor", "clear", "()I"⟩) ∈ zG := zG_mk (zG_t2 (List.mem_of_getElem? (i := 44) rfl)) rfl
theorem gw_2_45 : (Cond.selects "WingDoor" ⟨"WingDoor", "clear", "()I"⟩ ⟨"WingDoor", "clear", "()I"⟩) ∈ zG := zG_mk (zG_t2 (List.mem_of_getElem? (i := 45) rfl)) rfl
theorem gw_2_46 : (Cond.code ⟨"WingDoor", "clear", "()I"⟩ prog_1_method_3_code 2 (some .int)) ∈ zG := zG_mk (zG_t2 (List.mem_of_getElem? (i := 46) rfl)) rfl
theorem gw_2_47 : (Cond.methodLink "WingDoorLaw" 23 ⟨"WingDoor", "door", "()I"⟩) ∈ zG := zG_mk (zG_t2 (List.mem_of_getElem? (i := 47) rfl)) rfl
theorem gw_2_48 : (Cond.instanceMethod ⟨"WingDoor", "door", "()I"⟩) ∈ zG := zG_mk (zG_t2 (List.mem_of_getElem? (i := 48) rfl)) rfl
theorem gw_2_49 : (Cond.selects "WingDoor" ⟨"WingDoor", "door", "()I"⟩ ⟨"WingDoor", "door", "()I"⟩) ∈ zG := zG_mk (zG_t2 (List.mem_of_getElem? (i := 49) rfl)) rfl
theorem gw_2_50 : (Cond.code ⟨"WingDoor", "door", "()I"⟩ prog_1_method_4_code 3 (some .int)) ∈ zG := zG_mk (zG_t2 (List.mem_of_getElem? (i := 50) rfl)) rfl
theorem gw_2_51 : (Cond.methodLink "WingDoor" 94 ⟨"WingDoor$Text", "tellTo", "(LWingDoor$Plan;)I"⟩) ∈ zG := zG_mk (zG_t2 (List.mem_of_getElem? (i := 51) rfl)) rfl
theorem gw_2_52 : (Cond.instanceMethod ⟨"WingDoor$Text", "tellTo", "(LWingDoor$Plan;)I"⟩) ∈ zG := zG_mk (zG_t2 (List.mem_of_getElem? (i := 52) rfl)) rfl
theorem gw_2_53 : (Cond.selects "WingDoor$Text" ⟨"WingDoor$Text", "tellTo", "(LWingDoor$Plan;)I"⟩ ⟨"WingDoor$Text", "tellTo", "(LWingDoor$Plan;)I"⟩) ∈ zG := zG_mk (zG_t2 (List.mem_of_getElem? (i := 53) rfl)) rfl
theorem gw_2_54 : (Cond.code ⟨"WingDoor$Text", "tellTo", "(LWingDoor$Plan;)I"⟩ prog_12_method_3_code 3 (some .int)) ∈ zG := zG_mk (zG_t2 (List.mem_of_getElem? (i := 54) rfl)) rfl
theorem gw_2_55 : (Cond.methodLink "WingDoor$Text" 19 ⟨"WingDoor$Plan", "setFirst", "()V"⟩) ∈ zG := zG_mk (zG_t2 (List.mem_of_getElem? (i := 55) rfl)) rfl
theorem gw_2_56 : (Cond.methodLink "WingDoor$Text" 31 ⟨"WingDoor$Text", "readToken", "()V"⟩) ∈ zG := zG_mk (zG_t2 (List.mem_of_getElem? (i := 56) rfl)) rfl
theorem gw_2_58 : (Cond.instanceMethod ⟨"WingDoor$Text", "readToken", "()V"⟩) ∈ zG := zG_mk (zG_t2 (List.mem_of_getElem? (i := 58) rfl)) rfl
theorem gw_2_59 : (Cond.code ⟨"WingDoor$Text", "readToken", "()V"⟩ prog_12_method_10_code 2 none) ∈ zG := zG_mk (zG_t2 (List.mem_of_getElem? (i := 59) rfl)) rfl
theorem gw_2_60 : (Cond.methodLink "WingDoor$Text" 81 ⟨"WingDoor$Text", "readDigits", "()V"⟩) ∈ zG := zG_mk (zG_t2 (List.mem_of_getElem? (i := 60) rfl)) rfl
theorem gw_2_62 : (Cond.instanceMethod ⟨"WingDoor$Text", "readDigits", "()V"⟩) ∈ zG := zG_mk (zG_t2 (List.mem_of_getElem? (i := 62) rfl)) rfl
theorem gw_2_63 : (Cond.code ⟨"WingDoor$Text", "readDigits", "()V"⟩ prog_12_method_11_code 3 none) ∈ zG := zG_mk (zG_t2 (List.mem_of_getElem? (i := 63) rfl)) rfl
theorem gw_2_64 : (Cond.methodLink "WingDoor$Text" 37 ⟨"WingDoor$Text", "readItem", "(LWingDoor$Plan;I)Z"⟩) ∈ zG := zG_mk (zG_t2 (List.mem_of_getElem? (i := 64) rfl)) rfl
theorem gw_2_66 : (Cond.instanceMethod ⟨"WingDoor$Text", "readItem", "(LWingDoor$Plan;I)Z"⟩) ∈ zG := zG_mk (zG_t2 (List.mem_of_getElem? (i := 66) rfl)) rfl
theorem gw_2_67 : (Cond.code ⟨"WingDoor$Text", "readItem", "(LWingDoor$Plan;I)Z"⟩ prog_12_method_4_code 3 (some .boolean)) ∈ zG := zG_mk (zG_t2 (List.mem_of_getElem? (i := 67) rfl)) rfl
theorem gw_2_68 : (Cond.methodLink "WingDoor$Text" 44 ⟨"WingDoor$Text", "readRooms", "(LWingDoor$Plan;)Z"⟩) ∈ zG := zG_mk (zG_t2 (List.mem_of_getElem? (i := 68) rfl)) rfl
theorem gw_2_70 : (Cond.instanceMethod ⟨"WingDoor$Text", "readRooms", "(LWingDoor$Plan;)Z"⟩) ∈ zG := zG_mk (zG_t2 (List.mem_of_getElem? (i := 70) rfl)) rfl
theorem gw_2_71 : (Cond.code ⟨"WingDoor$Text", "readRooms", "(LWingDoor$Plan;)Z"⟩ prog_12_method_5_code 2 (some .boolean)) ∈ zG := zG_mk (zG_t2 (List.mem_of_getElem? (i := 71) rfl)) rfl
theorem gw_2_72 : (Cond.methodLink "WingDoor$Text" 57 ⟨"WingDoor$Text", "readNumber", "(II)Z"⟩) ∈ zG := zG_mk (zG_t2 (List.mem_of_getElem? (i := 72) rfl)) rfl
theorem gw_2_74 : (Cond.instanceMethod ⟨"WingDoor$Text", "readNumber", "(II)Z"⟩) ∈ zG := zG_mk (zG_t2 (List.mem_of_getElem? (i := 74) rfl)) rfl
theorem gw_2_75 : (Cond.code ⟨"WingDoor$Text", "readNumber", "(II)Z"⟩ prog_12_method_8_code 3 (some .boolean)) ∈ zG := zG_mk (zG_t2 (List.mem_of_getElem? (i := 75) rfl)) rfl
theorem gw_2_76 : (Cond.methodLink "WingDoor$Text" 70 ⟨"WingDoor$Text", "readSemicolon", "()Z"⟩) ∈ zG := zG_mk (zG_t2 (List.mem_of_getElem? (i := 76) rfl)) rfl
theorem gw_2_78 : (Cond.instanceMethod ⟨"WingDoor$Text", "readSemicolon", "()Z"⟩) ∈ zG := zG_mk (zG_t2 (List.mem_of_getElem? (i := 78) rfl)) rfl
theorem gw_2_79 : (Cond.code ⟨"WingDoor$Text", "readSemicolon", "()Z"⟩ prog_12_method_9_code 1 (some .boolean)) ∈ zG := zG_mk (zG_t2 (List.mem_of_getElem? (i := 79) rfl)) rfl
theorem gw_2_80 : (Cond.methodLink "WingDoor$Text" 48 ⟨"WingDoor$Text", "readHard", "(LWingDoor$Plan;)Z"⟩) ∈ zG := zG_mk (zG_t2 (List.mem_of_getElem? (i := 80) rfl)) rfl
theorem gw_2_82 : (Cond.instanceMethod ⟨"WingDoor$Text", "readHard", "(LWingDoor$Plan;)Z"⟩) ∈ zG := zG_mk (zG_t2 (List.mem_of_getElem? (i := 82) rfl)) rfl
theorem gw_2_83 : (Cond.code ⟨"WingDoor$Text", "readHard", "(LWingDoor$Plan;)Z"⟩ prog_12_method_6_code 2 (some .boolean)) ∈ zG := zG_mk (zG_t2 (List.mem_of_getElem? (i := 83) rfl)) rfl
theorem gw_2_84 : (Cond.methodLink "WingDoor$Text" 54 ⟨"WingDoor$Text", "readSort", "(LWingDoor$Plan;)Z"⟩) ∈ zG := zG_mk (zG_t2 (List.mem_of_getElem? (i := 84) rfl)) rfl
theorem gw_2_86 : (Cond.instanceMethod ⟨"WingDoor$Text", "readSort", "(LWingDoor$Plan;)Z"⟩) ∈ zG := zG_mk (zG_t2 (List.mem_of_getElem? (i := 86) rfl)) rfl
theorem gw_2_87 : (Cond.code ⟨"WingDoor$Text", "readSort", "(LWingDoor$Plan;)Z"⟩ prog_12_method_7_code 3 (some .boolean)) ∈ zG := zG_mk (zG_t2 (List.mem_of_getElem? (i := 87) rfl)) rfl
theorem gw_2_88 : (Cond.methodLink "WingDoor$Text" 77 ⟨"WingDoor$Plan", "addSort", "(II)V"⟩) ∈ zG := zG_mk (zG_t2 (List.mem_of_getElem? (i := 88) rfl)) rfl
theorem gw_2_89 : (Cond.instanceMethod ⟨"WingDoor$Plan", "addSort", "(II)V"⟩) ∈ zG := zG_mk (zG_t2 (List.mem_of_getElem? (i := 89) rfl)) rfl
theorem gw_2_90 : (Cond.selects "WingDoor$Plan" ⟨"WingDoor$Plan", "addSort", "(II)V"⟩ ⟨"WingDoor$Plan", "addSort", "(II)V"⟩) ∈ zG := zG_mk (zG_t2 (List.mem_of_getElem? (i := 90) rfl)) rfl
theorem gw_2_91 : (Cond.code ⟨"WingDoor$Plan", "addSort", "(II)V"⟩ prog_9_method_4_code 3 none) ∈ zG := zG_mk (zG_t2 (List.mem_of_getElem? (i := 91) rfl)) rfl
theorem gw_2_92 : (Cond.methodLink "WingDoor" 98 ⟨"WingDoor$Plan", "copy", "(LWingDoor$Plan;)V"⟩) ∈ zG := zG_mk (zG_t2 (List.mem_of_getElem? (i := 92) rfl)) rfl
theorem gw_2_93 : (Cond.instanceMethod ⟨"WingDoor$Plan", "copy", "(LWingDoor$Plan;)V"⟩) ∈ zG := zG_mk (zG_t2 (List.mem_of_getElem? (i := 93) rfl)) rfl
theorem gw_2_94 : (Cond.selects "WingDoor$Plan" ⟨"WingDoor$Plan", "copy", "(LWingDoor$Plan;)V"⟩ ⟨"WingDoor$Plan", "copy", "(LWingDoor$Plan;)V"⟩) ∈ zG := zG_mk (zG_t2 (List.mem_of_getElem? (i := 94) rfl)) rfl
theorem gw_2_95 : (Cond.code ⟨"WingDoor$Plan", "copy", "(LWingDoor$Plan;)V"⟩ prog_9_method_3_code 2 none) ∈ zG := zG_mk (zG_t2 (List.mem_of_getElem? (i := 95) rfl)) rfl
theorem gw_2_96 : (Cond.methodLink "WingDoor$Plan" 34 ⟨"java/lang/System", "arraycopy", "(Ljava/lang/Object;ILjava/lang/Object;II)V"⟩) ∈ zG := zG_mk (zG_t2 (List.mem_of_getElem? (i := 96) rfl)) rfl
theorem gw_2_97 : (Cond.static ⟨"java/lang/System", "arraycopy", "(Ljava/lang/Object;ILjava/lang/Object;II)V"⟩) ∈ zG := zG_mk (zG_t2 (List.mem_of_getElem? (i := 97) rfl)) rfl
theorem gw_2_98 : (Cond.native ⟨"java/lang/System", "arraycopy", "(Ljava/lang/Object;ILjava/lang/Object;II)V"⟩) ∈ zG := zG_mk (zG_t2 (List.mem_of_getElem? (i := 98) rfl)) rfl
theorem gw_2_99 : (Cond.methodLink "WingDoor" 101 ⟨"WingDoor$Moment", "empty", "()V"⟩) ∈ zG := zG_mk (zG_t2 (List.mem_of_getElem? (i := 99) rfl)) rfl
theorem gw_2_100 : (Cond.instanceMethod ⟨"WingDoor$Moment", "empty", "()V"⟩) ∈ zG := zG_mk (zG_t2 (List.mem_of_getElem? (i := 100) rfl)) rfl
theorem gw_2_101 : (Cond.selects "WingDoor$Moment" ⟨"WingDoor$Moment", "empty", "()V"⟩ ⟨"WingDoor$Moment", "empty", "()V"⟩) ∈ zG := zG_mk (zG_t2 (List.mem_of_getElem? (i := 101) rfl)) rfl
theorem gw_2_102 : (Cond.code ⟨"WingDoor$Moment", "empty", "()V"⟩ prog_7_method_2_code 1 none) ∈ zG := zG_mk (zG_t2 (List.mem_of_getElem? (i := 102) rfl)) rfl
theorem gw_2_103 : (Cond.methodLink "WingDoorLaw" 27 ⟨"WingDoor", "sort", "(II)I"⟩) ∈ zG := zG_mk (zG_t2 (List.mem_of_getElem? (i := 103) rfl)) rfl
theorem gw_2_104 : (Cond.instanceMethod ⟨"WingDoor", "sort", "(II)I"⟩) ∈ zG := zG_mk (zG_t2 (List.mem_of_getElem? (i := 104) rfl)) rfl
theorem gw_2_105 : (Cond.selects "WingDoor" ⟨"WingDoor", "sort", "(II)I"⟩ ⟨"WingDoor", "sort", "(II)I"⟩) ∈ zG := zG_mk (zG_t2 (List.mem_of_getElem? (i := 105) rfl)) rfl
theorem gw_2_106 : (Cond.code ⟨"WingDoor", "sort", "(II)I"⟩ prog_1_method_5_code 3 (some .int)) ∈ zG := zG_mk (zG_t2 (List.mem_of_getElem? (i := 106) rfl)) rfl
theorem gw_2_107 : (Cond.methodLink "WingDoor" 108 ⟨"WingDoor$Plan", "hasSort", "(I)Z"⟩) ∈ zG := zG_mk (zG_t2 (List.mem_of_getElem? (i := 107) rfl)) rfl
theorem gw_2_108 : (Cond.instanceMethod ⟨"WingDoor$Plan", "hasSort", "(I)Z"⟩) ∈ zG := zG_mk (zG_t2 (List.mem_of_getElem? (i := 108) rfl)) rfl
theorem gw_2_109 : (Cond.selects "WingDoor$Plan" ⟨"WingDoor$Plan", "hasSort", "(I)Z"⟩ ⟨"WingDoor$Plan", "hasSort", "(I)Z"⟩) ∈ zG := zG_mk (zG_t2 (List.mem_of_getElem? (i := 109) rfl)) rfl
theorem gw_2_110 : (Cond.code ⟨"WingDoor$Plan", "hasSort", "(I)Z"⟩ prog_9_method_5_code 2 (some .boolean)) ∈ zG := zG_mk (zG_t2 (List.mem_of_getElem? (i := 110) rfl)) rfl
theorem gw_2_111 : (Cond.methodLink "WingDoor" 111 ⟨"WingDoor$Plan", "bulkOf", "(I)I"⟩) ∈ zG := zG_mk (zG_t2 (List.mem_of_getElem? (i := 111) rfl)) rfl
theorem gw_2_112 : (Cond.instanceMethod ⟨"WingDoor$Plan", "bulkOf", "(I)I"⟩) ∈ zG := zG_mk (zG_t2 (List.mem_of_getElem? (i := 112) rfl)) rfl
theorem gw_2_113 : (Cond.selects "WingDoor$Plan" ⟨"WingDoor$Plan", "bulkOf", "(I)I"⟩ ⟨"WingDoor$Plan", "bulkOf", "(I)I"⟩) ∈ zG := zG_mk (zG_t2 (List.mem_of_getElem? (i := 113) rfl)) rfl
theorem gw_2_114 : (Cond.code ⟨"WingDoor$Plan", "bulkOf", "(I)I"⟩ prog_9_method_6_code 2 (some .int)) ∈ zG := zG_mk (zG_t2 (List.mem_of_getElem? (i := 114) rfl)) rfl
theorem gw_2_115 : (Cond.methodLink "WingDoor" 115 ⟨"WingDoor$Plan", "pushOf", "(I)I"⟩) ∈ zG := zG_mk (zG_t2 (List.mem_of_getElem? (i := 115) rfl)) rfl
theorem gw_2_116 : (Cond.instanceMethod ⟨"WingDoor$Plan", "pushOf", "(I)I"⟩) ∈ zG := zG_mk (zG_t2 (List.mem_of_getElem? (i := 116) rfl)) rfl
theorem gw_2_117 : (Cond.selects "WingDoor$Plan" ⟨"WingDoor$Plan", "pushOf", "(I)I"⟩ ⟨"WingDoor$Plan", "pushOf", "(I)I"⟩) ∈ zG := zG_mk (zG_t2 (List.mem_of_getElem? (i := 117) rfl)) rfl
theorem gw_2_118 : (Cond.code ⟨"WingDoor$Plan", "pushOf", "(I)I"⟩ prog_9_method_7_code 2 (some .int)) ∈ zG := zG_mk (zG_t2 (List.mem_of_getElem? (i := 118) rfl)) rfl
theorem gw_2_119 : (Cond.methodLink "WingDoor" 118 ⟨"WingDoor$Moment", "howManyOfSort", "(I)I"⟩) ∈ zG := zG_mk (zG_t2 (List.mem_of_getElem? (i := 119) rfl)) rfl
theorem gw_2_120 : (Cond.instanceMethod ⟨"WingDoor$Moment", "howManyOfSort", "(I)I"⟩) ∈ zG := zG_mk (zG_t2 (List.mem_of_getElem? (i := 120) rfl)) rfl
theorem gw_2_121 : (Cond.selects "WingDoor$Moment" ⟨"WingDoor$Moment", "howManyOfSort", "(I)I"⟩ ⟨"WingDoor$Moment", "howManyOfSort", "(I)I"⟩) ∈ zG := zG_mk (zG_t2 (List.mem_of_getElem? (i := 121) rfl)) rfl
theorem gw_2_122 : (Cond.code ⟨"WingDoor$Moment", "howManyOfSort", "(I)I"⟩ prog_7_method_7_code 4 (some .int)) ∈ zG := zG_mk (zG_t2 (List.mem_of_getElem? (i := 122) rfl)) rfl
theorem gw_2_123 : (Cond.methodLink "WingDoorLaw" 32 ⟨"WingDoor", "goer", "(II)I"⟩) ∈ zG := zG_mk (zG_t2 (List.mem_of_getElem? (i := 123) rfl)) rfl
theorem gw_2_124 : (Cond.instanceMethod ⟨"WingDoor", "goer", "(II)I"⟩) ∈ zG := zG_mk (zG_t2 (List.mem_of_getElem? (i := 124) rfl)) rfl
theorem gw_2_125 : (Cond.selects "WingDoor" ⟨"WingDoor", "goer", "(II)I"⟩ ⟨"WingDoor", "goer", "(II)I"⟩) ∈ zG := zG_mk (zG_t2 (List.mem_of_getElem? (i := 125) rfl)) rfl
theorem gw_2_126 : (Cond.code ⟨"WingDoor", "goer", "(II)I"⟩ prog_1_method_6_code 3 (some .int)) ∈ zG := zG_mk (zG_t2 (List.mem_of_getElem? (i := 126) rfl)) rfl
theorem gw_2_127 : (Cond.methodLink "WingDoor" 121 ⟨"WingDoor$Moment", "hasGoer", "(I)Z"⟩) ∈ zG := zG_mk (zG_t2 (List.mem_of_getElem? (i := 127) rfl)) rfl
theorem gw_2_128 : (Cond.instanceMethod ⟨"WingDoor$Moment", "hasGoer", "(I)Z"⟩) ∈ zG := zG_mk (zG_t2 (List.mem_of_getElem? (i := 128) rfl)) rfl
theorem gw_2_129 : (Cond.selects "WingDoor$Moment" ⟨"WingDoor$Moment", "hasGoer", "(I)Z"⟩ ⟨"WingDoor$Moment", "hasGoer", "(I)Z"⟩) ∈ zG := zG_mk (zG_t2 (List.mem_of_getElem? (i := 129) rfl)) rfl
theorem gw_2_130 : (Cond.code ⟨"WingDoor$Moment", "hasGoer", "(I)Z"⟩ prog_7_method_4_code 2 (some .boolean)) ∈ zG := zG_mk (zG_t2 (List.mem_of_getElem? (i := 130) rfl)) rfl
theorem gw_2_131 : (Cond.methodLink "WingDoor" 137 ⟨"WingDoor$Moment", "howManyAheadOf", "(I)I"⟩) ∈ zG := zG_mk (zG_t2 (List.mem_of_getElem? (i := 131) rfl)) rfl
theorem gw_2_132 : (Cond.instanceMethod ⟨"WingDoor$Moment", "howManyAheadOf", "(I)I"⟩) ∈ zG := zG_mk (zG_t2 (List.mem_of_getElem? (i := 132) rfl)) rfl
theorem gw_2_133 : (Cond.selects "WingDoor$Moment" ⟨"WingDoor$Moment", "howManyAheadOf", "(I)I"⟩ ⟨"WingDoor$Moment", "howManyAheadOf", "(I)I"⟩) ∈ zG := zG_mk (zG_t2 (List.mem_of_getElem? (i := 133) rfl)) rfl
theorem gw_2_134 : (Cond.code ⟨"WingDoor$Moment", "howManyAheadOf", "(I)I"⟩ prog_7_method_16_code 5 (some .int)) ∈ zG := zG_mk (zG_t2 (List.mem_of_getElem? (i := 134) rfl)) rfl
theorem gw_2_135 : (Cond.methodLink "WingDoor$Moment" 44 ⟨"WingDoor$Moment", "hasGoer", "(I)Z"⟩) ∈ zG := zG_mk (zG_t2 (List.mem_of_getElem? (i := 135) rfl)) rfl
theorem gw_2_136 : (Cond.methodLink "WingDoor" 140 ⟨"WingDoor", "whenNow", "(I)I"⟩) ∈ zG := zG_mk (zG_t2 (List.mem_of_getElem? (i := 136) rfl)) rfl
theorem gw_2_138 : (Cond.instanceMethod ⟨"WingDoor", "whenNow", "(I)I"⟩) ∈ zG := zG_mk (zG_t2 (List.mem_of_getElem? (i := 138) rfl)) rfl
theorem gw_2_139 : (Cond.code ⟨"WingDoor", "whenNow", "(I)I"⟩ prog_1_method_27_code 2 (some .int)) ∈ zG := zG_mk (zG_t2 (List.mem_of_getElem? (i := 139) rfl)) rfl
theorem gw_2_140 : (Cond.methodLink "WingDoor" 248 ⟨"WingDoor$Moment", "copy", "(LWingDoor$Moment;)V"⟩) ∈ zG := zG_mk (zG_t2 (List.mem_of_getElem? (i := 140) rfl)) rfl
theorem gw_2_141 : (Cond.instanceMethod ⟨"WingDoor$Moment", "copy", "(LWingDoor$Moment;)V"⟩) ∈ zG := zG_mk (zG_t2 (List.mem_of_getElem? (i := 141) rfl)) rfl
theorem gw_2_142 : (Cond.selects "WingDoor$Moment" ⟨"WingDoor$Moment", "copy", "(LWingDoor$Moment;)V"⟩ ⟨"WingDoor$Moment", "copy", "(LWingDoor$Moment;)V"⟩) ∈ zG := zG_mk (zG_t2 (List.mem_of_getElem? (i := 142) rfl)) rfl
theorem gw_2_143 : (Cond.code ⟨"WingDoor$Moment", "copy", "(LWingDoor$Moment;)V"⟩ prog_7_method_3_code 2 none) ∈ zG := zG_mk (zG_t2 (List.mem_of_getElem? (i := 143) rfl)) rfl
theorem gw_2_144 : (Cond.methodLink "WingDoor$Moment" 38 ⟨"java/lang/System", "arraycopy", "(Ljava/lang/Object;ILjava/lang/Object;II)V"⟩) ∈ zG := zG_mk (zG_t2 (List.mem_of_getElem? (i := 144) rfl)) rfl
theorem gw_2_145 : (Cond.methodLink "WingDoor" 263 ⟨"WingDoor$Moment", "runUntilThrough", "(I)I"⟩) ∈ zG := zG_mk (zG_t2 (List.mem_of_getElem? (i := 145) rfl)) rfl
theorem gw_2_146 : (Cond.instanceMethod ⟨"WingDoor$Moment", "runUntilThrough", "(I)I"⟩) ∈ zG := zG_mk (zG_t2 (List.mem_of_getElem? (i := 146) rfl)) rfl
theorem gw_2_147 : (Cond.selects "WingDoor$Moment" ⟨"WingDoor$Moment", "runUntilThrough", "(I)I"⟩ ⟨"WingDoor$Moment", "runUntilThrough", "(I)I"⟩) ∈ zG := zG_mk (zG_t2 (List.mem_of_getElem? (i := 147) rfl)) rfl
theorem gw_2_148 : (Cond.code ⟨"WingDoor$Moment", "runUntilThrough", "(I)I"⟩ prog_7_method_23_code 3 (some .int)) ∈ zG := zG_mk (zG_t2 (List.mem_of_getElem? (i := 148) rfl)) rfl
theorem gw_2_149 : (Cond.methodLink "WingDoor$Moment" 81 ⟨"WingDoor$Moment", "sticks", "()Z"⟩) ∈ zG := zG_mk (zG_t2 (List.mem_of_getElem? (i := 149) rfl)) rfl
theorem gw_2_150 : (Cond.instanceMethod ⟨"WingDoor$Moment", "sticks", "()Z"⟩) ∈ zG := zG_mk (zG_t2 (List.mem_of_getElem? (i := 150) rfl)) rfl
theorem gw_2_151 : (Cond.selects "WingDoor$Moment" ⟨"WingDoor$Moment", "sticks", "()Z"⟩ ⟨"WingDoor$Moment", "sticks", "()Z"⟩) ∈ zG := zG_mk (zG_t2 (List.mem_of_getElem? (i := 151) rfl)) rfl
theorem gw_2_152 : (Cond.code ⟨"WingDoor$Moment", "sticks", "()Z"⟩ prog_7_method_14_code 1 (some .boolean)) ∈ zG := zG_mk (zG_t2 (List.mem_of_getElem? (i := 152) rfl)) rfl
theorem gw_2_153 : (Cond.methodLink "WingDoor$Moment" 57 ⟨"WingDoor$Moment", "whoIs", "(I)I"⟩) ∈ zG := zG_mk (zG_t2 (List.mem_of_getElem? (i := 153) rfl)) rfl
theorem gw_2_154 : (Cond.instanceMethod ⟨"WingDoor$Moment", "whoIs", "(I)I"⟩) ∈ zG := zG_mk (zG_t2 (List.mem_of_getElem? (i := 154) rfl)) rfl
theorem gw_2_155 : (Cond.selects "WingDoor$Moment" ⟨"WingDoor$Moment", "whoIs", "(I)I"⟩ ⟨"WingDoor$Moment", "whoIs", "(I)I"⟩) ∈ zG := zG_mk (zG_t2 (List.mem_of_getElem? (i := 155) rfl)) rfl
theorem gw_2_156 : (Cond.code ⟨"WingDoor$Moment", "whoIs", "(I)I"⟩ prog_7_method_8_code 4 (some .int)) ∈ zG := zG_mk (zG_t2 (List.mem_of_getElem? (i := 156) rfl)) rfl
theorem gw_2_157 : (Cond.methodLink "WingDoor$Moment" 68 ⟨"WingDoor$Moment", "load", "()I"⟩) ∈ zG := zG_mk (zG_t2 (List.mem_of_getElem? (i := 157) rfl)) rfl
theorem gw_2_158 : (Cond.instanceMethod ⟨"WingDoor$Moment", "load", "()I"⟩) ∈ zG := zG_mk (zG_t2 (List.mem_of_getElem? (i := 158) rfl)) rfl
theorem gw_2_159 : (Cond.selects "WingDoor$Moment" ⟨"WingDoor$Moment", "load", "()I"⟩ ⟨"WingDoor$Moment", "load", "()I"⟩) ∈ zG := zG_mk (zG_t2 (List.mem_of_getElem? (i := 159) rfl)) rfl
theorem gw_2_160 : (Cond.code ⟨"WingDoor$Moment", "load", "()I"⟩ prog_7_method_12_code 3 (some .int)) ∈ zG := zG_mk (zG_t2 (List.mem_of_getElem? (i := 160) rfl)) rfl
theorem gw_2_161 : (Cond.methodLink "WingDoor$Moment" 54 ⟨"WingDoor$Plan", "pushOf", "(I)I"⟩) ∈ zG := zG_mk (zG_t2 (List.mem_of_getElem? (i := 161) rfl)) rfl
theorem gw_2_162 : (Cond.methodLink "WingDoor$Moment" 72 ⟨"WingDoor$Moment", "drag", "()I"⟩) ∈ zG := zG_mk (zG_t2 (List.mem_of_getElem? (i := 162) rfl)) rfl
theorem gw_2_163 : (Cond.instanceMethod ⟨"WingDoor$Moment", "drag", "()I"⟩) ∈ zG := zG_mk (zG_t2 (List.mem_of_getElem? (i := 163) rfl)) rfl
theorem gw_2_164 : (Cond.selects "WingDoor$Moment" ⟨"WingDoor$Moment", "drag", "()I"⟩ ⟨"WingDoor$Moment", "drag", "()I"⟩) ∈ zG := zG_mk (zG_t2 (List.mem_of_getElem? (i := 164) rfl)) rfl
theorem gw_2_165 : (Cond.code ⟨"WingDoor$Moment", "drag", "()I"⟩ prog_7_method_13_code 1 (some .int)) ∈ zG := zG_mk (zG_t2 (List.mem_of_getElem? (i := 165) rfl)) rfl
theorem gw_2_166 : (Cond.methodLink "WingDoor$Moment" 60 ⟨"java/lang/Integer", "bitCount", "(I)I"⟩) ∈ zG := zG_mk (zG_t2 (List.mem_of_getElem? (i := 166) rfl)) rfl
theorem gw_2_167 : (Cond.static ⟨"java/lang/Integer", "bitCount", "(I)I"⟩) ∈ zG := zG_mk (zG_t2 (List.mem_of_getElem? (i := 167) rfl)) rfl
theorem gw_2_168 : (Cond.code ⟨"java/lang/Integer", "bitCount", "(I)I"⟩ prog_15_method_49_code 1 (some .int)) ∈ zG := zG_mk (zG_t2 (List.mem_of_getElem? (i := 168) rfl)) rfl
theorem gw_2_169 : (Cond.constant "java/lang/Integer" 265 1431655765) ∈ zG := zG_mk (zG_t2 (List.mem_of_getElem? (i := 169) rfl)) rfl
theorem gw_2_170 : (Cond.constant "java/lang/Integer" 266 858993459) ∈ zG := zG_mk (zG_t2 (List.mem_of_getElem? (i := 170) rfl)) rfl
theorem gw_2_171 : (Cond.constant "java/lang/Integer" 267 252645135) ∈ zG := zG_mk (zG_t2 (List.mem_of_getElem? (i := 171) rfl)) rfl
theorem gw_2_172 : (Cond.methodLink "WingDoor$Moment" 100 ⟨"WingDoor$Moment", "turn", "()I"⟩) ∈ zG := zG_mk (zG_t2 (List.mem_of_getElem? (i := 172) rfl)) rfl
theorem gw_2_173 : (Cond.instanceMethod ⟨"WingDoor$Moment", "turn", "()I"⟩) ∈ zG := zG_mk (zG_t2 (List.mem_of_getElem? (i := 173) rfl)) rfl
theorem gw_2_174 : (Cond.selects "WingDoor$Moment" ⟨"WingDoor$Moment", "turn", "()I"⟩ ⟨"WingDoor$Moment", "turn", "()I"⟩) ∈ zG := zG_mk (zG_t2 (List.mem_of_getElem? (i := 174) rfl)) rfl
theorem gw_2_175 : (Cond.code ⟨"WingDoor$Moment", "turn", "()I"⟩ prog_7_method_20_code 4 (some .int)) ∈ zG := zG_mk (zG_t2 (List.mem_of_getElem? (i := 175) rfl)) rfl
theorem gw_2_176 : (Cond.methodLink "WingDoor$Moment" 85 ⟨"WingDoor$Moment", "carry", "(I)Z"⟩) ∈ zG := zG_mk (zG_t2 (List.mem_of_getElem? (i := 176) rfl)) rfl
theorem gw_2_178 : (Cond.instanceMethod ⟨"WingDoor$Moment", "carry", "(I)Z"⟩) ∈ zG := zG_mk (zG_t2 (List.mem_of_getElem? (i := 178) rfl)) rfl
theorem gw_2_179 : (Cond.code ⟨"WingDoor$Moment", "carry", "(I)Z"⟩ prog_7_method_21_code 3 (some .boolean)) ∈ zG := zG_mk (zG_t2 (List.mem_of_getElem? (i := 179) rfl)) rfl
theorem gw_2_180 : (Cond.methodLink "WingDoor$Moment" 88 ⟨"WingDoor$Plan", "placeBehind", "(I)I"⟩) ∈ zG := zG_mk (zG_t2 (List.mem_of_getElem? (i := 180) rfl)) rfl
theorem gw_2_181 : (Cond.instanceMethod ⟨"WingDoor$Plan", "placeBehind", "(I)I"⟩) ∈ zG := zG_mk (zG_t2 (List.mem_of_getElem? (i := 181) rfl)) rfl
theorem gw_2_182 : (Cond.selects "WingDoor$Plan" ⟨"WingDoor$Plan", "placeBehind", "(I)I"⟩ ⟨"WingDoor$Plan", "placeBehind", "(I)I"⟩) ∈ zG := zG_mk (zG_t2 (List.mem_of_getElem? (i := 182) rfl)) rfl
theorem gw_2_183 : (Cond.code ⟨"WingDoor$Plan", "placeBehind", "(I)I"⟩ prog_9_method_11_code 2 (some .int)) ∈ zG := zG_mk (zG_t2 (List.mem_of_getElem? (i := 183) rfl)) rfl
theorem gw_2_184 : (Cond.methodLink "WingDoor$Moment" 91 ⟨"WingDoor$Plan", "placeOfSide", "(I)I"⟩) ∈ zG := zG_mk (zG_t2 (List.mem_of_getElem? (i := 184) rfl)) rfl
theorem gw_2_185 : (Cond.instanceMethod ⟨"WingDoor$Plan", "placeOfSide", "(I)I"⟩) ∈ zG := zG_mk (zG_t2 (List.mem_of_getElem? (i := 185) rfl)) rfl
theorem gw_2_186 : (Cond.selects "WingDoor$Plan" ⟨"WingDoor$Plan", "placeOfSide", "(I)I"⟩ ⟨"WingDoor$Plan", "placeOfSide", "(I)I"⟩) ∈ zG := zG_mk (zG_t2 (List.mem_of_getElem? (i := 186) rfl)) rfl
theorem gw_2_187 : (Cond.code ⟨"WingDoor$Plan", "placeOfSide", "(I)I"⟩ prog_9_method_10_code 2 (some .int)) ∈ zG := zG_mk (zG_t2 (List.mem_of_getElem? (i := 187) rfl)) rfl
theorem gw_2_188 : (Cond.methodLink "WingDoor$Moment" 75 ⟨"WingDoor$Moment", "fill", "()V"⟩) ∈ zG := zG_mk (zG_t2 (List.mem_of_getElem? (i := 188) rfl)) rfl
theorem gw_2_190 : (Cond.instanceMethod ⟨"WingDoor$Moment", "fill", "()V"⟩) ∈ zG := zG_mk (zG_t2 (List.mem_of_getElem? (i := 190) rfl)) rfl
theorem gw_2_191 : (Cond.code ⟨"WingDoor$Moment", "fill", "()V"⟩ prog_7_method_22_code 6 none) ∈ zG := zG_mk (zG_t2 (List.mem_of_getElem? (i := 191) rfl)) rfl
theorem gw_2_192 : (Cond.methodLink "WingDoor$Moment" 97 ⟨"WingDoor$Moment", "bulkInRoomAt", "(I)I"⟩) ∈ zG := zG_mk (zG_t2 (List.mem_of_getElem? (i := 192) rfl)) rfl
theorem gw_2_193 : (Cond.instanceMethod ⟨"WingDoor$Moment", "bulkInRoomAt", "(I)I"⟩) ∈ zG := zG_mk (zG_t2 (List.mem_of_getElem? (i := 193) rfl)) rfl
theorem gw_2_194 : (Cond.selects "WingDoor$Moment" ⟨"WingDoor$Moment", "bulkInRoomAt", "(I)I"⟩ ⟨"WingDoor$Moment", "bulkInRoomAt", "(I)I"⟩) ∈ zG := zG_mk (zG_t2 (List.mem_of_getElem? (i := 194) rfl)) rfl
theorem gw_2_195 : (Cond.code ⟨"WingDoor$Moment", "bulkInRoomAt", "(I)I"⟩ prog_7_method_11_code 4 (some .int)) ∈ zG := zG_mk (zG_t2 (List.mem_of_getElem? (i := 195) rfl)) rfl
theorem gw_2_196 : (Cond.methodLink "WingDoor$Moment" 48 ⟨"WingDoor$Plan", "bulkOf", "(I)I"⟩) ∈ zG := zG_mk (zG_t2 (List.mem_of_getElem? (i := 196) rfl)) rfl
theorem gw_2_197 : (Cond.methodLink "WingDoor$Moment" 78 ⟨"WingDoor$Moment", "firstOn", "(I)I"⟩) ∈ zG := zG_mk (zG_t2 (List.mem_of_getElem? (i := 197) rfl)) rfl
theorem gw_2_198 : (Cond.instanceMethod ⟨"WingDoor$Moment", "firstOn", "(I)I"⟩) ∈ zG := zG_mk (zG_t2 (List.mem_of_getElem? (i := 198) rfl)) rfl
theorem gw_2_199 : (Cond.selects "WingDoor$Moment" ⟨"WingDoor$Moment", "firstOn", "(I)I"⟩ ⟨"WingDoor$Moment", "firstOn", "(I)I"⟩) ∈ zG := zG_mk (zG_t2 (List.mem_of_getElem? (i := 199) rfl)) rfl
theorem gw_2_200 : (Cond.code ⟨"WingDoor$Moment", "firstOn", "(I)I"⟩ prog_7_method_15_code 5 (some .int)) ∈ zG := zG_mk (zG_t2 (List.mem_of_getElem? (i := 200) rfl)) rfl
theorem gw_2_201 : (Cond.methodLink "WingDoor" 143 ⟨"WingDoor", "orNone", "(I)I"⟩) ∈ zG := zG_mk (zG_t2 (List.mem_of_getElem? (i := 201) rfl)) rfl
theorem gw_2_202 : (Cond.static ⟨"WingDoor", "orNone", "(I)I"⟩) ∈ zG := zG_mk (zG_t2 (List.mem_of_getElem? (i := 202) rfl)) rfl
theorem gw_2_203 : (Cond.code ⟨"WingDoor", "orNone", "(I)I"⟩ prog_1_method_26_code 1 (some .int)) ∈ zG := zG_mk (zG_t2 (List.mem_of_getElem? (i := 203) rfl)) rfl
theorem gw_2_204 : (Cond.methodLink "WingDoorLaw" 36 ⟨"WingDoor", "room", "(II)I"⟩) ∈ zG := zG_mk (zG_t2 (List.mem_of_getElem? (i := 204) rfl)) rfl
theorem gw_2_205 : (Cond.instanceMethod ⟨"WingDoor", "room", "(II)I"⟩) ∈ zG := zG_mk (zG_t2 (List.mem_of_getElem? (i := 205) rfl)) rfl
theorem gw_2_206 : (Cond.selects "WingDoor" ⟨"WingDoor", "room", "(II)I"⟩ ⟨"WingDoor", "room", "(II)I"⟩) ∈ zG := zG_mk (zG_t2 (List.mem_of_getElem? (i := 206) rfl)) rfl
theorem gw_2_207 : (Cond.code ⟨"WingDoor", "room", "(II)I"⟩ prog_1_method_7_code 3 (some .int)) ∈ zG := zG_mk (zG_t2 (List.mem_of_getElem? (i := 207) rfl)) rfl
theorem gw_2_208 : (Cond.methodLink "WingDoor" 149 ⟨"WingDoor$Moment", "whoIsInRoomAt", "(I)I"⟩) ∈ zG := zG_mk (zG_t2 (List.mem_of_getElem? (i := 208) rfl)) rfl
theorem gw_2_209 : (Cond.instanceMethod ⟨"WingDoor$Moment", "whoIsInRoomAt", "(I)I"⟩) ∈ zG := zG_mk (zG_t2 (List.mem_of_getElem? (i := 209) rfl)) rfl
theorem gw_2_210 : (Cond.selects "WingDoor$Moment" ⟨"WingDoor$Moment", "whoIsInRoomAt", "(I)I"⟩ ⟨"WingDoor$Moment", "whoIsInRoomAt", "(I)I"⟩) ∈ zG := zG_mk (zG_t2 (List.mem_of_getElem? (i := 210) rfl)) rfl
theorem gw_2_211 : (Cond.code ⟨"WingDoor$Moment", "whoIsInRoomAt", "(I)I"⟩ prog_7_method_10_code 4 (some .int)) ∈ zG := zG_mk (zG_t2 (List.mem_of_getElem? (i := 211) rfl)) rfl
theorem gw_2_212 : (Cond.methodLink "WingDoor" 152 ⟨"WingDoor$Moment", "bulkInRoomAt", "(I)I"⟩) ∈ zG := zG_mk (zG_t2 (List.mem_of_getElem? (i := 212) rfl)) rfl
theorem gw_2_213 : (Cond.methodLink "WingDoorLaw" 40 ⟨"WingDoor", "now", "(I)I"⟩) ∈ zG := zG_mk (zG_t2 (List.mem_of_getElem? (i := 213) rfl)) rfl
theorem gw_2_214 : (Cond.instanceMethod ⟨"WingDoor", "now", "(I)I"⟩) ∈ zG := zG_mk (zG_t2 (List.mem_of_getElem? (i := 214) rfl)) rfl
theorem gw_2_215 : (Cond.selects "WingDoor" ⟨"WingDoor", "now", "(I)I"⟩ ⟨"WingDoor", "now", "(I)I"⟩) ∈ zG := zG_mk (zG_t2 (List.mem_of_getElem? (i := 215) rfl)) rfl
theorem gw_2_216 : (Cond.code ⟨"WingDoor", "now", "(I)I"⟩ prog_1_method_8_code 2 (some .int)) ∈ zG := zG_mk (zG_t2 (List.mem_of_getElem? (i := 216) rfl)) rfl
theorem gw_2_217 : (Cond.methodLink "WingDoor" 158 ⟨"WingDoor$Moment", "load", "()I"⟩) ∈ zG := zG_mk (zG_t2 (List.mem_of_getElem? (i := 217) rfl)) rfl
theorem gw_2_218 : (Cond.methodLink "WingDoor" 162 ⟨"WingDoor$Moment", "drag", "()I"⟩) ∈ zG := zG_mk (zG_t2 (List.mem_of_getElem? (i := 218) rfl)) rfl
theorem gw_2_219 : (Cond.methodLink "WingDoor" 165 ⟨"WingDoor$Moment", "whoIs", "(I)I"⟩) ∈ zG := zG_mk (zG_t2 (List.mem_of_getElem? (i := 219) rfl)) rfl
theorem gw_2_220 : (Cond.methodLink "WingDoor" 168 ⟨"WingDoor", "sticksNow", "()I"⟩) ∈ zG := zG_mk (zG_t2 (List.mem_of_getElem? (i := 220) rfl)) rfl
theorem gw_2_222 : (Cond.instanceMethod ⟨"WingDoor", "sticksNow", "()I"⟩) ∈ zG := zG_mk (zG_t2 (List.mem_of_getElem? (i := 222) rfl)) rfl
theorem gw_2_223 : (Cond.code ⟨"WingDoor", "sticksNow", "()I"⟩ prog_1_method_28_code 1 (some .int)) ∈ zG := zG_mk (zG_t2 (List.mem_of_getElem? (i := 223) rfl)) rfl
theorem gw_2_224 : (Cond.methodLink "WingDoor" 266 ⟨"WingDoor$Moment", "runUntilItSticks", "()I"⟩) ∈ zG := zG_mk (zG_t2 (List.mem_of_getElem? (i := 224) rfl)) rfl
theorem gw_2_225 : (Cond.instanceMethod ⟨"WingDoor$Moment", "runUntilItSticks", "()I"⟩) ∈ zG := zG_mk (zG_t2 (List.mem_of_getElem? (i := 225) rfl)) rfl
theorem gw_2_226 : (Cond.selects "WingDoor$Moment" ⟨"WingDoor$Moment", "runUntilItSticks", "()I"⟩ ⟨"WingDoor$Moment", "runUntilItSticks", "()I"⟩) ∈ zG := zG_mk (zG_t2 (List.mem_of_getElem? (i := 226) rfl)) rfl
theorem gw_2_227 : (Cond.code ⟨"WingDoor$Moment", "runUntilItSticks", "()I"⟩ prog_7_method_24_code 2 (some .int)) ∈ zG := zG_mk (zG_t2 (List.mem_of_getElem? (i := 227) rfl)) rfl
theorem gw_2_228 : (Cond.methodLink "WingDoor" 171 ⟨"WingDoor", "allNow", "()I"⟩) ∈ zG := zG_mk (zG_t2 (List.mem_of_getElem? (i := 228) rfl)) rfl
theorem gw_2_230 : (Cond.instanceMethod ⟨"WingDoor", "allNow", "()I"⟩) ∈ zG := zG_mk (zG_t2 (List.mem_of_getElem? (i := 230) rfl)) rfl
theorem gw_2_231 : (Cond.code ⟨"WingDoor", "allNow", "()I"⟩ prog_1_method_29_code 1 (some .int)) ∈ zG := zG_mk (zG_t2 (List.mem_of_getElem? (i := 231) rfl)) rfl
theorem gw_2_232 : (Cond.methodLink "WingDoor" 269 ⟨"WingDoor$Moment", "runUntilEmpty", "()I"⟩) ∈ zG := zG_mk (zG_t2 (List.mem_of_getElem? (i := 232) rfl)) rfl
theorem gw_2_233 : (Cond.instanceMethod ⟨"WingDoor$Moment", "runUntilEmpty", "()I"⟩) ∈ zG := zG_mk (zG_t2 (List.mem_of_getElem? (i := 233) rfl)) rfl
theorem gw_2_234 : (Cond.selects "WingDoor$Moment" ⟨"WingDoor$Moment", "runUntilEmpty", "()I"⟩ ⟨"WingDoor$Moment", "runUntilEmpty", "()I"⟩) ∈ zG := zG_mk (zG_t2 (List.mem_of_getElem? (i := 234) rfl)) rfl
theorem gw_2_235 : (Cond.code ⟨"WingDoor$Moment", "runUntilEmpty", "()I"⟩ prog_7_method_25_code 2 (some .int)) ∈ zG := zG_mk (zG_t2 (List.mem_of_getElem? (i := 235) rfl)) rfl
theorem gw_2_236 : (Cond.methodLink "WingDoorLaw" 44 ⟨"WingDoor", "comes", "(II)I"⟩) ∈ zG := zG_mk (zG_t2 (List.mem_of_getElem? (i := 236) rfl)) rfl
theorem gw_2_237 : (Cond.instanceMethod ⟨"WingDoor", "comes", "(II)I"⟩) ∈ zG := zG_mk (zG_t2 (List.mem_of_getElem? (i := 237) rfl)) rfl
theorem gw_2_238 : (Cond.selects "WingDoor" ⟨"WingDoor", "comes", "(II)I"⟩ ⟨"WingDoor", "comes", "(II)I"⟩) ∈ zG := zG_mk (zG_t2 (List.mem_of_getElem? (i := 238) rfl)) rfl
theorem gw_2_239 : (Cond.code ⟨"WingDoor", "comes", "(II)I"⟩ prog_1_method_9_code 3 (some .int)) ∈ zG := zG_mk (zG_t2 (List.mem_of_getElem? (i := 239) rfl)) rfl
theorem gw_3_0 : (Cond.methodLink "WingDoor" 177 ⟨"WingDoor$Past", "remember", "(LWingDoor$Moment;)V"⟩) ∈ zG := zG_mk (zG_t3 (List.mem_of_getElem? (i := 0) rfl)) rfl
theorem gw_3_1 : (Cond.instanceMethod ⟨"WingDoor$Past", "remember", "(LWingDoor$Moment;)V"⟩) ∈ zG := zG_mk (zG_t3 (List.mem_of_getElem? (i := 1) rfl)) rfl
theorem gw_3_2 : (Cond.selects "WingDoor$Past" ⟨"WingDoor$Past", "remember", "(LWingDoor$Moment;)V"⟩ ⟨"WingDoor$Past", "remember", "(LWingDoor$Moment;)V"⟩) ∈ zG := zG_mk (zG_t3 (List.mem_of_getElem? (i := 2) rfl)) rfl
theorem gw_3_3 : (Cond.code ⟨"WingDoor$Past", "remember", "(LWingDoor$Moment;)V"⟩ prog_8_method_2_code 2 none) ∈ zG := zG_mk (zG_t3 (List.mem_of_getElem? (i := 3) rfl)) rfl
theorem gw_3_4 : (Cond.methodLink "WingDoor$Past" 27 ⟨"WingDoor$Moment", "copy", "(LWingDoor$Moment;)V"⟩) ∈ zG := zG_mk (zG_t3 (List.mem_of_getElem? (i := 4) rfl)) rfl
theorem gw_3_5 : (Cond.methodLink "WingDoor" 181 ⟨"WingDoor$Moment", "letCome", "(II)I"⟩) ∈ zG := zG_mk (zG_t3 (List.mem_of_getElem? (i := 5) rfl)) rfl
theorem gw_3_6 : (Cond.instanceMethod ⟨"WingDoor$Moment", "letCome", "(II)I"⟩) ∈ zG := zG_mk (zG_t3 (List.mem_of_getElem? (i := 6) rfl)) rfl
theorem gw_3_7 : (Cond.selects "WingDoor$Moment" ⟨"WingDoor$Moment", "letCome", "(II)I"⟩ ⟨"WingDoor$Moment", "letCome", "(II)I"⟩) ∈ zG := zG_mk (zG_t3 (List.mem_of_getElem? (i := 7) rfl)) rfl
theorem gw_3_8 : (Cond.code ⟨"WingDoor$Moment", "letCome", "(II)I"⟩ prog_7_method_17_code 4 (some .int)) ∈ zG := zG_mk (zG_t3 (List.mem_of_getElem? (i := 8) rfl)) rfl
theorem gw_3_9 : (Cond.methodLink "WingDoorLaw" 48 ⟨"WingDoor", "steps", "()I"⟩) ∈ zG := zG_mk (zG_t3 (List.mem_of_getElem? (i := 9) rfl)) rfl
theorem gw_3_10 : (Cond.instanceMethod ⟨"WingDoor", "steps", "()I"⟩) ∈ zG := zG_mk (zG_t3 (List.mem_of_getElem? (i := 10) rfl)) rfl
theorem gw_3_11 : (Cond.selects "WingDoor" ⟨"WingDoor", "steps", "()I"⟩ ⟨"WingDoor", "steps", "()I"⟩) ∈ zG := zG_mk (zG_t3 (List.mem_of_getElem? (i := 11) rfl)) rfl
theorem gw_3_12 : (Cond.code ⟨"WingDoor", "steps", "()I"⟩ prog_1_method_10_code 1 (some .int)) ∈ zG := zG_mk (zG_t3 (List.mem_of_getElem? (i := 12) rfl)) rfl
theorem gw_3_13 : (Cond.methodLink "WingDoor" 185 ⟨"WingDoor$Moment", "turn", "()I"⟩) ∈ zG := zG_mk (zG_t3 (List.mem_of_getElem? (i := 13) rfl)) rfl
theorem gw_3_14 : (Cond.methodLink "WingDoorLaw" 52 ⟨"WingDoor", "leaves", "(I)I"⟩) ∈ zG := zG_mk (zG_t3 (List.mem_of_getElem? (i := 14) rfl)) rfl
theorem gw_3_15 : (Cond.instanceMethod ⟨"WingDoor", "leaves", "(I)I"⟩) ∈ zG := zG_mk (zG_t3 (List.mem_of_getElem? (i := 15) rfl)) rfl
theorem gw_3_16 : (Cond.selects "WingDoor" ⟨"WingDoor", "leaves", "(I)I"⟩ ⟨"WingDoor", "leaves", "(I)I"⟩) ∈ zG := zG_mk (zG_t3 (List.mem_of_getElem? (i := 16) rfl)) rfl
theorem gw_3_17 : (Cond.code ⟨"WingDoor", "leaves", "(I)I"⟩ prog_1_method_11_code 2 (some .int)) ∈ zG := zG_mk (zG_t3 (List.mem_of_getElem? (i := 17) rfl)) rfl
theorem gw_3_18 : (Cond.methodLink "WingDoor" 188 ⟨"WingDoor$Moment", "giveUp", "(I)V"⟩) ∈ zG := zG_mk (zG_t3 (List.mem_of_getElem? (i := 18) rfl)) rfl
theorem gw_3_19 : (Cond.instanceMethod ⟨"WingDoor$Moment", "giveUp", "(I)V"⟩) ∈ zG := zG_mk (zG_t3 (List.mem_of_getElem? (i := 19) rfl)) rfl
theorem gw_3_20 : (Cond.selects "WingDoor$Moment" ⟨"WingDoor$Moment", "giveUp", "(I)V"⟩ ⟨"WingDoor$Moment", "giveUp", "(I)V"⟩) ∈ zG := zG_mk (zG_t3 (List.mem_of_getElem? (i := 20) rfl)) rfl
theorem gw_3_21 : (Cond.code ⟨"WingDoor$Moment", "giveUp", "(I)V"⟩ prog_7_method_18_code 2 none) ∈ zG := zG_mk (zG_t3 (List.mem_of_getElem? (i := 21) rfl)) rfl
theorem gw_3_22 : (Cond.methodLink "WingDoor" 192 ⟨"WingDoor$Moment", "howManyAre", "(I)I"⟩) ∈ zG := zG_mk (zG_t3 (List.mem_of_getElem? (i := 22) rfl)) rfl
theorem gw_3_23 : (Cond.instanceMethod ⟨"WingDoor$Moment", "howManyAre", "(I)I"⟩) ∈ zG := zG_mk (zG_t3 (List.mem_of_getElem? (i := 23) rfl)) rfl
theorem gw_3_24 : (Cond.selects "WingDoor$Moment" ⟨"WingDoor$Moment", "howManyAre", "(I)I"⟩ ⟨"WingDoor$Moment", "howManyAre", "(I)I"⟩) ∈ zG := zG_mk (zG_t3 (List.mem_of_getElem? (i := 24) rfl)) rfl
theorem gw_3_25 : (Cond.code ⟨"WingDoor$Moment", "howManyAre", "(I)I"⟩ prog_7_method_9_code 2 (some .int)) ∈ zG := zG_mk (zG_t3 (List.mem_of_getElem? (i := 25) rfl)) rfl
theorem gw_3_26 : (Cond.methodLink "WingDoorLaw" 56 ⟨"WingDoor", "lets", "(I)I"⟩) ∈ zG := zG_mk (zG_t3 (List.mem_of_getElem? (i := 26) rfl)) rfl
theorem gw_3_27 : (Cond.instanceMethod ⟨"WingDoor", "lets", "(I)I"⟩) ∈ zG := zG_mk (zG_t3 (List.mem_of_getElem? (i := 27) rfl)) rfl
theorem gw_3_28 : (Cond.selects "WingDoor" ⟨"WingDoor", "lets", "(I)I"⟩ ⟨"WingDoor", "lets", "(I)I"⟩) ∈ zG := zG_mk (zG_t3 (List.mem_of_getElem? (i := 28) rfl)) rfl
theorem gw_3_29 : (Cond.code ⟨"WingDoor", "lets", "(I)I"⟩ prog_1_method_12_code 3 (some .int)) ∈ zG := zG_mk (zG_t3 (List.mem_of_getElem? (i := 29) rfl)) rfl
theorem gw_3_30 : (Cond.methodLink "WingDoor" 195 ⟨"WingDoor$Moment", "letAhead", "(I)V"⟩) ∈ zG := zG_mk (zG_t3 (List.mem_of_getElem? (i := 30) rfl)) rfl
theorem gw_3_31 : (Cond.instanceMethod ⟨"WingDoor$Moment", "letAhead", "(I)V"⟩) ∈ zG := zG_mk (zG_t3 (List.mem_of_getElem? (i := 31) rfl)) rfl
theorem gw_3_32 : (Cond.selects "WingDoor$Moment" ⟨"WingDoor$Moment", "letAhead", "(I)V"⟩ ⟨"WingDoor$Moment", "letAhead", "(I)V"⟩) ∈ zG := zG_mk (zG_t3 (List.mem_of_getElem? (i := 32) rfl)) rfl
theorem gw_3_33 : (Cond.code ⟨"WingDoor$Moment", "letAhead", "(I)V"⟩ prog_7_method_19_code 3 none) ∈ zG := zG_mk (zG_t3 (List.mem_of_getElem? (i := 33) rfl)) rfl
theorem gw_3_34 : (Cond.methodLink "WingDoorLaw" 60 ⟨"WingDoor", "undo", "()I"⟩) ∈ zG := zG_mk (zG_t3 (List.mem_of_getElem? (i := 34) rfl)) rfl
theorem gw_3_35 : (Cond.instanceMethod ⟨"WingDoor", "undo", "()I"⟩) ∈ zG := zG_mk (zG_t3 (List.mem_of_getElem? (i := 35) rfl)) rfl
theorem gw_3_36 : (Cond.selects "WingDoor" ⟨"WingDoor", "undo", "()I"⟩ ⟨"WingDoor", "undo", "()I"⟩) ∈ zG := zG_mk (zG_t3 (List.mem_of_getElem? (i := 36) rfl)) rfl
theorem gw_3_37 : (Cond.code ⟨"WingDoor", "undo", "()I"⟩ prog_1_method_13_code 1 (some .int)) ∈ zG := zG_mk (zG_t3 (List.mem_of_getElem? (i := 37) rfl)) rfl
theorem gw_3_38 : (Cond.methodLink "WingDoor" 198 ⟨"WingDoor$Past", "recall", "(LWingDoor$Moment;)V"⟩) ∈ zG := zG_mk (zG_t3 (List.mem_of_getElem? (i := 38) rfl)) rfl
theorem gw_3_39 : (Cond.instanceMethod ⟨"WingDoor$Past", "recall", "(LWingDoor$Moment;)V"⟩) ∈ zG := zG_mk (zG_t3 (List.mem_of_getElem? (i := 39) rfl)) rfl
theorem gw_3_40 : (Cond.selects "WingDoor$Past" ⟨"WingDoor$Past", "recall", "(LWingDoor$Moment;)V"⟩ ⟨"WingDoor$Past", "recall", "(LWingDoor$Moment;)V"⟩) ∈ zG := zG_mk (zG_t3 (List.mem_of_getElem? (i := 40) rfl)) rfl
theorem gw_3_41 : (Cond.code ⟨"WingDoor$Past", "recall", "(LWingDoor$Moment;)V"⟩ prog_8_method_3_code 2 none) ∈ zG := zG_mk (zG_t3 (List.mem_of_getElem? (i := 41) rfl)) rfl
theorem gw_3_42 : (Cond.methodLink "WingDoorLaw" 64 ⟨"WingDoor", "spare", "(I)I"⟩) ∈ zG := zG_mk (zG_t3 (List.mem_of_getElem? (i := 42) rfl)) rfl
theorem gw_3_43 : (Cond.instanceMethod ⟨"WingDoor", "spare", "(I)I"⟩) ∈ zG := zG_mk (zG_t3 (List.mem_of_getElem? (i := 43) rfl)) rfl
theorem gw_3_44 : (Cond.selects "WingDoor" ⟨"WingDoor", "spare", "(I)I"⟩ ⟨"WingDoor", "spare", "(I)I"⟩) ∈ zG := zG_mk (zG_t3 (List.mem_of_getElem? (i := 44) rfl)) rfl
theorem gw_3_45 : (Cond.code ⟨"WingDoor", "spare", "(I)I"⟩ prog_1_method_14_code 2 (some .int)) ∈ zG := zG_mk (zG_t3 (List.mem_of_getElem? (i := 45) rfl)) rfl
theorem gw_3_46 : (Cond.methodLink "WingDoor" 201 ⟨"WingDoor", "bestHelper", "(IZ)I"⟩) ∈ zG := zG_mk (zG_t3 (List.mem_of_getElem? (i := 46) rfl)) rfl
theorem gw_3_48 : (Cond.instanceMethod ⟨"WingDoor", "bestHelper", "(IZ)I"⟩) ∈ zG := zG_mk (zG_t3 (List.mem_of_getElem? (i := 48) rfl)) rfl
theorem gw_3_49 : (Cond.code ⟨"WingDoor", "bestHelper", "(IZ)I"⟩ prog_1_method_30_code 7 (some .int)) ∈ zG := zG_mk (zG_t3 (List.mem_of_getElem? (i := 49) rfl)) rfl
theorem gw_3_50 : (Cond.methodLink "WingDoorLaw" 68 ⟨"WingDoor", "ahead", "(I)I"⟩) ∈ zG := zG_mk (zG_t3 (List.mem_of_getElem? (i := 50) rfl)) rfl
theorem gw_3_51 : (Cond.instanceMethod ⟨"WingDoor", "ahead", "(I)I"⟩) ∈ zG := zG_mk (zG_t3 (List.mem_of_getElem? (i := 51) rfl)) rfl
theorem gw_3_52 : (Cond.selects "WingDoor" ⟨"WingDoor", "ahead", "(I)I"⟩ ⟨"WingDoor", "ahead", "(I)I"⟩) ∈ zG := zG_mk (zG_t3 (List.mem_of_getElem? (i := 52) rfl)) rfl
theorem gw_3_53 : (Cond.code ⟨"WingDoor", "ahead", "(I)I"⟩ prog_1_method_15_code 2 (some .int)) ∈ zG := zG_mk (zG_t3 (List.mem_of_getElem? (i := 53) rfl)) rfl
theorem gw_3_54 : (Cond.methodLink "WingDoorLaw" 72 ⟨"WingDoor", "odds", "(II)I"⟩) ∈ zG := zG_mk (zG_t3 (List.mem_of_getElem? (i := 54) rfl)) rfl
theorem gw_3_55 : (Cond.instanceMethod ⟨"WingDoor", "odds", "(II)I"⟩) ∈ zG := zG_mk (zG_t3 (List.mem_of_getElem? (i := 55) rfl)) rfl
theorem gw_3_56 : (Cond.selects "WingDoor" ⟨"WingDoor", "odds", "(II)I"⟩ ⟨"WingDoor", "odds", "(II)I"⟩) ∈ zG := zG_mk (zG_t3 (List.mem_of_getElem? (i := 56) rfl)) rfl
theorem gw_3_57 : (Cond.code ⟨"WingDoor", "odds", "(II)I"⟩ prog_1_method_16_code 9 (some .int)) ∈ zG := zG_mk (zG_t3 (List.mem_of_getElem? (i := 57) rfl)) rfl
theorem gw_3_58 : (Cond.constantLong "WingDoor" 205 10) ∈ zG := zG_mk (zG_t3 (List.mem_of_getElem? (i := 58) rfl)) rfl
theorem gw_3_59 : (Cond.methodLink "WingDoor" 207 ⟨"WingDoor", "waysToGo", "(I)J"⟩) ∈ zG := zG_mk (zG_t3 (List.mem_of_getElem? (i := 59) rfl)) rfl
theorem gw_3_61 : (Cond.instanceMethod ⟨"WingDoor", "waysToGo", "(I)J"⟩) ∈ zG := zG_mk (zG_t3 (List.mem_of_getElem? (i := 61) rfl)) rfl
theorem gw_3_62 : (Cond.code ⟨"WingDoor", "waysToGo", "(I)J"⟩ prog_1_method_31_code 6 (some .long)) ∈ zG := zG_mk (zG_t3 (List.mem_of_getElem? (i := 62) rfl)) rfl
theorem gw_3_63 : (Cond.methodLink "WingDoor" 272 ⟨"java/util/Arrays", "fill", "([JJ)V"⟩) ∈ zG := zG_mk (zG_t3 (List.mem_of_getElem? (i := 63) rfl)) rfl
theorem gw_3_64 : (Cond.static ⟨"java/util/Arrays", "fill", "([JJ)V"⟩) ∈ zG := zG_mk (zG_t3 (List.mem_of_getElem? (i := 64) rfl)) rfl
theorem gw_3_65 : (Cond.code ⟨"java/util/Arrays", "fill", "([JJ)V"⟩ prog_18_method_101_code 5 none) ∈ zG := zG_mk (zG_t3 (List.mem_of_getElem? (i := 65) rfl)) rfl
theorem gw_3_66 : (Cond.methodLink "WingDoor" 278 ⟨"WingDoor$Moment", "pushOf", "(I)I"⟩) ∈ zG := zG_mk (zG_t3 (List.mem_of_getElem? (i := 66) rfl)) rfl
theorem gw_3_67 : (Cond.instanceMethod ⟨"WingDoor$Moment", "pushOf", "(I)I"⟩) ∈ zG := zG_mk (zG_t3 (List.mem_of_getElem? (i := 67) rfl)) rfl
theorem gw_3_68 : (Cond.selects "WingDoor$Moment" ⟨"WingDoor$Moment", "pushOf", "(I)I"⟩ ⟨"WingDoor$Moment", "pushOf", "(I)I"⟩) ∈ zG := zG_mk (zG_t3 (List.mem_of_getElem? (i := 68) rfl)) rfl
theorem gw_3_69 : (Cond.code ⟨"WingDoor$Moment", "pushOf", "(I)I"⟩ prog_7_method_6_code 2 (some .int)) ∈ zG := zG_mk (zG_t3 (List.mem_of_getElem? (i := 69) rfl)) rfl
theorem gw_3_70 : (Cond.methodLink "WingDoor" 279 ⟨"WingDoor", "addPusher", "(III)I"⟩) ∈ zG := zG_mk (zG_t3 (List.mem_of_getElem? (i := 70) rfl)) rfl
theorem gw_3_72 : (Cond.instanceMethod ⟨"WingDoor", "addPusher", "(III)I"⟩) ∈ zG := zG_mk (zG_t3 (List.mem_of_getElem? (i := 72) rfl)) rfl
theorem gw_3_73 : (Cond.code ⟨"WingDoor", "addPusher", "(III)I"⟩ prog_1_method_32_code 8 (some .int)) ∈ zG := zG_mk (zG_t3 (List.mem_of_getElem? (i := 73) rfl)) rfl
theorem gw_3_74 : (Cond.methodLink "WingDoor" 282 ⟨"java/lang/Math", "min", "(II)I"⟩) ∈ zG := zG_mk (zG_t3 (List.mem_of_getElem? (i := 74) rfl)) rfl
theorem gw_3_75 : (Cond.static ⟨"java/lang/Math", "min", "(II)I"⟩) ∈ zG := zG_mk (zG_t3 (List.mem_of_getElem? (i := 75) rfl)) rfl
theorem gw_3_76 : (Cond.code ⟨"java/lang/Math", "min", "(II)I"⟩ prog_16_method_69_code 2 (some .int)) ∈ zG := zG_mk (zG_t3 (List.mem_of_getElem? (i := 76) rfl)) rfl
theorem gw_3_77 : (Cond.methodLink "WingDoor" 211 ⟨"WingDoor", "greatestDivisor", "(JJ)J"⟩) ∈ zG := zG_mk (zG_t3 (List.mem_of_getElem? (i := 77) rfl)) rfl
theorem gw_3_78 : (Cond.static ⟨"WingDoor", "greatestDivisor", "(JJ)J"⟩) ∈ zG := zG_mk (zG_t3 (List.mem_of_getElem? (i := 78) rfl)) rfl
theorem gw_3_79 : (Cond.code ⟨"WingDoor", "greatestDivisor", "(JJ)J"⟩ prog_1_method_33_code 11 (some .long)) ∈ zG := zG_mk (zG_t3 (List.mem_of_getElem? (i := 79) rfl)) rfl
theorem gw_3_80 : (Cond.methodLink "WingDoor" 215 ⟨"java/lang/Math", "max", "(JJ)J"⟩) ∈ zG := zG_mk (zG_t3 (List.mem_of_getElem? (i := 80) rfl)) rfl
theorem gw_3_81 : (Cond.static ⟨"java/lang/Math", "max", "(JJ)J"⟩) ∈ zG := zG_mk (zG_t3 (List.mem_of_getElem? (i := 81) rfl)) rfl
theorem gw_3_82 : (Cond.code ⟨"java/lang/Math", "max", "(JJ)J"⟩ prog_16_method_66_code 4 (some .long)) ∈ zG := zG_mk (zG_t3 (List.mem_of_getElem? (i := 82) rfl)) rfl
theorem gw_3_83 : (Cond.methodLink "WingDoorLaw" 76 ⟨"WingDoor", "sees", "(III)I"⟩) ∈ zG := zG_mk (zG_t3 (List.mem_of_getElem? (i := 83) rfl)) rfl
theorem gw_3_84 : (Cond.instanceMethod ⟨"WingDoor", "sees", "(III)I"⟩) ∈ zG := zG_mk (zG_t3 (List.mem_of_getElem? (i := 84) rfl)) rfl
theorem gw_3_85 : (Cond.selects "WingDoor" ⟨"WingDoor", "sees", "(III)I"⟩ ⟨"WingDoor", "sees", "(III)I"⟩) ∈ zG := zG_mk (zG_t3 (List.mem_of_getElem? (i := 85) rfl)) rfl
theorem gw_3_86 : (Cond.code ⟨"WingDoor", "sees", "(III)I"⟩ prog_1_method_17_code 4 (some .int)) ∈ zG := zG_mk (zG_t3 (List.mem_of_getElem? (i := 86) rfl)) rfl
theorem gw_3_87 : (Cond.methodLink "WingDoor" 220 ⟨"WingDoor", "leastOf", "(I)I"⟩) ∈ zG := zG_mk (zG_t3 (List.mem_of_getElem? (i := 87) rfl)) rfl
theorem gw_3_88 : (Cond.static ⟨"WingDoor", "leastOf", "(I)I"⟩) ∈ zG := zG_mk (zG_t3 (List.mem_of_getElem? (i := 88) rfl)) rfl
theorem gw_3_89 : (Cond.code ⟨"WingDoor", "leastOf", "(I)I"⟩ prog_1_method_34_code 1 (some .int)) ∈ zG := zG_mk (zG_t3 (List.mem_of_getElem? (i := 89) rfl)) rfl
theorem gw_3_90 : (Cond.methodLink "WingDoor" 223 ⟨"WingDoor", "mostOf", "(I)I"⟩) ∈ zG := zG_mk (zG_t3 (List.mem_of_getElem? (i := 90) rfl)) rfl
theorem gw_3_91 : (Cond.static ⟨"WingDoor", "mostOf", "(I)I"⟩) ∈ zG := zG_mk (zG_t3 (List.mem_of_getElem? (i := 91) rfl)) rfl
theorem gw_3_92 : (Cond.code ⟨"WingDoor", "mostOf", "(I)I"⟩ prog_1_method_35_code 1 (some .int)) ∈ zG := zG_mk (zG_t3 (List.mem_of_getElem? (i := 92) rfl)) rfl
theorem gw_3_93 : (Cond.methodLink "WingDoor" 226 ⟨"WingDoor$Sightings", "add", "(III)Z"⟩) ∈ zG := zG_mk (zG_t3 (List.mem_of_getElem? (i := 93) rfl)) rfl
theorem gw_3_94 : (Cond.instanceMethod ⟨"WingDoor$Sightings", "add", "(III)Z"⟩) ∈ zG := zG_mk (zG_t3 (List.mem_of_getElem? (i := 94) rfl)) rfl
theorem gw_3_95 : (Cond.selects "WingDoor$Sightings" ⟨"WingDoor$Sightings", "add", "(III)Z"⟩ ⟨"WingDoor$Sightings", "add", "(III)Z"⟩) ∈ zG := zG_mk (zG_t3 (List.mem_of_getElem? (i := 95) rfl)) rfl
theorem gw_3_96 : (Cond.code ⟨"WingDoor$Sightings", "add", "(III)Z"⟩ prog_10_method_2_code 4 (some .boolean)) ∈ zG := zG_mk (zG_t3 (List.mem_of_getElem? (i := 96) rfl)) rfl
theorem gw_3_97 : (Cond.methodLink "WingDoorLaw" 81 ⟨"WingDoor", "forget", "()I"⟩) ∈ zG := zG_mk (zG_t3 (List.mem_of_getElem? (i := 97) rfl)) rfl
theorem gw_3_98 : (Cond.instanceMethod ⟨"WingDoor", "forget", "()I"⟩) ∈ zG := zG_mk (zG_t3 (List.mem_of_getElem? (i := 98) rfl)) rfl
theorem gw_3_99 : (Cond.selects "WingDoor" ⟨"WingDoor", "forget", "()I"⟩ ⟨"WingDoor", "forget", "()I"⟩) ∈ zG := zG_mk (zG_t3 (List.mem_of_getElem? (i := 99) rfl)) rfl
theorem gw_3_100 : (Cond.code ⟨"WingDoor", "forget", "()I"⟩ prog_1_method_18_code 2 (some .int)) ∈ zG := zG_mk (zG_t3 (List.mem_of_getElem? (i := 100) rfl)) rfl
theorem gw_3_101 : (Cond.methodLink "WingDoorLaw" 85 ⟨"WingDoor", "which", "()I"⟩) ∈ zG := zG_mk (zG_t3 (List.mem_of_getElem? (i := 101) rfl)) rfl
theorem gw_3_102 : (Cond.instanceMethod ⟨"WingDoor", "which", "()I"⟩) ∈ zG := zG_mk (zG_t3 (List.mem_of_getElem? (i := 102) rfl)) rfl
theorem gw_3_103 : (Cond.selects "WingDoor" ⟨"WingDoor", "which", "()I"⟩ ⟨"WingDoor", "which", "()I"⟩) ∈ zG := zG_mk (zG_t3 (List.mem_of_getElem? (i := 103) rfl)) rfl
theorem gw_3_104 : (Cond.code ⟨"WingDoor", "which", "()I"⟩ prog_1_method_19_code 1 (some .int)) ∈ zG := zG_mk (zG_t3 (List.mem_of_getElem? (i := 104) rfl)) rfl
theorem gw_3_105 : (Cond.methodLink "WingDoor" 229 ⟨"WingDoor$Sightings", "possibleSorts", "()I"⟩) ∈ zG := zG_mk (zG_t3 (List.mem_of_getElem? (i := 105) rfl)) rfl
theorem gw_3_106 : (Cond.instanceMethod ⟨"WingDoor$Sightings", "possibleSorts", "()I"⟩) ∈ zG := zG_mk (zG_t3 (List.mem_of_getElem? (i := 106) rfl)) rfl
theorem gw_3_107 : (Cond.selects "WingDoor$Sightings" ⟨"WingDoor$Sightings", "possibleSorts", "()I"⟩ ⟨"WingDoor$Sightings", "possibleSorts", "()I"⟩) ∈ zG := zG_mk (zG_t3 (List.mem_of_getElem? (i := 107) rfl)) rfl
theorem gw_3_108 : (Cond.code ⟨"WingDoor$Sightings", "possibleSorts", "()I"⟩ prog_10_method_3_code 3 (some .int)) ∈ zG := zG_mk (zG_t3 (List.mem_of_getElem? (i := 108) rfl)) rfl
theorem gw_3_109 : (Cond.methodLink "WingDoor$Sightings" 34 ⟨"WingDoor$Sightings", "allIsSoOf", "(I)Z"⟩) ∈ zG := zG_mk (zG_t3 (List.mem_of_getElem? (i := 109) rfl)) rfl
theorem gw_3_111 : (Cond.instanceMethod ⟨"WingDoor$Sightings", "allIsSoOf", "(I)Z"⟩) ∈ zG := zG_mk (zG_t3 (List.mem_of_getElem? (i := 111) rfl)) rfl
theorem gw_3_112 : (Cond.code ⟨"WingDoor$Sightings", "allIsSoOf", "(I)Z"⟩ prog_10_method_4_code 3 (some .boolean)) ∈ zG := zG_mk (zG_t3 (List.mem_of_getElem? (i := 112) rfl)) rfl
theorem gw_3_113 : (Cond.methodLink "WingDoor$Sightings" 38 ⟨"WingDoor$Plan", "isAtMost", "(III)Z"⟩) ∈ zG := zG_mk (zG_t3 (List.mem_of_getElem? (i := 113) rfl)) rfl
theorem gw_3_114 : (Cond.instanceMethod ⟨"WingDoor$Plan", "isAtMost", "(III)Z"⟩) ∈ zG := zG_mk (zG_t3 (List.mem_of_getElem? (i := 114) rfl)) rfl
theorem gw_3_115 : (Cond.selects "WingDoor$Plan" ⟨"WingDoor$Plan", "isAtMost", "(III)Z"⟩ ⟨"WingDoor$Plan", "isAtMost", "(III)Z"⟩) ∈ zG := zG_mk (zG_t3 (List.mem_of_getElem? (i := 115) rfl)) rfl
theorem gw_3_116 : (Cond.code ⟨"WingDoor$Plan", "isAtMost", "(III)Z"⟩ prog_9_method_8_code 4 (some .boolean)) ∈ zG := zG_mk (zG_t3 (List.mem_of_getElem? (i := 116) rfl)) rfl
theorem gw_3_117 : (Cond.methodLink "WingDoor$Plan" 40 ⟨"WingDoor$Plan", "bulkOf", "(I)I"⟩) ∈ zG := zG_mk (zG_t3 (List.mem_of_getElem? (i := 117) rfl)) rfl
theorem gw_3_118 : (Cond.methodLink "WingDoor$Plan" 44 ⟨"WingDoor$Plan", "pushOf", "(I)I"⟩) ∈ zG := zG_mk (zG_t3 (List.mem_of_getElem? (i := 118) rfl)) rfl
theorem gw_3_119 : (Cond.methodLink "WingDoorLaw" 89 ⟨"WingDoor", "look", "(I)I"⟩) ∈ zG := zG_mk (zG_t3 (List.mem_of_getElem? (i := 119) rfl)) rfl
theorem gw_3_120 : (Cond.instanceMethod ⟨"WingDoor", "look", "(I)I"⟩) ∈ zG := zG_mk (zG_t3 (List.mem_of_getElem? (i := 120) rfl)) rfl
theorem gw_3_121 : (Cond.selects "WingDoor" ⟨"WingDoor", "look", "(I)I"⟩ ⟨"WingDoor", "look", "(I)I"⟩) ∈ zG := zG_mk (zG_t3 (List.mem_of_getElem? (i := 121) rfl)) rfl
theorem gw_3_122 : (Cond.code ⟨"WingDoor", "look", "(I)I"⟩ prog_1_method_20_code 9 (some .int)) ∈ zG := zG_mk (zG_t3 (List.mem_of_getElem? (i := 122) rfl)) rfl
theorem gw_3_123 : (Cond.methodLink "WingDoor" 232 ⟨"java/lang/Integer", "bitCount", "(I)I"⟩) ∈ zG := zG_mk (zG_t3 (List.mem_of_getElem? (i := 123) rfl)) rfl
theorem gw_3_124 : (Cond.methodLink "WingDoor" 237 ⟨"WingDoor$Plan", "howManyAtMost", "(III)I"⟩) ∈ zG := zG_mk (zG_t3 (List.mem_of_getElem? (i := 124) rfl)) rfl
theorem gw_3_125 : (Cond.instanceMethod ⟨"WingDoor$Plan", "howManyAtMost", "(III)I"⟩) ∈ zG := zG_mk (zG_t3 (List.mem_of_getElem? (i := 125) rfl)) rfl
theorem gw_3_126 : (Cond.selects "WingDoor$Plan" ⟨"WingDoor$Plan", "howManyAtMost", "(III)I"⟩ ⟨"WingDoor$Plan", "howManyAtMost", "(III)I"⟩) ∈ zG := zG_mk (zG_t3 (List.mem_of_getElem? (i := 126) rfl)) rfl
theorem gw_3_127 : (Cond.code ⟨"WingDoor$Plan", "howManyAtMost", "(III)I"⟩ prog_9_method_9_code 6 (some .int)) ∈ zG := zG_mk (zG_t3 (List.mem_of_getElem? (i := 127) rfl)) rfl
theorem gw_3_128 : (Cond.methodLink "WingDoor$Plan" 47 ⟨"WingDoor$Plan", "isAtMost", "(III)Z"⟩) ∈ zG := zG_mk (zG_t3 (List.mem_of_getElem? (i := 128) rfl)) rfl
theorem gw_3_129 : (Cond.methodLink "WingDoor" 241 ⟨"java/lang/Math", "max", "(II)I"⟩) ∈ zG := zG_mk (zG_t3 (List.mem_of_getElem? (i := 129) rfl)) rfl
theorem gw_3_130 : (Cond.static ⟨"java/lang/Math", "max", "(II)I"⟩) ∈ zG := zG_mk (zG_t3 (List.mem_of_getElem? (i := 130) rfl)) rfl
theorem gw_3_131 : (Cond.code ⟨"java/lang/Math", "max", "(II)I"⟩ prog_16_method_65_code 2 (some .int)) ∈ zG := zG_mk (zG_t3 (List.mem_of_getElem? (i := 131) rfl)) rfl
theorem gw_3_132 : (Cond.methodLink "WingDoorLaw" 93 ⟨"WingDoor", "rate", "(II)I"⟩) ∈ zG := zG_mk (zG_t3 (List.mem_of_getElem? (i := 132) rfl)) rfl
theorem gw_3_133 : (Cond.instanceMethod ⟨"WingDoor", "rate", "(II)I"⟩) ∈ zG := zG_mk (zG_t3 (List.mem_of_getElem? (i := 133) rfl)) rfl
theorem gw_3_134 : (Cond.selects "WingDoor" ⟨"WingDoor", "rate", "(II)I"⟩ ⟨"WingDoor", "rate", "(II)I"⟩) ∈ zG := zG_mk (zG_t3 (List.mem_of_getElem? (i := 134) rfl)) rfl
theorem gw_3_135 : (Cond.code ⟨"WingDoor", "rate", "(II)I"⟩ prog_1_method_21_code 3 (some .int)) ∈ zG := zG_mk (zG_t3 (List.mem_of_getElem? (i := 135) rfl)) rfl
theorem gw_3_136 : (Cond.constant "WingDoor" 243 (-1000000)) ∈ zG := zG_mk (zG_t3 (List.mem_of_getElem? (i := 136) rfl)) rfl
theorem gw_3_137 : (Cond.methodLink "WingDoor" 244 ⟨"WingDoor$DoorKind", "worth", "(LWingDoor$Moment;I)I"⟩) ∈ zG := zG_mk (zG_t3 (List.mem_of_getElem? (i := 137) rfl)) rfl
theorem gw_3_138 : (Cond.instanceMethod ⟨"WingDoor$DoorKind", "worth", "(LWingDoor$Moment;I)I"⟩) ∈ zG := zG_mk (zG_t3 (List.mem_of_getElem? (i := 138) rfl)) rfl
theorem gw_3_139 : (Cond.selects "WingDoor$DoorKind" ⟨"WingDoor$DoorKind", "worth", "(LWingDoor$Moment;I)I"⟩ ⟨"WingDoor$DoorKind", "worth", "(LWingDoor$Moment;I)I"⟩) ∈ zG := zG_mk (zG_t3 (List.mem_of_getElem? (i := 139) rfl)) rfl
theorem gw_3_140 : (Cond.sameMethod "WingDoor$DoorKind" "WingDoor$DoorKind" "worth" "(LWingDoor$Moment;I)I") ∈ zG := zG_mk (zG_t3 (List.mem_of_getElem? (i := 140) rfl)) rfl
theorem gw_3_141 : (Cond.selects "WingDoor$BankKind" ⟨"WingDoor$DoorKind", "worth", "(LWingDoor$Moment;I)I"⟩ ⟨"WingDoor$BankKind", "worth", "(LWingDoor$Moment;I)I"⟩) ∈ zG := zG_mk (zG_t3 (List.mem_of_getElem? (i := 141) rfl)) rfl
theorem gw_3_142 : (Cond.instanceMethod ⟨"WingDoor$BankKind", "worth", "(LWingDoor$Moment;I)I"⟩) ∈ zG := zG_mk (zG_t3 (List.mem_of_getElem? (i := 142) rfl)) rfl
theorem gw_3_143 : (Cond.code ⟨"WingDoor$BankKind", "worth", "(LWingDoor$Moment;I)I"⟩ prog_2_method_2_code 3 (some .int)) ∈ zG := zG_mk (zG_t3 (List.mem_of_getElem? (i := 143) rfl)) rfl
theorem gw_3_144 : (Cond.constantLong "WingDoor$BankKind" 13 10) ∈ zG := zG_mk (zG_t3 (List.mem_of_getElem? (i := 144) rfl)) rfl
theorem gw_3_145 : (Cond.methodLink "WingDoor$BankKind" 15 ⟨"WingDoor$DoorKind", "worth", "(LWingDoor$Moment;I)I"⟩) ∈ zG := zG_mk (zG_t3 (List.mem_of_getElem? (i := 145) rfl)) rfl
theorem gw_3_146 : (Cond.methodLink "WingDoor$BankKind" 19 ⟨"WingDoor$Moment", "pushOf", "(I)I"⟩) ∈ zG := zG_mk (zG_t3 (List.mem_of_getElem? (i := 146) rfl)) rfl
theorem gw_3_147 : (Cond.selects "WingDoor$CourtKind" ⟨"WingDoor$DoorKind", "worth", "(LWingDoor$Moment;I)I"⟩ ⟨"WingDoor$CourtKind", "worth", "(LWingDoor$Moment;I)I"⟩) ∈ zG := zG_mk (zG_t3 (List.mem_of_getElem? (i := 147) rfl)) rfl
theorem gw_3_148 : (Cond.instanceMethod ⟨"WingDoor$CourtKind", "worth", "(LWingDoor$Moment;I)I"⟩) ∈ zG := zG_mk (zG_t3 (List.mem_of_getElem? (i := 148) rfl)) rfl
theorem gw_3_149 : (Cond.code ⟨"WingDoor$CourtKind", "worth", "(LWingDoor$Moment;I)I"⟩ prog_3_method_2_code 3 (some .int)) ∈ zG := zG_mk (zG_t3 (List.mem_of_getElem? (i := 149) rfl)) rfl
theorem gw_3_150 : (Cond.constantLong "WingDoor$CourtKind" 13 1000) ∈ zG := zG_mk (zG_t3 (List.mem_of_getElem? (i := 150) rfl)) rfl
theorem gw_3_151 : (Cond.methodLink "WingDoor$CourtKind" 15 ⟨"WingDoor$BankKind", "worth", "(LWingDoor$Moment;I)I"⟩) ∈ zG := zG_mk (zG_t3 (List.mem_of_getElem? (i := 151) rfl)) rfl
theorem gw_3_152 : (Cond.selects "WingDoor$GrandKind" ⟨"WingDoor$DoorKind", "worth", "(LWingDoor$Moment;I)I"⟩ ⟨"WingDoor$GrandKind", "worth", "(LWingDoor$Moment;I)I"⟩) ∈ zG := zG_mk (zG_t3 (List.mem_of_getElem? (i := 152) rfl)) rfl
theorem gw_3_153 : (Cond.instanceMethod ⟨"WingDoor$GrandKind", "worth", "(LWingDoor$Moment;I)I"⟩) ∈ zG := zG_mk (zG_t3 (List.mem_of_getElem? (i := 153) rfl)) rfl
theorem gw_3_154 : (Cond.code ⟨"WingDoor$GrandKind", "worth", "(LWingDoor$Moment;I)I"⟩ prog_5_method_2_code 3 (some .int)) ∈ zG := zG_mk (zG_t3 (List.mem_of_getElem? (i := 154) rfl)) rfl
theorem gw_3_155 : (Cond.constantLong "WingDoor$GrandKind" 13 10000) ∈ zG := zG_mk (zG_t3 (List.mem_of_getElem? (i := 155) rfl)) rfl
theorem gw_3_156 : (Cond.methodLink "WingDoor$GrandKind" 15 ⟨"WingDoor$HotelKind", "worth", "(LWingDoor$Moment;I)I"⟩) ∈ zG := zG_mk (zG_t3 (List.mem_of_getElem? (i := 156) rfl)) rfl
theorem gw_3_157 : (Cond.instanceMethod ⟨"WingDoor$HotelKind", "worth", "(LWingDoor$Moment;I)I"⟩) ∈ zG := zG_mk (zG_t3 (List.mem_of_getElem? (i := 157) rfl)) rfl
theorem gw_3_158 : (Cond.code ⟨"WingDoor$HotelKind", "worth", "(LWingDoor$Moment;I)I"⟩ prog_6_method_2_code 3 (some .int)) ∈ zG := zG_mk (zG_t3 (List.mem_of_getElem? (i := 158) rfl)) rfl
theorem gw_3_159 : (Cond.constantLong "WingDoor$HotelKind" 15 100) ∈ zG := zG_mk (zG_t3 (List.mem_of_getElem? (i := 159) rfl)) rfl
theorem gw_3_160 : (Cond.methodLink "WingDoor$HotelKind" 17 ⟨"WingDoor$DoorKind", "worth", "(LWingDoor$Moment;I)I"⟩) ∈ zG := zG_mk (zG_t3 (List.mem_of_getElem? (i := 160) rfl)) rfl
theorem gw_3_161 : (Cond.methodLink "WingDoor$HotelKind" 21 ⟨"WingDoor$Moment", "howManyAre", "(I)I"⟩) ∈ zG := zG_mk (zG_t3 (List.mem_of_getElem? (i := 161) rfl)) rfl
theorem gw_3_162 : (Cond.selects "WingDoor$HotelKind" ⟨"WingDoor$DoorKind", "worth", "(LWingDoor$Moment;I)I"⟩ ⟨"WingDoor$HotelKind", "worth", "(LWingDoor$Moment;I)I"⟩) ∈ zG := zG_mk (zG_t3 (List.mem_of_getElem? (i := 162) rfl)) rfl
theorem gw_3_163 : (Cond.selects "WingDoor$StoreKind" ⟨"WingDoor$DoorKind", "worth", "(LWingDoor$Moment;I)I"⟩ ⟨"WingDoor$StoreKind", "worth", "(LWingDoor$Moment;I)I"⟩) ∈ zG := zG_mk (zG_t3 (List.mem_of_getElem? (i := 163) rfl)) rfl
theorem gw_3_164 : (Cond.instanceMethod ⟨"WingDoor$StoreKind", "worth", "(LWingDoor$Moment;I)I"⟩) ∈ zG := zG_mk (zG_t3 (List.mem_of_getElem? (i := 164) rfl)) rfl
theorem gw_3_165 : (Cond.code ⟨"WingDoor$StoreKind", "worth", "(LWingDoor$Moment;I)I"⟩ prog_11_method_2_code 3 (some .int)) ∈ zG := zG_mk (zG_t3 (List.mem_of_getElem? (i := 165) rfl)) rfl
theorem gw_3_166 : (Cond.constantLong "WingDoor$StoreKind" 13 100000) ∈ zG := zG_mk (zG_t3 (List.mem_of_getElem? (i := 166) rfl)) rfl
theorem gw_3_167 : (Cond.methodLink "WingDoor$StoreKind" 15 ⟨"WingDoor$DoorKind", "worth", "(LWingDoor$Moment;I)I"⟩) ∈ zG := zG_mk (zG_t3 (List.mem_of_getElem? (i := 167) rfl)) rfl
theorem gw_3_168 : (Cond.code ⟨"WingDoor$DoorKind", "worth", "(LWingDoor$Moment;I)I"⟩ prog_4_method_2_code 3 (some .int)) ∈ zG := zG_mk (zG_t3 (List.mem_of_getElem? (i := 168) rfl)) rfl
theorem gw_3_169 : (Cond.methodLink "WingDoor$DoorKind" 13 ⟨"WingDoor$Moment", "bulkOf", "(I)I"⟩) ∈ zG := zG_mk (zG_t3 (List.mem_of_getElem? (i := 169) rfl)) rfl
theorem gw_3_170 : (Cond.instanceMethod ⟨"WingDoor$Moment", "bulkOf", "(I)I"⟩) ∈ zG := zG_mk (zG_t3 (List.mem_of_getElem? (i := 170) rfl)) rfl
theorem gw_3_171 : (Cond.selects "WingDoor$Moment" ⟨"WingDoor$Moment", "bulkOf", "(I)I"⟩ ⟨"WingDoor$Moment", "bulkOf", "(I)I"⟩) ∈ zG := zG_mk (zG_t3 (List.mem_of_getElem? (i := 171) rfl)) rfl
theorem gw_3_172 : (Cond.code ⟨"WingDoor$Moment", "bulkOf", "(I)I"⟩ prog_7_method_5_code 2 (some .int)) ∈ zG := zG_mk (zG_t3 (List.mem_of_getElem? (i := 172) rfl)) rfl
theorem gw_3_173 : (Cond.methodLink "WingDoorLaw" 97 ⟨"WingDoor", "keep", "(I)I"⟩) ∈ zG := zG_mk (zG_t3 (List.mem_of_getElem? (i := 173) rfl)) rfl
theorem gw_3_174 : (Cond.instanceMethod ⟨"WingDoor", "keep", "(I)I"⟩) ∈ zG := zG_mk (zG_t3 (List.mem_of_getElem? (i := 174) rfl)) rfl
theorem gw_3_175 : (Cond.selects "WingDoor" ⟨"WingDoor", "keep", "(I)I"⟩ ⟨"WingDoor", "keep", "(I)I"⟩) ∈ zG := zG_mk (zG_t3 (List.mem_of_getElem? (i := 175) rfl)) rfl
theorem gw_3_176 : (Cond.code ⟨"WingDoor", "keep", "(I)I"⟩ prog_1_method_22_code 2 (some .int)) ∈ zG := zG_mk (zG_t3 (List.mem_of_getElem? (i := 176) rfl)) rfl
theorem gw_3_177 : (Cond.methodLink "WingDoorLaw" 101 ⟨"WingDoor", "back", "(I)I"⟩) ∈ zG := zG_mk (zG_t3 (List.mem_of_getElem? (i := 177) rfl)) rfl
theorem gw_3_178 : (Cond.instanceMethod ⟨"WingDoor", "back", "(I)I"⟩) ∈ zG := zG_mk (zG_t3 (List.mem_of_getElem? (i := 178) rfl)) rfl
theorem gw_3_179 : (Cond.selects "WingDoor" ⟨"WingDoor", "back", "(I)I"⟩ ⟨"WingDoor", "back", "(I)I"⟩) ∈ zG := zG_mk (zG_t3 (List.mem_of_getElem? (i := 179) rfl)) rfl
theorem gw_3_180 : (Cond.code ⟨"WingDoor", "back", "(I)I"⟩ prog_1_method_23_code 2 (some .int)) ∈ zG := zG_mk (zG_t3 (List.mem_of_getElem? (i := 180) rfl)) rfl
theorem gw_3_181 : (Cond.methodLink "WingDoorLaw" 105 ⟨"WingDoor", "count", "(I)I"⟩) ∈ zG := zG_mk (zG_t3 (List.mem_of_getElem? (i := 181) rfl)) rfl
theorem gw_3_182 : (Cond.instanceMethod ⟨"WingDoor", "count", "(I)I"⟩) ∈ zG := zG_mk (zG_t3 (List.mem_of_getElem? (i := 182) rfl)) rfl
theorem gw_3_183 : (Cond.selects "WingDoor" ⟨"WingDoor", "count", "(I)I"⟩ ⟨"WingDoor", "count", "(I)I"⟩) ∈ zG := zG_mk (zG_t3 (List.mem_of_getElem? (i := 183) rfl)) rfl
theorem gw_3_184 : (Cond.code ⟨"WingDoor", "count", "(I)I"⟩ prog_1_method_24_code 2 (some .int)) ∈ zG := zG_mk (zG_t3 (List.mem_of_getElem? (i := 184) rfl)) rfl
theorem gw_3_185 : (Cond.methodLink "WingDoorLaw" 109 ⟨"WingDoor", "trace", "()J"⟩) ∈ zG := zG_mk (zG_t3 (List.mem_of_getElem? (i := 185) rfl)) rfl
theorem gw_3_186 : (Cond.instanceMethod ⟨"WingDoor", "trace", "()J"⟩) ∈ zG := zG_mk (zG_t3 (List.mem_of_getElem? (i := 186) rfl)) rfl
theorem gw_3_187 : (Cond.selects "WingDoor" ⟨"WingDoor", "trace", "()J"⟩ ⟨"WingDoor", "trace", "()J"⟩) ∈ zG := zG_mk (zG_t3 (List.mem_of_getElem? (i := 187) rfl)) rfl
theorem gw_3_188 : (Cond.code ⟨"WingDoor", "trace", "()J"⟩ prog_1_method_25_code 4 (some .long)) ∈ zG := zG_mk (zG_t3 (List.mem_of_getElem? (i := 188) rfl)) rfl
theorem gw_3_189 : (Cond.classLink "WingDoorLaw" 10 "WingDoorModel") ∈ zG := zG_mk (zG_t3 (List.mem_of_getElem? (i := 189) rfl)) rfl
theorem gw_3_190 : (Cond.instantiable "WingDoorModel" 27) ∈ zG := zG_mk (zG_t3 (List.mem_of_getElem? (i := 190) rfl)) rfl
theorem gw_3_191 : (Cond.methodLink "WingDoorLaw" 12 ⟨"WingDoorModel", "<init>", "()V"⟩) ∈ zG := zG_mk (zG_t3 (List.mem_of_getElem? (i := 191) rfl)) rfl
theorem gw_3_192 : (Cond.instanceMethod ⟨"WingDoorModel", "<init>", "()V"⟩) ∈ zG := zG_mk (zG_t3 (List.mem_of_getElem? (i := 192) rfl)) rfl
theorem gw_3_193 : (Cond.code ⟨"WingDoorModel", "<init>", "()V"⟩ prog_14_method_1_code 1 none) ∈ zG := zG_mk (zG_t3 (List.mem_of_getElem? (i := 193) rfl)) rfl
theorem gw_3_194 : (Cond.methodLink "WingDoorModel" 1 ⟨"java/lang/Object", "<init>", "()V"⟩) ∈ zG := zG_mk (zG_t3 (List.mem_of_getElem? (i := 194) rfl)) rfl
theorem gw_3_195 : (Cond.fieldLink "WingDoorModel" 7 "WingDoorModel" "rooms" "I") ∈ zG := zG_mk (zG_t3 (List.mem_of_getElem? (i := 195) rfl)) rfl
theorem gw_3_196 : (Cond.fieldLink "WingDoorModel" 13 "WingDoorModel" "wide" "I") ∈ zG := zG_mk (zG_t3 (List.mem_of_getElem? (i := 196) rfl)) rfl
theorem gw_3_197 : (Cond.fieldLink "WingDoorModel" 16 "WingDoorModel" "hard" "I") ∈ zG := zG_mk (zG_t3 (List.mem_of_getElem? (i := 197) rfl)) rfl
theorem gw_3_198 : (Cond.fieldLink "WingDoorModel" 125 "WingDoorModel" "sorts" "I") ∈ zG := zG_mk (zG_t3 (List.mem_of_getElem? (i := 198) rfl)) rfl
theorem gw_3_199 : (Cond.fieldLink "WingDoorModel" 19 "WingDoorModel" "bulk" "[I") ∈ zG := zG_mk (zG_t3 (List.mem_of_getElem? (i := 199) rfl)) rfl
theorem gw_3_200 : (Cond.fieldLink "WingDoorModel" 23 "WingDoorModel" "push" "[I") ∈ zG := zG_mk (zG_t3 (List.mem_of_getElem? (i := 200) rfl)) rfl
theorem gw_3_201 : (Cond.fieldLink "WingDoorModel" 26 "WingDoorModel" "now" "[I") ∈ zG := zG_mk (zG_t3 (List.mem_of_getElem? (i := 201) rfl)) rfl
theorem gw_3_202 : (Cond.fieldLink "WingDoorModel" 29 "WingDoorModel" "aside" "[I") ∈ zG := zG_mk (zG_t3 (List.mem_of_getElem? (i := 202) rfl)) rfl
theorem gw_3_203 : (Cond.fieldLink "WingDoorModel" 32 "WingDoorModel" "past" "[I") ∈ zG := zG_mk (zG_t3 (List.mem_of_getElem? (i := 203) rfl)) rfl
theorem gw_3_204 : (Cond.fieldLink "WingDoorModel" 132 "WingDoorModel" "undos" "I") ∈ zG := zG_mk (zG_t3 (List.mem_of_getElem? (i := 204) rfl)) rfl
theorem gw_3_205 : (Cond.fieldLink "WingDoorModel" 35 "WingDoorModel" "images" "[I") ∈ zG := zG_mk (zG_t3 (List.mem_of_getElem? (i := 205) rfl)) rfl
theorem gw_3_206 : (Cond.fieldLink "WingDoorModel" 38 "WingDoorModel" "isKept" "[Z") ∈ zG := zG_mk (zG_t3 (List.mem_of_getElem? (i := 206) rfl)) rfl
theorem gw_3_207 : (Cond.fieldLink "WingDoorModel" 42 "WingDoorModel" "seen" "[I") ∈ zG := zG_mk (zG_t3 (List.mem_of_getElem? (i := 207) rfl)) rfl
theorem gw_3_208 : (Cond.fieldLink "WingDoorModel" 135 "WingDoorModel" "seenMany" "I") ∈ zG := zG_mk (zG_t3 (List.mem_of_getElem? (i := 208) rfl)) rfl
theorem gw_3_209 : (Cond.fieldLink "WingDoorModel" 237 "WingDoorModel" "trace" "J") ∈ zG := zG_mk (zG_t3 (List.mem_of_getElem? (i := 209) rfl)) rfl
theorem gw_3_210 : (Cond.fieldLink "WingDoorModel" 45 "WingDoorModel" "text" "[I") ∈ zG := zG_mk (zG_t3 (List.mem_of_getElem? (i := 210) rfl)) rfl
theorem gw_3_211 : (Cond.fieldLink "WingDoorModel" 60 "WingDoorModel" "typed" "I") ∈ zG := zG_mk (zG_t3 (List.mem_of_getElem? (i := 211) rfl)) rfl
theorem gw_3_212 : (Cond.fieldLink "WingDoorModel" 63 "WingDoorModel" "at" "I") ∈ zG := zG_mk (zG_t3 (List.mem_of_getElem? (i := 212) rfl)) rfl
theorem gw_3_213 : (Cond.fieldLink "WingDoorModel" 74 "WingDoorModel" "begin" "I") ∈ zG := zG_mk (zG_t3 (List.mem_of_getElem? (i := 213) rfl)) rfl
theorem gw_3_214 : (Cond.fieldLink "WingDoorModel" 80 "WingDoorModel" "token" "I") ∈ zG := zG_mk (zG_t3 (List.mem_of_getElem? (i := 214) rfl)) rfl
theorem gw_3_215 : (Cond.fieldLink "WingDoorModel" 77 "WingDoorModel" "value" "I") ∈ zG := zG_mk (zG_t3 (List.mem_of_getElem? (i := 215) rfl)) rfl
theorem gw_3_216 : (Cond.fieldLink "WingDoorModel" 97 "WingDoorModel" "readRooms" "I") ∈ zG := zG_mk (zG_t3 (List.mem_of_getElem? (i := 216) rfl)) rfl
theorem gw_3_217 : (Cond.fieldLink "WingDoorModel" 100 "WingDoorModel" "readWide" "I") ∈ zG := zG_mk (zG_t3 (List.mem_of_getElem? (i := 217) rfl)) rfl
theorem gw_3_218 : (Cond.fieldLink "WingDoorModel" 103 "WingDoorModel" "readHard" "I") ∈ zG := zG_mk (zG_t3 (List.mem_of_getElem? (i := 218) rfl)) rfl
theorem gw_3_219 : (Cond.fieldLink "WingDoorModel" 106 "WingDoorModel" "readSorts" "I") ∈ zG := zG_mk (zG_t3 (List.mem_of_getElem? (i := 219) rfl)) rfl
theorem gw_3_220 : (Cond.fieldLink "WingDoorModel" 48 "WingDoorModel" "readBulk" "[I") ∈ zG := zG_mk (zG_t3 (List.mem_of_getElem? (i := 220) rfl)) rfl
theorem gw_3_221 : (Cond.fieldLink "WingDoorModel" 51 "WingDoorModel" "readPush" "[I") ∈ zG := zG_mk (zG_t3 (List.mem_of_getElem? (i := 221) rfl)) rfl
theorem gw_3_222 : (Cond.lays "WingDoorModel" "WingDoorModel" "rooms" "I") ∈ zG := zG_mk (zG_t3 (List.mem_of_getElem? (i := 222) rfl)) rfl
theorem gw_3_224 : (Cond.lays "WingDoorModel" "WingDoorModel" "wide" "I") ∈ zG := zG_mk (zG_t3 (List.mem_of_getElem? (i := 224) rfl)) rfl
theorem gw_3_226 : (Cond.lays "WingDoorModel" "WingDoorModel" "hard" "I") ∈ zG := zG_mk (zG_t3 (List.mem_of_getElem? (i := 226) rfl)) rfl
theorem gw_3_228 : (Cond.lays "WingDoorModel" "WingDoorModel" "sorts" "I") ∈ zG := zG_mk (zG_t3 (List.mem_of_getElem? (i := 228) rfl)) rfl
theorem gw_3_230 : (Cond.laysFinal "WingDoorModel" "WingDoorModel" "bulk" "[I") ∈ zG := zG_mk (zG_t3 (List.mem_of_getElem? (i := 230) rfl)) rfl
theorem gw_3_232 : (Cond.laysFinal "WingDoorModel" "WingDoorModel" "push" "[I") ∈ zG := zG_mk (zG_t3 (List.mem_of_getElem? (i := 232) rfl)) rfl
theorem gw_3_234 : (Cond.laysFinal "WingDoorModel" "WingDoorModel" "now" "[I") ∈ zG := zG_mk (zG_t3 (List.mem_of_getElem? (i := 234) rfl)) rfl
theorem gw_3_236 : (Cond.laysFinal "WingDoorModel" "WingDoorModel" "aside" "[I") ∈ zG := zG_mk (zG_t3 (List.mem_of_getElem? (i := 236) rfl)) rfl
theorem gw_3_238 : (Cond.laysFinal "WingDoorModel" "WingDoorModel" "past" "[I") ∈ zG := zG_mk (zG_t3 (List.mem_of_getElem? (i := 238) rfl)) rfl
theorem gw_4_0 : (Cond.lays "WingDoorModel" "WingDoorModel" "undos" "I") ∈ zG := zG_mk (zG_t4 (List.mem_of_getElem? (i := 0) rfl)) rfl
theorem gw_4_2 : (Cond.laysFinal "WingDoorModel" "WingDoorModel" "images" "[I") ∈ zG := zG_mk (zG_t4 (List.mem_of_getElem? (i := 2) rfl)) rfl
theorem gw_4_4 : (Cond.laysFinal "WingDoorModel" "WingDoorModel" "isKept" "[Z") ∈ zG := zG_mk (zG_t4 (List.mem_of_getElem? (i := 4) rfl)) rfl
theorem gw_4_6 : (Cond.laysFinal "WingDoorModel" "WingDoorModel" "seen" "[I") ∈ zG := zG_mk (zG_t4 (List.mem_of_getElem? (i := 6) rfl)) rfl
theorem gw_4_8 : (Cond.lays "WingDoorModel" "WingDoorModel" "seenMany" "I") ∈ zG := zG_mk (zG_t4 (List.mem_of_getElem? (i := 8) rfl)) rfl
theorem gw_4_10 : (Cond.lays "WingDoorModel" "WingDoorModel" "trace" "J") ∈ zG := zG_mk (zG_t4 (List.mem_of_getElem? (i := 10) rfl)) rfl
theorem gw_4_12 : (Cond.laysFinal "WingDoorModel" "WingDoorModel" "text" "[I") ∈ zG := zG_mk (zG_t4 (List.mem_of_getElem? (i := 12) rfl)) rfl
theorem gw_4_14 : (Cond.lays "WingDoorModel" "WingDoorModel" "typed" "I") ∈ zG := zG_mk (zG_t4 (List.mem_of_getElem? (i := 14) rfl)) rfl
theorem gw_4_16 : (Cond.lays "WingDoorModel" "WingDoorModel" "at" "I") ∈ zG := zG_mk (zG_t4 (List.mem_of_getElem? (i := 16) rfl)) rfl
theorem gw_4_18 : (Cond.lays "WingDoorModel" "WingDoorModel" "begin" "I") ∈ zG := zG_mk (zG_t4 (List.mem_of_getElem? (i := 18) rfl)) rfl
theorem gw_4_20 : (Cond.lays "WingDoorModel" "WingDoorModel" "token" "I") ∈ zG := zG_mk (zG_t4 (List.mem_of_getElem? (i := 20) rfl)) rfl
theorem gw_4_22 : (Cond.lays "WingDoorModel" "WingDoorModel" "value" "I") ∈ zG := zG_mk (zG_t4 (List.mem_of_getElem? (i := 22) rfl)) rfl
theorem gw_4_24 : (Cond.lays "WingDoorModel" "WingDoorModel" "readRooms" "I") ∈ zG := zG_mk (zG_t4 (List.mem_of_getElem? (i := 24) rfl)) rfl
theorem gw_4_26 : (Cond.lays "WingDoorModel" "WingDoorModel" "readWide" "I") ∈ zG := zG_mk (zG_t4 (List.mem_of_getElem? (i := 26) rfl)) rfl
theorem gw_4_28 : (Cond.lays "WingDoorModel" "WingDoorModel" "readHard" "I") ∈ zG := zG_mk (zG_t4 (List.mem_of_getElem? (i := 28) rfl)) rfl
theorem gw_4_30 : (Cond.lays "WingDoorModel" "WingDoorModel" "readSorts" "I") ∈ zG := zG_mk (zG_t4 (List.mem_of_getElem? (i := 30) rfl)) rfl
theorem gw_4_32 : (Cond.laysFinal "WingDoorModel" "WingDoorModel" "readBulk" "[I") ∈ zG := zG_mk (zG_t4 (List.mem_of_getElem? (i := 32) rfl)) rfl
theorem gw_4_34 : (Cond.laysFinal "WingDoorModel" "WingDoorModel" "readPush" "[I") ∈ zG := zG_mk (zG_t4 (List.mem_of_getElem? (i := 34) rfl)) rfl
theorem gw_4_36 : (Cond.superclass "WingDoorModel" "java/lang/Object") ∈ zG := zG_mk (zG_t4 (List.mem_of_getElem? (i := 36) rfl)) rfl
theorem gw_4_37 : (Cond.methodLink "WingDoorLaw" 17 ⟨"WingDoorModel", "type", "(I)I"⟩) ∈ zG := zG_mk (zG_t4 (List.mem_of_getElem? (i := 37) rfl)) rfl
theorem gw_4_38 : (Cond.instanceMethod ⟨"WingDoorModel", "type", "(I)I"⟩) ∈ zG := zG_mk (zG_t4 (List.mem_of_getElem? (i := 38) rfl)) rfl
theorem gw_4_39 : (Cond.selects "WingDoorModel" ⟨"WingDoorModel", "type", "(I)I"⟩ ⟨"WingDoorModel", "type", "(I)I"⟩) ∈ zG := zG_mk (zG_t4 (List.mem_of_getElem? (i := 39) rfl)) rfl
theorem gw_4_40 : (Cond.code ⟨"WingDoorModel", "type", "(I)I"⟩ prog_14_method_7_code 2 (some .int)) ∈ zG := zG_mk (zG_t4 (List.mem_of_getElem? (i := 40) rfl)) rfl
theorem gw_4_41 : (Cond.constantLong "WingDoorModel" 54 255) ∈ zG := zG_mk (zG_t4 (List.mem_of_getElem? (i := 41) rfl)) rfl
theorem gw_4_42 : (Cond.methodLink "WingDoorModel" 56 ⟨"WingDoorModel", "in", "(JJJ)Z"⟩) ∈ zG := zG_mk (zG_t4 (List.mem_of_getElem? (i := 42) rfl)) rfl
theorem gw_4_43 : (Cond.static ⟨"WingDoorModel", "in", "(JJJ)Z"⟩) ∈ zG := zG_mk (zG_t4 (List.mem_of_getElem? (i := 43) rfl)) rfl
theorem gw_4_44 : (Cond.code ⟨"WingDoorModel", "in", "(JJJ)Z"⟩ prog_14_method_3_code 6 (some .boolean)) ∈ zG := zG_mk (zG_t4 (List.mem_of_getElem? (i := 44) rfl)) rfl
theorem gw_4_45 : (Cond.methodLink "WingDoorLaw" 22 ⟨"WingDoorModel", "clear", "()I"⟩) ∈ zG := zG_mk (zG_t4 (List.mem_of_getElem? (i := 45) rfl)) rfl
theorem gw_4_46 : (Cond.instanceMethod ⟨"WingDoorModel", "clear", "()I"⟩) ∈ zG := zG_mk (zG_t4 (List.mem_of_getElem? (i := 46) rfl)) rfl
theorem gw_4_47 : (Cond.selects "WingDoorModel" ⟨"WingDoorModel", "clear", "()I"⟩ ⟨"WingDoorModel", "clear", "()I"⟩) ∈ zG := zG_mk (zG_t4 (List.mem_of_getElem? (i := 47) rfl)) rfl
theorem gw_4_48 : (Cond.code ⟨"WingDoorModel", "clear", "()I"⟩ prog_14_method_8_code 2 (some .int)) ∈ zG := zG_mk (zG_t4 (List.mem_of_getElem? (i := 48) rfl)) rfl
theorem gw_4_49 : (Cond.methodLink "WingDoorLaw" 26 ⟨"WingDoorModel", "door", "()I"⟩) ∈ zG := zG_mk (zG_t4 (List.mem_of_getElem? (i := 49) rfl)) rfl
theorem gw_4_50 : (Cond.instanceMethod ⟨"WingDoorModel", "door", "()I"⟩) ∈ zG := zG_mk (zG_t4 (List.mem_of_getElem? (i := 50) rfl)) rfl
theorem gw_4_51 : (Cond.selects "WingDoorModel" ⟨"WingDoorModel", "door", "()I"⟩ ⟨"WingDoorModel", "door", "()I"⟩) ∈ zG := zG_mk (zG_t4 (List.mem_of_getElem? (i := 51) rfl)) rfl
theorem gw_4_52 : (Cond.code ⟨"WingDoorModel", "door", "()I"⟩ prog_14_method_19_code 3 (some .int)) ∈ zG := zG_mk (zG_t4 (List.mem_of_getElem? (i := 52) rfl)) rfl
theorem gw_4_53 : (Cond.methodLink "WingDoorModel" 122 ⟨"WingDoorModel", "reads", "()I"⟩) ∈ zG := zG_mk (zG_t4 (List.mem_of_getElem? (i := 53) rfl)) rfl
theorem gw_4_55 : (Cond.instanceMethod ⟨"WingDoorModel", "reads", "()I"⟩) ∈ zG := zG_mk (zG_t4 (List.mem_of_getElem? (i := 55) rfl)) rfl
theorem gw_4_56 : (Cond.code ⟨"WingDoorModel", "reads", "()I"⟩ prog_14_method_18_code 2 (some .int)) ∈ zG := zG_mk (zG_t4 (List.mem_of_getElem? (i := 56) rfl)) rfl
theorem gw_4_57 : (Cond.methodLink "WingDoorModel" 90 ⟨"WingDoorModel", "nextToken", "()V"⟩) ∈ zG := zG_mk (zG_t4 (List.mem_of_getElem? (i := 57) rfl)) rfl
theorem gw_4_59 : (Cond.instanceMethod ⟨"WingDoorModel", "nextToken", "()V"⟩) ∈ zG := zG_mk (zG_t4 (List.mem_of_getElem? (i := 59) rfl)) rfl
theorem gw_4_60 : (Cond.code ⟨"WingDoorModel", "nextToken", "()V"⟩ prog_14_method_11_code 1 none) ∈ zG := zG_mk (zG_t4 (List.mem_of_getElem? (i := 60) rfl)) rfl
theorem gw_4_61 : (Cond.methodLink "WingDoorModel" 66 ⟨"WingDoorModel", "here", "()I"⟩) ∈ zG := zG_mk (zG_t4 (List.mem_of_getElem? (i := 61) rfl)) rfl
theorem gw_4_63 : (Cond.instanceMethod ⟨"WingDoorModel", "here", "()I"⟩) ∈ zG := zG_mk (zG_t4 (List.mem_of_getElem? (i := 63) rfl)) rfl
theorem gw_4_64 : (Cond.code ⟨"WingDoorModel", "here", "()I"⟩ prog_14_method_9_code 1 (some .int)) ∈ zG := zG_mk (zG_t4 (List.mem_of_getElem? (i := 64) rfl)) rfl
theorem gw_4_65 : (Cond.methodLink "WingDoorModel" 83 ⟨"WingDoorModel", "isFigure", "()Z"⟩) ∈ zG := zG_mk (zG_t4 (List.mem_of_getElem? (i := 65) rfl)) rfl
theorem gw_4_67 : (Cond.instanceMethod ⟨"WingDoorModel", "isFigure", "()Z"⟩) ∈ zG := zG_mk (zG_t4 (List.mem_of_getElem? (i := 67) rfl)) rfl
theorem gw_4_68 : (Cond.code ⟨"WingDoorModel", "isFigure", "()Z"⟩ prog_14_method_10_code 1 (some .boolean)) ∈ zG := zG_mk (zG_t4 (List.mem_of_getElem? (i := 68) rfl)) rfl
theorem gw_4_69 : (Cond.constantLong "WingDoorModel" 70 48) ∈ zG := zG_mk (zG_t4 (List.mem_of_getElem? (i := 69) rfl)) rfl
theorem gw_4_70 : (Cond.constantLong "WingDoorModel" 72 57) ∈ zG := zG_mk (zG_t4 (List.mem_of_getElem? (i := 70) rfl)) rfl
theorem gw_4_71 : (Cond.methodLink "WingDoorModel" 87 ⟨"WingDoorModel", "readsFigures", "()V"⟩) ∈ zG := zG_mk (zG_t4 (List.mem_of_getElem? (i := 71) rfl)) rfl
theorem gw_4_73 : (Cond.instanceMethod ⟨"WingDoorModel", "readsFigures", "()V"⟩) ∈ zG := zG_mk (zG_t4 (List.mem_of_getElem? (i := 73) rfl)) rfl
theorem gw_4_74 : (Cond.code ⟨"WingDoorModel", "readsFigures", "()V"⟩ prog_14_method_12_code 2 none) ∈ zG := zG_mk (zG_t4 (List.mem_of_getElem? (i := 74) rfl)) rfl
theorem gw_4_75 : (Cond.methodLink "WingDoorModel" 118 ⟨"WingDoorModel", "isItem", "(I)Z"⟩) ∈ zG := zG_mk (zG_t4 (List.mem_of_getElem? (i := 75) rfl)) rfl
theorem gw_4_77 : (Cond.instanceMethod ⟨"WingDoorModel", "isItem", "(I)Z"⟩) ∈ zG := zG_mk (zG_t4 (List.mem_of_getElem? (i := 77) rfl)) rfl
theorem gw_4_78 : (Cond.code ⟨"WingDoorModel", "isItem", "(I)Z"⟩ prog_14_method_17_code 2 (some .boolean)) ∈ zG := zG_mk (zG_t4 (List.mem_of_getElem? (i := 78) rfl)) rfl
theorem gw_4_79 : (Cond.methodLink "WingDoorModel" 109 ⟨"WingDoorModel", "isRooms", "()Z"⟩) ∈ zG := zG_mk (zG_t4 (List.mem_of_getElem? (i := 79) rfl)) rfl
theorem gw_4_81 : (Cond.instanceMethod ⟨"WingDoorModel", "isRooms", "()Z"⟩) ∈ zG := zG_mk (zG_t4 (List.mem_of_getElem? (i := 81) rfl)) rfl
theorem gw_4_82 : (Cond.code ⟨"WingDoorModel", "isRooms", "()Z"⟩ prog_14_method_14_code 1 (some .boolean)) ∈ zG := zG_mk (zG_t4 (List.mem_of_getElem? (i := 82) rfl)) rfl
theorem gw_4_83 : (Cond.methodLink "WingDoorModel" 93 ⟨"WingDoorModel", "number", "(II)Z"⟩) ∈ zG := zG_mk (zG_t4 (List.mem_of_getElem? (i := 83) rfl)) rfl
theorem gw_4_85 : (Cond.instanceMethod ⟨"WingDoorModel", "number", "(II)Z"⟩) ∈ zG := zG_mk (zG_t4 (List.mem_of_getElem? (i := 85) rfl)) rfl
theorem gw_4_86 : (Cond.code ⟨"WingDoorModel", "number", "(II)Z"⟩ prog_14_method_13_code 3 (some .boolean)) ∈ zG := zG_mk (zG_t4 (List.mem_of_getElem? (i := 86) rfl)) rfl
theorem gw_4_87 : (Cond.methodLink "WingDoorModel" 112 ⟨"WingDoorModel", "isHard", "()Z"⟩) ∈ zG := zG_mk (zG_t4 (List.mem_of_getElem? (i := 87) rfl)) rfl
theorem gw_4_89 : (Cond.instanceMethod ⟨"WingDoorModel", "isHard", "()Z"⟩) ∈ zG := zG_mk (zG_t4 (List.mem_of_getElem? (i := 89) rfl)) rfl
theorem gw_4_90 : (Cond.code ⟨"WingDoorModel", "isHard", "()Z"⟩ prog_14_method_15_code 1 (some .boolean)) ∈ zG := zG_mk (zG_t4 (List.mem_of_getElem? (i := 90) rfl)) rfl
theorem gw_4_91 : (Cond.methodLink "WingDoorModel" 115 ⟨"WingDoorModel", "isSort", "()Z"⟩) ∈ zG := zG_mk (zG_t4 (List.mem_of_getElem? (i := 91) rfl)) rfl
theorem gw_4_93 : (Cond.instanceMethod ⟨"WingDoorModel", "isSort", "()Z"⟩) ∈ zG := zG_mk (zG_t4 (List.mem_of_getElem? (i := 93) rfl)) rfl
theorem gw_4_94 : (Cond.code ⟨"WingDoorModel", "isSort", "()Z"⟩ prog_14_method_16_code 1 (some .boolean)) ∈ zG := zG_mk (zG_t4 (List.mem_of_getElem? (i := 94) rfl)) rfl
theorem gw_4_95 : (Cond.methodLink "WingDoorModel" 128 ⟨"WingDoorModel", "copies", "([II[III)V"⟩) ∈ zG := zG_mk (zG_t4 (List.mem_of_getElem? (i := 95) rfl)) rfl
theorem gw_4_96 : (Cond.static ⟨"WingDoorModel", "copies", "([II[III)V"⟩) ∈ zG := zG_mk (zG_t4 (List.mem_of_getElem? (i := 96) rfl)) rfl
theorem gw_4_97 : (Cond.code ⟨"WingDoorModel", "copies", "([II[III)V"⟩ prog_14_method_6_code 6 none) ∈ zG := zG_mk (zG_t4 (List.mem_of_getElem? (i := 97) rfl)) rfl
theorem gw_4_98 : (Cond.methodLink "WingDoorLaw" 31 ⟨"WingDoorModel", "sort", "(II)I"⟩) ∈ zG := zG_mk (zG_t4 (List.mem_of_getElem? (i := 98) rfl)) rfl
theorem gw_4_99 : (Cond.instanceMethod ⟨"WingDoorModel", "sort", "(II)I"⟩) ∈ zG := zG_mk (zG_t4 (List.mem_of_getElem? (i := 99) rfl)) rfl
theorem gw_4_100 : (Cond.selects "WingDoorModel" ⟨"WingDoorModel", "sort", "(II)I"⟩ ⟨"WingDoorModel", "sort", "(II)I"⟩) ∈ zG := zG_mk (zG_t4 (List.mem_of_getElem? (i := 100) rfl)) rfl
theorem gw_4_101 : (Cond.code ⟨"WingDoorModel", "sort", "(II)I"⟩ prog_14_method_39_code 5 (some .int)) ∈ zG := zG_mk (zG_t4 (List.mem_of_getElem? (i := 101) rfl)) rfl
theorem gw_4_102 : (Cond.methodLink "WingDoorLaw" 35 ⟨"WingDoorModel", "goer", "(II)I"⟩) ∈ zG := zG_mk (zG_t4 (List.mem_of_getElem? (i := 102) rfl)) rfl
theorem gw_4_103 : (Cond.instanceMethod ⟨"WingDoorModel", "goer", "(II)I"⟩) ∈ zG := zG_mk (zG_t4 (List.mem_of_getElem? (i := 103) rfl)) rfl
theorem gw_4_104 : (Cond.selects "WingDoorModel" ⟨"WingDoorModel", "goer", "(II)I"⟩ ⟨"WingDoorModel", "goer", "(II)I"⟩) ∈ zG := zG_mk (zG_t4 (List.mem_of_getElem? (i := 104) rfl)) rfl
theorem gw_4_105 : (Cond.code ⟨"WingDoorModel", "goer", "(II)I"⟩ prog_14_method_40_code 3 (some .int)) ∈ zG := zG_mk (zG_t4 (List.mem_of_getElem? (i := 105) rfl)) rfl
theorem gw_4_106 : (Cond.methodLink "WingDoorModel" 188 ⟨"WingDoorModel", "isGoer", "(I)Z"⟩) ∈ zG := zG_mk (zG_t4 (List.mem_of_getElem? (i := 106) rfl)) rfl
theorem gw_4_108 : (Cond.instanceMethod ⟨"WingDoorModel", "isGoer", "(I)Z"⟩) ∈ zG := zG_mk (zG_t4 (List.mem_of_getElem? (i := 108) rfl)) rfl
theorem gw_4_109 : (Cond.code ⟨"WingDoorModel", "isGoer", "(I)Z"⟩ prog_14_method_21_code 2 (some .boolean)) ∈ zG := zG_mk (zG_t4 (List.mem_of_getElem? (i := 109) rfl)) rfl
theorem gw_4_110 : (Cond.methodLink "WingDoorModel" 191 ⟨"WingDoorModel", "aheadOf", "([II)I"⟩) ∈ zG := zG_mk (zG_t4 (List.mem_of_getElem? (i := 110) rfl)) rfl
theorem gw_4_111 : (Cond.static ⟨"WingDoorModel", "aheadOf", "([II)I"⟩) ∈ zG := zG_mk (zG_t4 (List.mem_of_getElem? (i := 111) rfl)) rfl
theorem gw_4_112 : (Cond.code ⟨"WingDoorModel", "aheadOf", "([II)I"⟩ prog_14_method_33_code 4 (some .int)) ∈ zG := zG_mk (zG_t4 (List.mem_of_getElem? (i := 112) rfl)) rfl
theorem gw_4_113 : (Cond.methodLink "WingDoorModel" 194 ⟨"WingDoorModel", "when", "(I)I"⟩) ∈ zG := zG_mk (zG_t4 (List.mem_of_getElem? (i := 113) rfl)) rfl
theorem gw_4_115 : (Cond.instanceMethod ⟨"WingDoorModel", "when", "(I)I"⟩) ∈ zG := zG_mk (zG_t4 (List.mem_of_getElem? (i := 115) rfl)) rfl
theorem gw_4_116 : (Cond.code ⟨"WingDoorModel", "when", "(I)I"⟩ prog_14_method_36_code 3 (some .int)) ∈ zG := zG_mk (zG_t4 (List.mem_of_getElem? (i := 116) rfl)) rfl
theorem gw_4_117 : (Cond.methodLink "WingDoorModel" 182 ⟨"WingDoorModel", "layAside", "()V"⟩) ∈ zG := zG_mk (zG_t4 (List.mem_of_getElem? (i := 117) rfl)) rfl
theorem gw_4_119 : (Cond.instanceMethod ⟨"WingDoorModel", "layAside", "()V"⟩) ∈ zG := zG_mk (zG_t4 (List.mem_of_getElem? (i := 119) rfl)) rfl
theorem gw_4_120 : (Cond.code ⟨"WingDoorModel", "layAside", "()V"⟩ prog_14_method_34_code 1 none) ∈ zG := zG_mk (zG_t4 (List.mem_of_getElem? (i := 120) rfl)) rfl
theorem gw_4_121 : (Cond.methodLink "WingDoorModel" 185 ⟨"WingDoorModel", "whenAside", "(I)I"⟩) ∈ zG := zG_mk (zG_t4 (List.mem_of_getElem? (i := 121) rfl)) rfl
theorem gw_4_123 : (Cond.instanceMethod ⟨"WingDoorModel", "whenAside", "(I)I"⟩) ∈ zG := zG_mk (zG_t4 (List.mem_of_getElem? (i := 123) rfl)) rfl
theorem gw_4_124 : (Cond.code ⟨"WingDoorModel", "whenAside", "(I)I"⟩ prog_14_method_35_code 4 (some .int)) ∈ zG := zG_mk (zG_t4 (List.mem_of_getElem? (i := 124) rfl)) rfl
theorem gw_4_125 : (Cond.methodLink "WingDoorModel" 179 ⟨"WingDoorModel", "goes", "([I)I"⟩) ∈ zG := zG_mk (zG_t4 (List.mem_of_getElem? (i := 125) rfl)) rfl
theorem gw_4_127 : (Cond.instanceMethod ⟨"WingDoorModel", "goes", "([I)I"⟩) ∈ zG := zG_mk (zG_t4 (List.mem_of_getElem? (i := 127) rfl)) rfl
theorem gw_4_128 : (Cond.code ⟨"WingDoorModel", "goes", "([I)I"⟩ prog_14_method_32_code 5 (some .int)) ∈ zG := zG_mk (zG_t4 (List.mem_of_getElem? (i := 128) rfl)) rfl
theorem gw_4_129 : (Cond.methodLink "WingDoorModel" 171 ⟨"WingDoorModel", "sticksOn", "([I)Z"⟩) ∈ zG := zG_mk (zG_t4 (List.mem_of_getElem? (i := 129) rfl)) rfl
theorem gw_4_131 : (Cond.instanceMethod ⟨"WingDoorModel", "sticksOn", "([I)Z"⟩) ∈ zG := zG_mk (zG_t4 (List.mem_of_getElem? (i := 131) rfl)) rfl
theorem gw_4_132 : (Cond.code ⟨"WingDoorModel", "sticksOn", "([I)Z"⟩ prog_14_method_31_code 2 (some .boolean)) ∈ zG := zG_mk (zG_t4 (List.mem_of_getElem? (i := 132) rfl)) rfl
theorem gw_4_133 : (Cond.methodLink "WingDoorModel" 158 ⟨"WingDoorModel", "those", "([II)I"⟩) ∈ zG := zG_mk (zG_t4 (List.mem_of_getElem? (i := 133) rfl)) rfl
theorem gw_4_134 : (Cond.static ⟨"WingDoorModel", "those", "([II)I"⟩) ∈ zG := zG_mk (zG_t4 (List.mem_of_getElem? (i := 134) rfl)) rfl
theorem gw_4_135 : (Cond.code ⟨"WingDoorModel", "those", "([II)I"⟩ prog_14_method_23_code 4 (some .int)) ∈ zG := zG_mk (zG_t4 (List.mem_of_getElem? (i := 135) rfl)) rfl
theorem gw_4_136 : (Cond.methodLink "WingDoorModel" 164 ⟨"WingDoorModel", "loadOn", "([I)I"⟩) ∈ zG := zG_mk (zG_t4 (List.mem_of_getElem? (i := 136) rfl)) rfl
theorem gw_4_138 : (Cond.instanceMethod ⟨"WingDoorModel", "loadOn", "([I)I"⟩) ∈ zG := zG_mk (zG_t4 (List.mem_of_getElem? (i := 138) rfl)) rfl
theorem gw_4_139 : (Cond.code ⟨"WingDoorModel", "loadOn", "([I)I"⟩ prog_14_method_29_code 4 (some .int)) ∈ zG := zG_mk (zG_t4 (List.mem_of_getElem? (i := 139) rfl)) rfl
theorem gw_4_140 : (Cond.methodLink "WingDoorModel" 168 ⟨"WingDoorModel", "dragOn", "([I)I"⟩) ∈ zG := zG_mk (zG_t4 (List.mem_of_getElem? (i := 140) rfl)) rfl
theorem gw_4_142 : (Cond.instanceMethod ⟨"WingDoorModel", "dragOn", "([I)I"⟩) ∈ zG := zG_mk (zG_t4 (List.mem_of_getElem? (i := 142) rfl)) rfl
theorem gw_4_143 : (Cond.code ⟨"WingDoorModel", "dragOn", "([I)I"⟩ prog_14_method_30_code 2 (some .int)) ∈ zG := zG_mk (zG_t4 (List.mem_of_getElem? (i := 143) rfl)) rfl
theorem gw_4_144 : (Cond.methodLink "WingDoorModel" 161 ⟨"WingDoorModel", "bits", "(I)I"⟩) ∈ zG := zG_mk (zG_t4 (List.mem_of_getElem? (i := 144) rfl)) rfl
theorem gw_4_145 : (Cond.static ⟨"WingDoorModel", "bits", "(I)I"⟩) ∈ zG := zG_mk (zG_t4 (List.mem_of_getElem? (i := 145) rfl)) rfl
theorem gw_4_146 : (Cond.code ⟨"WingDoorModel", "bits", "(I)I"⟩ prog_14_method_5_code 3 (some .int)) ∈ zG := zG_mk (zG_t4 (List.mem_of_getElem? (i := 146) rfl)) rfl
theorem gw_4_147 : (Cond.methodLink "WingDoorModel" 151 ⟨"WingDoorModel", "placeOf", "(I)I"⟩) ∈ zG := zG_mk (zG_t4 (List.mem_of_getElem? (i := 147) rfl)) rfl
theorem gw_4_149 : (Cond.instanceMethod ⟨"WingDoorModel", "placeOf", "(I)I"⟩) ∈ zG := zG_mk (zG_t4 (List.mem_of_getElem? (i := 149) rfl)) rfl
theorem gw_4_150 : (Cond.code ⟨"WingDoorModel", "placeOf", "(I)I"⟩ prog_14_method_27_code 2 (some .int)) ∈ zG := zG_mk (zG_t4 (List.mem_of_getElem? (i := 150) rfl)) rfl
theorem gw_4_151 : (Cond.methodLink "WingDoorModel" 175 ⟨"WingDoorModel", "fills", "([I)V"⟩) ∈ zG := zG_mk (zG_t4 (List.mem_of_getElem? (i := 151) rfl)) rfl
theorem gw_4_153 : (Cond.instanceMethod ⟨"WingDoorModel", "fills", "([I)V"⟩) ∈ zG := zG_mk (zG_t4 (List.mem_of_getElem? (i := 153) rfl)) rfl
theorem gw_4_154 : (Cond.code ⟨"WingDoorModel", "fills", "([I)V"⟩ prog_14_method_28_code 4 none) ∈ zG := zG_mk (zG_t4 (List.mem_of_getElem? (i := 154) rfl)) rfl
theorem gw_4_155 : (Cond.methodLink "WingDoorModel" 148 ⟨"WingDoorModel", "firstOn", "([II)I"⟩) ∈ zG := zG_mk (zG_t4 (List.mem_of_getElem? (i := 155) rfl)) rfl
theorem gw_4_156 : (Cond.static ⟨"WingDoorModel", "firstOn", "([II)I"⟩) ∈ zG := zG_mk (zG_t4 (List.mem_of_getElem? (i := 156) rfl)) rfl
theorem gw_4_157 : (Cond.code ⟨"WingDoorModel", "firstOn", "([II)I"⟩ prog_14_method_26_code 5 (some .int)) ∈ zG := zG_mk (zG_t4 (List.mem_of_getElem? (i := 157) rfl)) rfl
theorem gw_4_158 : (Cond.methodLink "WingDoorModel" 155 ⟨"WingDoorModel", "bulkIn", "([II)I"⟩) ∈ zG := zG_mk (zG_t4 (List.mem_of_getElem? (i := 158) rfl)) rfl
theorem gw_4_160 : (Cond.instanceMethod ⟨"WingDoorModel", "bulkIn", "([II)I"⟩) ∈ zG := zG_mk (zG_t4 (List.mem_of_getElem? (i := 160) rfl)) rfl
theorem gw_4_161 : (Cond.code ⟨"WingDoorModel", "bulkIn", "([II)I"⟩ prog_14_method_25_code 5 (some .int)) ∈ zG := zG_mk (zG_t4 (List.mem_of_getElem? (i := 161) rfl)) rfl
theorem gw_4_162 : (Cond.methodLink "WingDoorModel" 138 ⟨"WingDoorModel", "inRoom", "([II)I"⟩) ∈ zG := zG_mk (zG_t4 (List.mem_of_getElem? (i := 162) rfl)) rfl
theorem gw_4_163 : (Cond.static ⟨"WingDoorModel", "inRoom", "([II)I"⟩) ∈ zG := zG_mk (zG_t4 (List.mem_of_getElem? (i := 163) rfl)) rfl
theorem gw_4_164 : (Cond.code ⟨"WingDoorModel", "inRoom", "([II)I"⟩ prog_14_method_24_code 4 (some .int)) ∈ zG := zG_mk (zG_t4 (List.mem_of_getElem? (i := 164) rfl)) rfl
theorem gw_4_165 : (Cond.methodLink "WingDoorModel" 142 ⟨"WingDoorModel", "has", "(II)Z"⟩) ∈ zG := zG_mk (zG_t4 (List.mem_of_getElem? (i := 165) rfl)) rfl
theorem gw_4_166 : (Cond.static ⟨"WingDoorModel", "has", "(II)Z"⟩) ∈ zG := zG_mk (zG_t4 (List.mem_of_getElem? (i := 166) rfl)) rfl
theorem gw_4_167 : (Cond.code ⟨"WingDoorModel", "has", "(II)Z"⟩ prog_14_method_4_code 2 (some .boolean)) ∈ zG := zG_mk (zG_t4 (List.mem_of_getElem? (i := 167) rfl)) rfl
theorem gw_4_168 : (Cond.methodLink "WingDoorModel" 145 ⟨"WingDoorModel", "bulkOf", "([II)I"⟩) ∈ zG := zG_mk (zG_t4 (List.mem_of_getElem? (i := 168) rfl)) rfl
theorem gw_4_170 : (Cond.instanceMethod ⟨"WingDoorModel", "bulkOf", "([II)I"⟩) ∈ zG := zG_mk (zG_t4 (List.mem_of_getElem? (i := 170) rfl)) rfl
theorem gw_4_171 : (Cond.code ⟨"WingDoorModel", "bulkOf", "([II)I"⟩ prog_14_method_22_code 3 (some .int)) ∈ zG := zG_mk (zG_t4 (List.mem_of_getElem? (i := 171) rfl)) rfl
theorem gw_4_172 : (Cond.methodLink "WingDoorLaw" 39 ⟨"WingDoorModel", "room", "(II)I"⟩) ∈ zG := zG_mk (zG_t4 (List.mem_of_getElem? (i := 172) rfl)) rfl
theorem gw_4_173 : (Cond.instanceMethod ⟨"WingDoorModel", "room", "(II)I"⟩) ∈ zG := zG_mk (zG_t4 (List.mem_of_getElem? (i := 173) rfl)) rfl
theorem gw_4_174 : (Cond.selects "WingDoorModel" ⟨"WingDoorModel", "room", "(II)I"⟩ ⟨"WingDoorModel", "room", "(II)I"⟩) ∈ zG := zG_mk (zG_t4 (List.mem_of_getElem? (i := 174) rfl)) rfl
theorem gw_4_175 : (Cond.code ⟨"WingDoorModel", "room", "(II)I"⟩ prog_14_method_41_code 3 (some .int)) ∈ zG := zG_mk (zG_t4 (List.mem_of_getElem? (i := 175) rfl)) rfl
theorem gw_4_176 : (Cond.methodLink "WingDoorModel" 197 ⟨"WingDoorModel", "isBit", "(I)Z"⟩) ∈ zG := zG_mk (zG_t4 (List.mem_of_getElem? (i := 176) rfl)) rfl
theorem gw_4_177 : (Cond.static ⟨"WingDoorModel", "isBit", "(I)Z"⟩) ∈ zG := zG_mk (zG_t4 (List.mem_of_getElem? (i := 177) rfl)) rfl
theorem gw_4_178 : (Cond.code ⟨"WingDoorModel", "isBit", "(I)Z"⟩ prog_14_method_20_code 1 (some .boolean)) ∈ zG := zG_mk (zG_t4 (List.mem_of_getElem? (i := 178) rfl)) rfl
theorem gw_4_179 : (Cond.methodLink "WingDoorLaw" 43 ⟨"WingDoorModel", "now", "(I)I"⟩) ∈ zG := zG_mk (zG_t4 (List.mem_of_getElem? (i := 179) rfl)) rfl
theorem gw_4_180 : (Cond.instanceMethod ⟨"WingDoorModel", "now", "(I)I"⟩) ∈ zG := zG_mk (zG_t4 (List.mem_of_getElem? (i := 180) rfl)) rfl
theorem gw_4_181 : (Cond.selects "WingDoorModel" ⟨"WingDoorModel", "now", "(I)I"⟩ ⟨"WingDoorModel", "now", "(I)I"⟩) ∈ zG := zG_mk (zG_t4 (List.mem_of_getElem? (i := 181) rfl)) rfl
theorem gw_4_182 : (Cond.code ⟨"WingDoorModel", "now", "(I)I"⟩ prog_14_method_42_code 2 (some .int)) ∈ zG := zG_mk (zG_t4 (List.mem_of_getElem? (i := 182) rfl)) rfl
theorem gw_4_183 : (Cond.methodLink "WingDoorModel" 200 ⟨"WingDoorModel", "sticksFirst", "()I"⟩) ∈ zG := zG_mk (zG_t4 (List.mem_of_getElem? (i := 183) rfl)) rfl
theorem gw_4_185 : (Cond.instanceMethod ⟨"WingDoorModel", "sticksFirst", "()I"⟩) ∈ zG := zG_mk (zG_t4 (List.mem_of_getElem? (i := 185) rfl)) rfl
theorem gw_4_186 : (Cond.code ⟨"WingDoorModel", "sticksFirst", "()I"⟩ prog_14_method_37_code 3 (some .int)) ∈ zG := zG_mk (zG_t4 (List.mem_of_getElem? (i := 186) rfl)) rfl
theorem gw_4_187 : (Cond.methodLink "WingDoorModel" 203 ⟨"WingDoorModel", "allOut", "()I"⟩) ∈ zG := zG_mk (zG_t4 (List.mem_of_getElem? (i := 187) rfl)) rfl
theorem gw_4_189 : (Cond.instanceMethod ⟨"WingDoorModel", "allOut", "()I"⟩) ∈ zG := zG_mk (zG_t4 (List.mem_of_getElem? (i := 189) rfl)) rfl
theorem gw_4_190 : (Cond.code ⟨"WingDoorModel", "allOut", "()I"⟩ prog_14_method_38_code 3 (some .int)) ∈ zG := zG_mk (zG_t4 (List.mem_of_getElem? (i := 190) rfl)) rfl
theorem gw_4_191 : (Cond.methodLink "WingDoorLaw" 47 ⟨"WingDoorModel", "comes", "(II)I"⟩) ∈ zG := zG_mk (zG_t4 (List.mem_of_getElem? (i := 191) rfl)) rfl
theorem gw_4_192 : (Cond.instanceMethod ⟨"WingDoorModel", "comes", "(II)I"⟩) ∈ zG := zG_mk (zG_t4 (List.mem_of_getElem? (i := 192) rfl)) rfl
theorem gw_4_193 : (Cond.selects "WingDoorModel" ⟨"WingDoorModel", "comes", "(II)I"⟩ ⟨"WingDoorModel", "comes", "(II)I"⟩) ∈ zG := zG_mk (zG_t4 (List.mem_of_getElem? (i := 193) rfl)) rfl
theorem gw_4_194 : (Cond.code ⟨"WingDoorModel", "comes", "(II)I"⟩ prog_14_method_44_code 6 (some .int)) ∈ zG := zG_mk (zG_t4 (List.mem_of_getElem? (i := 194) rfl)) rfl
theorem gw_4_195 : (Cond.methodLink "WingDoorModel" 206 ⟨"WingDoorModel", "notes", "()V"⟩) ∈ zG := zG_mk (zG_t4 (List.mem_of_getElem? (i := 195) rfl)) rfl
theorem gw_4_197 : (Cond.instanceMethod ⟨"WingDoorModel", "notes", "()V"⟩) ∈ zG := zG_mk (zG_t4 (List.mem_of_getElem? (i := 197) rfl)) rfl
theorem gw_4_198 : (Cond.code ⟨"WingDoorModel", "notes", "()V"⟩ prog_14_method_43_code 2 none) ∈ zG := zG_mk (zG_t4 (List.mem_of_getElem? (i := 198) rfl)) rfl
theorem gw_4_199 : (Cond.methodLink "WingDoorLaw" 51 ⟨"WingDoorModel", "steps", "()I"⟩) ∈ zG := zG_mk (zG_t4 (List.mem_of_getElem? (i := 199) rfl)) rfl
theorem gw_4_200 : (Cond.instanceMethod ⟨"WingDoorModel", "steps", "()I"⟩) ∈ zG := zG_mk (zG_t4 (List.mem_of_getElem? (i := 200) rfl)) rfl
theorem gw_4_201 : (Cond.selects "WingDoorModel" ⟨"WingDoorModel", "steps", "()I"⟩ ⟨"WingDoorModel", "steps", "()I"⟩) ∈ zG := zG_mk (zG_t4 (List.mem_of_getElem? (i := 201) rfl)) rfl
theorem gw_4_202 : (Cond.code ⟨"WingDoorModel", "steps", "()I"⟩ prog_14_method_45_code 1 (some .int)) ∈ zG := zG_mk (zG_t4 (List.mem_of_getElem? (i := 202) rfl)) rfl
theorem gw_4_203 : (Cond.methodLink "WingDoorLaw" 55 ⟨"WingDoorModel", "leaves", "(I)I"⟩) ∈ zG := zG_mk (zG_t4 (List.mem_of_getElem? (i := 203) rfl)) rfl
theorem gw_4_204 : (Cond.instanceMethod ⟨"WingDoorModel", "leaves", "(I)I"⟩) ∈ zG := zG_mk (zG_t4 (List.mem_of_getElem? (i := 204) rfl)) rfl
theorem gw_4_205 : (Cond.selects "WingDoorModel" ⟨"WingDoorModel", "leaves", "(I)I"⟩ ⟨"WingDoorModel", "leaves", "(I)I"⟩) ∈ zG := zG_mk (zG_t4 (List.mem_of_getElem? (i := 205) rfl)) rfl
theorem gw_4_206 : (Cond.code ⟨"WingDoorModel", "leaves", "(I)I"⟩ prog_14_method_47_code 2 (some .int)) ∈ zG := zG_mk (zG_t4 (List.mem_of_getElem? (i := 206) rfl)) rfl
theorem gw_4_207 : (Cond.methodLink "WingDoorModel" 209 ⟨"WingDoorModel", "leavesOn", "([II)V"⟩) ∈ zG := zG_mk (zG_t4 (List.mem_of_getElem? (i := 207) rfl)) rfl
theorem gw_4_208 : (Cond.static ⟨"WingDoorModel", "leavesOn", "([II)V"⟩) ∈ zG := zG_mk (zG_t4 (List.mem_of_getElem? (i := 208) rfl)) rfl
theorem gw_4_209 : (Cond.code ⟨"WingDoorModel", "leavesOn", "([II)V"⟩ prog_14_method_46_code 2 none) ∈ zG := zG_mk (zG_t4 (List.mem_of_getElem? (i := 209) rfl)) rfl
theorem gw_4_210 : (Cond.methodLink "WingDoorLaw" 59 ⟨"WingDoorModel", "lets", "(I)I"⟩) ∈ zG := zG_mk (zG_t4 (List.mem_of_getElem? (i := 210) rfl)) rfl
theorem gw_4_211 : (Cond.instanceMethod ⟨"WingDoorModel", "lets", "(I)I"⟩) ∈ zG := zG_mk (zG_t4 (List.mem_of_getElem? (i := 211) rfl)) rfl
theorem gw_4_212 : (Cond.selects "WingDoorModel" ⟨"WingDoorModel", "lets", "(I)I"⟩ ⟨"WingDoorModel", "lets", "(I)I"⟩) ∈ zG := zG_mk (zG_t4 (List.mem_of_getElem? (i := 212) rfl)) rfl
theorem gw_4_213 : (Cond.code ⟨"WingDoorModel", "lets", "(I)I"⟩ prog_14_method_49_code 3 (some .int)) ∈ zG := zG_mk (zG_t4 (List.mem_of_getElem? (i := 213) rfl)) rfl
theorem gw_4_214 : (Cond.methodLink "WingDoorModel" 213 ⟨"WingDoorModel", "letsOn", "([II)V"⟩) ∈ zG := zG_mk (zG_t4 (List.mem_of_getElem? (i := 214) rfl)) rfl
theorem gw_4_215 : (Cond.static ⟨"WingDoorModel", "letsOn", "([II)V"⟩) ∈ zG := zG_mk (zG_t4 (List.mem_of_getElem? (i := 215) rfl)) rfl
theorem gw_4_216 : (Cond.code ⟨"WingDoorModel", "letsOn", "([II)V"⟩ prog_14_method_48_code 2 none) ∈ zG := zG_mk (zG_t4 (List.mem_of_getElem? (i := 216) rfl)) rfl
theorem gw_4_217 : (Cond.methodLink "WingDoorLaw" 63 ⟨"WingDoorModel", "undo", "()I"⟩) ∈ zG := zG_mk (zG_t4 (List.mem_of_getElem? (i := 217) rfl)) rfl
theorem gw_4_218 : (Cond.instanceMethod ⟨"WingDoorModel", "undo", "()I"⟩) ∈ zG := zG_mk (zG_t4 (List.mem_of_getElem? (i := 218) rfl)) rfl
theorem gw_4_219 : (Cond.selects "WingDoorModel" ⟨"WingDoorModel", "undo", "()I"⟩ ⟨"WingDoorModel", "undo", "()I"⟩) ∈ zG := zG_mk (zG_t4 (List.mem_of_getElem? (i := 219) rfl)) rfl
theorem gw_4_220 : (Cond.code ⟨"WingDoorModel", "undo", "()I"⟩ prog_14_method_50_code 1 (some .int)) ∈ zG := zG_mk (zG_t4 (List.mem_of_getElem? (i := 220) rfl)) rfl
theorem gw_4_221 : (Cond.methodLink "WingDoorLaw" 67 ⟨"WingDoorModel", "spare", "(I)I"⟩) ∈ zG := zG_mk (zG_t4 (List.mem_of_getElem? (i := 221) rfl)) rfl
theorem gw_4_222 : (Cond.instanceMethod ⟨"WingDoorModel", "spare", "(I)I"⟩) ∈ zG := zG_mk (zG_t4 (List.mem_of_getElem? (i := 222) rfl)) rfl
theorem gw_4_223 : (Cond.selects "WingDoorModel" ⟨"WingDoorModel", "spare", "(I)I"⟩ ⟨"WingDoorModel", "spare", "(I)I"⟩) ∈ zG := zG_mk (zG_t4 (List.mem_of_getElem? (i := 223) rfl)) rfl
theorem gw_4_224 : (Cond.code ⟨"WingDoorModel", "spare", "(I)I"⟩ prog_14_method_52_code 2 (some .int)) ∈ zG := zG_mk (zG_t4 (List.mem_of_getElem? (i := 224) rfl)) rfl
theorem gw_4_225 : (Cond.methodLink "WingDoorModel" 216 ⟨"WingDoorModel", "best", "(IZ)I"⟩) ∈ zG := zG_mk (zG_t4 (List.mem_of_getElem? (i := 225) rfl)) rfl
theorem gw_4_227 : (Cond.instanceMethod ⟨"WingDoorModel", "best", "(IZ)I"⟩) ∈ zG := zG_mk (zG_t4 (List.mem_of_getElem? (i := 227) rfl)) rfl
theorem gw_4_228 : (Cond.code ⟨"WingDoorModel", "best", "(IZ)I"⟩ prog_14_method_51_code 7 (some .int)) ∈ zG := zG_mk (zG_t4 (List.mem_of_getElem? (i := 228) rfl)) rfl
theorem gw_4_229 : (Cond.methodLink "WingDoorLaw" 71 ⟨"WingDoorModel", "ahead", "(I)I"⟩) ∈ zG := zG_mk (zG_t4 (List.mem_of_getElem? (i := 229) rfl)) rfl
theorem gw_4_230 : (Cond.instanceMethod ⟨"WingDoorModel", "ahead", "(I)I"⟩) ∈ zG := zG_mk (zG_t4 (List.mem_of_getElem? (i := 230) rfl)) rfl
theorem gw_4_231 : (Cond.selects "WingDoorModel" ⟨"WingDoorModel", "ahead", "(I)I"⟩ ⟨"WingDoorModel", "ahead", "(I)I"⟩) ∈ zG := zG_mk (zG_t4 (List.mem_of_getElem? (i := 231) rfl)) rfl
theorem gw_4_232 : (Cond.code ⟨"WingDoorModel", "ahead", "(I)I"⟩ prog_14_method_53_code 2 (some .int)) ∈ zG := zG_mk (zG_t4 (List.mem_of_getElem? (i := 232) rfl)) rfl
theorem gw_4_233 : (Cond.methodLink "WingDoorLaw" 75 ⟨"WingDoorModel", "odds", "(II)I"⟩) ∈ zG := zG_mk (zG_t4 (List.mem_of_getElem? (i := 233) rfl)) rfl
theorem gw_4_234 : (Cond.instanceMethod ⟨"WingDoorModel", "odds", "(II)I"⟩) ∈ zG := zG_mk (zG_t4 (List.mem_of_getElem? (i := 234) rfl)) rfl
theorem gw_4_235 : (Cond.selects "WingDoorModel" ⟨"WingDoorModel", "odds", "(II)I"⟩ ⟨"WingDoorModel", "odds", "(II)I"⟩) ∈ zG := zG_mk (zG_t4 (List.mem_of_getElem? (i := 235) rfl)) rfl
theorem gw_4_236 : (Cond.code ⟨"WingDoorModel", "odds", "(II)I"⟩ prog_14_method_55_code 16 (some .int)) ∈ zG := zG_mk (zG_t4 (List.mem_of_getElem? (i := 236) rfl)) rfl
theorem gw_4_237 : (Cond.constantLong "WingDoorModel" 220 10) ∈ zG := zG_mk (zG_t4 (List.mem_of_getElem? (i := 237) rfl)) rfl
theorem gw_4_238 : (Cond.methodLink "WingDoorModel" 222 ⟨"WingDoorModel", "power", "(JI)J"⟩) ∈ zG := zG_mk (zG_t4 (List.mem_of_getElem? (i := 238) rfl)) rfl
theorem gw_4_239 : (Cond.static ⟨"WingDoorModel", "power", "(JI)J"⟩) ∈ zG := zG_mk (zG_t4 (List.mem_of_getElem? (i := 239) rfl)) rfl
theorem gw_5_0 : (Cond.code ⟨"WingDoorModel", "power", "(JI)J"⟩ prog_14_method_54_code 6 (some .long)) ∈ zG := zG_mk (zG_t5 (List.mem_of_getElem? (i := 0) rfl)) rfl
theorem gw_5_1 : (Cond.methodLink "WingDoorLaw" 80 ⟨"WingDoorModel", "sees", "(III)I"⟩) ∈ zG := zG_mk (zG_t5 (List.mem_of_getElem? (i := 1) rfl)) rfl
theorem gw_5_2 : (Cond.instanceMethod ⟨"WingDoorModel", "sees", "(III)I"⟩) ∈ zG := zG_mk (zG_t5 (List.mem_of_getElem? (i := 2) rfl)) rfl
theorem gw_5_3 : (Cond.selects "WingDoorModel" ⟨"WingDoorModel", "sees", "(III)I"⟩ ⟨"WingDoorModel", "sees", "(III)I"⟩) ∈ zG := zG_mk (zG_t5 (List.mem_of_getElem? (i := 3) rfl)) rfl
theorem gw_5_4 : (Cond.code ⟨"WingDoorModel", "sees", "(III)I"⟩ prog_14_method_56_code 4 (some .int)) ∈ zG := zG_mk (zG_t5 (List.mem_of_getElem? (i := 4) rfl)) rfl
theorem gw_5_5 : (Cond.constantLong "WingDoorModel" 226 5) ∈ zG := zG_mk (zG_t5 (List.mem_of_getElem? (i := 5) rfl)) rfl
theorem gw_5_6 : (Cond.constantLong "WingDoorModel" 228 9) ∈ zG := zG_mk (zG_t5 (List.mem_of_getElem? (i := 6) rfl)) rfl
theorem gw_5_7 : (Cond.methodLink "WingDoorLaw" 84 ⟨"WingDoorModel", "forget", "()I"⟩) ∈ zG := zG_mk (zG_t5 (List.mem_of_getElem? (i := 7) rfl)) rfl
theorem gw_5_8 : (Cond.instanceMethod ⟨"WingDoorModel", "forget", "()I"⟩) ∈ zG := zG_mk (zG_t5 (List.mem_of_getElem? (i := 8) rfl)) rfl
theorem gw_5_9 : (Cond.selects "WingDoorModel" ⟨"WingDoorModel", "forget", "()I"⟩ ⟨"WingDoorModel", "forget", "()I"⟩) ∈ zG := zG_mk (zG_t5 (List.mem_of_getElem? (i := 9) rfl)) rfl
theorem gw_5_10 : (Cond.code ⟨"WingDoorModel", "forget", "()I"⟩ prog_14_method_57_code 2 (some .int)) ∈ zG := zG_mk (zG_t5 (List.mem_of_getElem? (i := 10) rfl)) rfl
theorem gw_5_11 : (Cond.methodLink "WingDoorLaw" 88 ⟨"WingDoorModel", "which", "()I"⟩) ∈ zG := zG_mk (zG_t5 (List.mem_of_getElem? (i := 11) rfl)) rfl
theorem gw_5_12 : (Cond.instanceMethod ⟨"WingDoorModel", "which", "()I"⟩) ∈ zG := zG_mk (zG_t5 (List.mem_of_getElem? (i := 12) rfl)) rfl
theorem gw_5_13 : (Cond.selects "WingDoorModel" ⟨"WingDoorModel", "which", "()I"⟩ ⟨"WingDoorModel", "which", "()I"⟩) ∈ zG := zG_mk (zG_t5 (List.mem_of_getElem? (i := 13) rfl)) rfl
theorem gw_5_14 : (Cond.code ⟨"WingDoorModel", "which", "()I"⟩ prog_14_method_59_code 5 (some .int)) ∈ zG := zG_mk (zG_t5 (List.mem_of_getElem? (i := 14) rfl)) rfl
theorem gw_5_15 : (Cond.methodLink "WingDoorModel" 230 ⟨"WingDoorModel", "of", "(II)I"⟩) ∈ zG := zG_mk (zG_t5 (List.mem_of_getElem? (i := 15) rfl)) rfl
theorem gw_5_17 : (Cond.instanceMethod ⟨"WingDoorModel", "of", "(II)I"⟩) ∈ zG := zG_mk (zG_t5 (List.mem_of_getElem? (i := 17) rfl)) rfl
theorem gw_5_18 : (Cond.code ⟨"WingDoorModel", "of", "(II)I"⟩ prog_14_method_58_code 3 (some .int)) ∈ zG := zG_mk (zG_t5 (List.mem_of_getElem? (i := 18) rfl)) rfl
theorem gw_5_19 : (Cond.methodLink "WingDoorLaw" 92 ⟨"WingDoorModel", "look", "(I)I"⟩) ∈ zG := zG_mk (zG_t5 (List.mem_of_getElem? (i := 19) rfl)) rfl
theorem gw_5_20 : (Cond.instanceMethod ⟨"WingDoorModel", "look", "(I)I"⟩) ∈ zG := zG_mk (zG_t5 (List.mem_of_getElem? (i := 20) rfl)) rfl
theorem gw_5_21 : (Cond.selects "WingDoorModel" ⟨"WingDoorModel", "look", "(I)I"⟩ ⟨"WingDoorModel", "look", "(I)I"⟩) ∈ zG := zG_mk (zG_t5 (List.mem_of_getElem? (i := 21) rfl)) rfl
theorem gw_5_22 : (Cond.code ⟨"WingDoorModel", "look", "(I)I"⟩ prog_14_method_60_code 9 (some .int)) ∈ zG := zG_mk (zG_t5 (List.mem_of_getElem? (i := 22) rfl)) rfl
theorem gw_5_23 : (Cond.methodLink "WingDoorModel" 234 ⟨"WingDoorModel", "which", "()I"⟩) ∈ zG := zG_mk (zG_t5 (List.mem_of_getElem? (i := 23) rfl)) rfl
theorem gw_5_24 : (Cond.methodLink "WingDoorLaw" 96 ⟨"WingDoorModel", "rate", "(II)I"⟩) ∈ zG := zG_mk (zG_t5 (List.mem_of_getElem? (i := 24) rfl)) rfl
theorem gw_5_25 : (Cond.instanceMethod ⟨"WingDoorModel", "rate", "(II)I"⟩) ∈ zG := zG_mk (zG_t5 (List.mem_of_getElem? (i := 25) rfl)) rfl
theorem gw_5_26 : (Cond.selects "WingDoorModel" ⟨"WingDoorModel", "rate", "(II)I"⟩ ⟨"WingDoorModel", "rate", "(II)I"⟩) ∈ zG := zG_mk (zG_t5 (List.mem_of_getElem? (i := 26) rfl)) rfl
theorem gw_5_27 : (Cond.code ⟨"WingDoorModel", "rate", "(II)I"⟩ prog_14_method_64_code 3 (some .int)) ∈ zG := zG_mk (zG_t5 (List.mem_of_getElem? (i := 27) rfl)) rfl
theorem gw_5_28 : (Cond.constant "WingDoorModel" 246 (-1000000)) ∈ zG := zG_mk (zG_t5 (List.mem_of_getElem? (i := 28) rfl)) rfl
theorem gw_5_29 : (Cond.methodLink "WingDoorModel" 241 ⟨"WingDoorModel", "asDoor", "(I)I"⟩) ∈ zG := zG_mk (zG_t5 (List.mem_of_getElem? (i := 29) rfl)) rfl
theorem gw_5_31 : (Cond.instanceMethod ⟨"WingDoorModel", "asDoor", "(I)I"⟩) ∈ zG := zG_mk (zG_t5 (List.mem_of_getElem? (i := 31) rfl)) rfl
theorem gw_5_32 : (Cond.code ⟨"WingDoorModel", "asDoor", "(I)I"⟩ prog_14_method_61_code 2 (some .int)) ∈ zG := zG_mk (zG_t5 (List.mem_of_getElem? (i := 32) rfl)) rfl
theorem gw_5_33 : (Cond.methodLink "WingDoorModel" 247 ⟨"WingDoorModel", "asBank", "(I)I"⟩) ∈ zG := zG_mk (zG_t5 (List.mem_of_getElem? (i := 33) rfl)) rfl
theorem gw_5_35 : (Cond.instanceMethod ⟨"WingDoorModel", "asBank", "(I)I"⟩) ∈ zG := zG_mk (zG_t5 (List.mem_of_getElem? (i := 35) rfl)) rfl
theorem gw_5_36 : (Cond.code ⟨"WingDoorModel", "asBank", "(I)I"⟩ prog_14_method_62_code 2 (some .int)) ∈ zG := zG_mk (zG_t5 (List.mem_of_getElem? (i := 36) rfl)) rfl
theorem gw_5_37 : (Cond.methodLink "WingDoorModel" 250 ⟨"WingDoorModel", "asHotel", "(I)I"⟩) ∈ zG := zG_mk (zG_t5 (List.mem_of_getElem? (i := 37) rfl)) rfl
theorem gw_5_39 : (Cond.instanceMethod ⟨"WingDoorModel", "asHotel", "(I)I"⟩) ∈ zG := zG_mk (zG_t5 (List.mem_of_getElem? (i := 39) rfl)) rfl
theorem gw_5_40 : (Cond.code ⟨"WingDoorModel", "asHotel", "(I)I"⟩ prog_14_method_63_code 2 (some .int)) ∈ zG := zG_mk (zG_t5 (List.mem_of_getElem? (i := 40) rfl)) rfl
theorem gw_5_41 : (Cond.constantLong "WingDoorModel" 244 100) ∈ zG := zG_mk (zG_t5 (List.mem_of_getElem? (i := 41) rfl)) rfl
theorem gw_5_42 : (Cond.constantLong "WingDoorModel" 253 1000) ∈ zG := zG_mk (zG_t5 (List.mem_of_getElem? (i := 42) rfl)) rfl
theorem gw_5_43 : (Cond.constantLong "WingDoorModel" 255 10000) ∈ zG := zG_mk (zG_t5 (List.mem_of_getElem? (i := 43) rfl)) rfl
theorem gw_5_44 : (Cond.constantLong "WingDoorModel" 257 100000) ∈ zG := zG_mk (zG_t5 (List.mem_of_getElem? (i := 44) rfl)) rfl
theorem gw_5_45 : (Cond.methodLink "WingDoorLaw" 100 ⟨"WingDoorModel", "keep", "(I)I"⟩) ∈ zG := zG_mk (zG_t5 (List.mem_of_getElem? (i := 45) rfl)) rfl
theorem gw_5_46 : (Cond.instanceMethod ⟨"WingDoorModel", "keep", "(I)I"⟩) ∈ zG := zG_mk (zG_t5 (List.mem_of_getElem? (i := 46) rfl)) rfl
theorem gw_5_47 : (Cond.selects "WingDoorModel" ⟨"WingDoorModel", "keep", "(I)I"⟩ ⟨"WingDoorModel", "keep", "(I)I"⟩) ∈ zG := zG_mk (zG_t5 (List.mem_of_getElem? (i := 47) rfl)) rfl
theorem gw_5_48 : (Cond.code ⟨"WingDoorModel", "keep", "(I)I"⟩ prog_14_method_65_code 2 (some .int)) ∈ zG := zG_mk (zG_t5 (List.mem_of_getElem? (i := 48) rfl)) rfl
theorem gw_5_49 : (Cond.methodLink "WingDoorLaw" 104 ⟨"WingDoorModel", "back", "(I)I"⟩) ∈ zG := zG_mk (zG_t5 (List.mem_of_getElem? (i := 49) rfl)) rfl
theorem gw_5_50 : (Cond.instanceMethod ⟨"WingDoorModel", "back", "(I)I"⟩) ∈ zG := zG_mk (zG_t5 (List.mem_of_getElem? (i := 50) rfl)) rfl
theorem gw_5_51 : (Cond.selects "WingDoorModel" ⟨"WingDoorModel", "back", "(I)I"⟩ ⟨"WingDoorModel", "back", "(I)I"⟩) ∈ zG := zG_mk (zG_t5 (List.mem_of_getElem? (i := 51) rfl)) rfl
theorem gw_5_52 : (Cond.code ⟨"WingDoorModel", "back", "(I)I"⟩ prog_14_method_66_code 2 (some .int)) ∈ zG := zG_mk (zG_t5 (List.mem_of_getElem? (i := 52) rfl)) rfl
theorem gw_5_53 : (Cond.methodLink "WingDoorLaw" 108 ⟨"WingDoorModel", "count", "(I)I"⟩) ∈ zG := zG_mk (zG_t5 (List.mem_of_getElem? (i := 53) rfl)) rfl
theorem gw_5_54 : (Cond.instanceMethod ⟨"WingDoorModel", "count", "(I)I"⟩) ∈ zG := zG_mk (zG_t5 (List.mem_of_getElem? (i := 54) rfl)) rfl
theorem gw_5_55 : (Cond.selects "WingDoorModel" ⟨"WingDoorModel", "count", "(I)I"⟩ ⟨"WingDoorModel", "count", "(I)I"⟩) ∈ zG := zG_mk (zG_t5 (List.mem_of_getElem? (i := 55) rfl)) rfl
theorem gw_5_56 : (Cond.code ⟨"WingDoorModel", "count", "(I)I"⟩ prog_14_method_67_code 2 (some .int)) ∈ zG := zG_mk (zG_t5 (List.mem_of_getElem? (i := 56) rfl)) rfl
theorem gw_5_57 : (Cond.methodLink "WingDoorLaw" 113 ⟨"WingDoorModel", "trace", "()J"⟩) ∈ zG := zG_mk (zG_t5 (List.mem_of_getElem? (i := 57) rfl)) rfl
theorem gw_5_58 : (Cond.instanceMethod ⟨"WingDoorModel", "trace", "()J"⟩) ∈ zG := zG_mk (zG_t5 (List.mem_of_getElem? (i := 58) rfl)) rfl
theorem gw_5_59 : (Cond.selects "WingDoorModel" ⟨"WingDoorModel", "trace", "()J"⟩ ⟨"WingDoorModel", "trace", "()J"⟩) ∈ zG := zG_mk (zG_t5 (List.mem_of_getElem? (i := 59) rfl)) rfl
theorem gw_5_60 : (Cond.code ⟨"WingDoorModel", "trace", "()J"⟩ prog_14_method_68_code 1 (some .long)) ∈ zG := zG_mk (zG_t5 (List.mem_of_getElem? (i := 60) rfl)) rfl
theorem gw_5_61 : (Cond.sameMethod "WingDoor$BankKind" "WingDoor$BankKind" "worth" "(LWingDoor$Moment;I)I") ∈ zG := zG_mk (zG_t5 (List.mem_of_getElem? (i := 61) rfl)) rfl
theorem gw_5_62 : (Cond.sameMethod "WingDoor$HotelKind" "WingDoor$HotelKind" "worth" "(LWingDoor$Moment;I)I") ∈ zG := zG_mk (zG_t5 (List.mem_of_getElem? (i := 62) rfl)) rfl
theorem gs_0 : (Cond.selects "WingDoor$Text" ⟨"WingDoor$Text", "readToken", "()V"⟩ ⟨"WingDoor$Text", "readToken", "()V"⟩) ∈ zG := zG_mk (List.mem_append_left _ (List.mem_of_getElem? (i := 0) rfl)) rfl
theorem gs_1 : (Cond.selects "WingDoor$Text" ⟨"WingDoor$Text", "readDigits", "()V"⟩ ⟨"WingDoor$Text", "readDigits", "()V"⟩) ∈ zG := zG_mk (List.mem_append_left _ (List.mem_of_getElem? (i := 1) rfl)) rfl
theorem gs_2 : (Cond.selects "WingDoor$Text" ⟨"WingDoor$Text", "readItem", "(LWingDoor$Plan;I)Z"⟩ ⟨"WingDoor$Text", "readItem", "(LWingDoor$Plan;I)Z"⟩) ∈ zG := zG_mk (List.mem_append_left _ (List.mem_of_getElem? (i := 2) rfl)) rfl
theorem gs_3 : (Cond.selects "WingDoor$Text" ⟨"WingDoor$Text", "readRooms", "(LWingDoor$Plan;)Z"⟩ ⟨"WingDoor$Text", "readRooms", "(LWingDoor$Plan;)Z"⟩) ∈ zG := zG_mk (List.mem_append_left _ (List.mem_of_getElem? (i := 3) rfl)) rfl
theorem gs_4 : (Cond.selects "WingDoor$Text" ⟨"WingDoor$Text", "readNumber", "(II)Z"⟩ ⟨"WingDoor$Text", "readNumber", "(II)Z"⟩) ∈ zG := zG_mk (List.mem_append_left _ (List.mem_of_getElem? (i := 4) rfl)) rfl
theorem gs_5 : (Cond.selects "WingDoor$Text" ⟨"WingDoor$Text", "readSemicolon", "()Z"⟩ ⟨"WingDoor$Text", "readSemicolon", "()Z"⟩) ∈ zG := zG_mk (List.mem_append_left _ (List.mem_of_getElem? (i := 5) rfl)) rfl
theorem gs_6 : (Cond.selects "WingDoor$Text" ⟨"WingDoor$Text", "readHard", "(LWingDoor$Plan;)Z"⟩ ⟨"WingDoor$Text", "readHard", "(LWingDoor$Plan;)Z"⟩) ∈ zG := zG_mk (List.mem_append_left _ (List.mem_of_getElem? (i := 6) rfl)) rfl
theorem gs_7 : (Cond.selects "WingDoor$Text" ⟨"WingDoor$Text", "readSort", "(LWingDoor$Plan;)Z"⟩ ⟨"WingDoor$Text", "readSort", "(LWingDoor$Plan;)Z"⟩) ∈ zG := zG_mk (List.mem_append_left _ (List.mem_of_getElem? (i := 7) rfl)) rfl
theorem gs_8 : (Cond.selects "WingDoor" ⟨"WingDoor", "whenNow", "(I)I"⟩ ⟨"WingDoor", "whenNow", "(I)I"⟩) ∈ zG := zG_mk (List.mem_append_left _ (List.mem_of_getElem? (i := 8) rfl)) rfl
theorem gs_9 : (Cond.selects "WingDoor$Moment" ⟨"WingDoor$Moment", "carry", "(I)Z"⟩ ⟨"WingDoor$Moment", "carry", "(I)Z"⟩) ∈ zG := zG_mk (List.mem_append_left _ (List.mem_of_getElem? (i := 9) rfl)) rfl
theorem gs_10 : (Cond.selects "WingDoor$Moment" ⟨"WingDoor$Moment", "fill", "()V"⟩ ⟨"WingDoor$Moment", "fill", "()V"⟩) ∈ zG := zG_mk (List.mem_append_left _ (List.mem_of_getElem? (i := 10) rfl)) rfl
theorem gs_11 : (Cond.selects "WingDoor" ⟨"WingDoor", "sticksNow", "()I"⟩ ⟨"WingDoor", "sticksNow", "()I"⟩) ∈ zG := zG_mk (List.mem_append_left _ (List.mem_of_getElem? (i := 11) rfl)) rfl
theorem gs_12 : (Cond.selects "WingDoor" ⟨"WingDoor", "allNow", "()I"⟩ ⟨"WingDoor", "allNow", "()I"⟩) ∈ zG := zG_mk (List.mem_append_left _ (List.mem_of_getElem? (i := 12) rfl)) rfl
theorem gs_13 : (Cond.selects "WingDoor" ⟨"WingDoor", "bestHelper", "(IZ)I"⟩ ⟨"WingDoor", "bestHelper", "(IZ)I"⟩) ∈ zG := zG_mk (List.mem_append_left _ (List.mem_of_getElem? (i := 13) rfl)) rfl
theorem gs_14 : (Cond.selects "WingDoor" ⟨"WingDoor", "waysToGo", "(I)J"⟩ ⟨"WingDoor", "waysToGo", "(I)J"⟩) ∈ zG := zG_mk (List.mem_append_left _ (List.mem_of_getElem? (i := 14) rfl)) rfl
theorem gs_15 : (Cond.selects "WingDoor" ⟨"WingDoor", "addPusher", "(III)I"⟩ ⟨"WingDoor", "addPusher", "(III)I"⟩) ∈ zG := zG_mk (List.mem_append_left _ (List.mem_of_getElem? (i := 15) rfl)) rfl
theorem gs_16 : (Cond.selects "WingDoor$Sightings" ⟨"WingDoor$Sightings", "allIsSoOf", "(I)Z"⟩ ⟨"WingDoor$Sightings", "allIsSoOf", "(I)Z"⟩) ∈ zG := zG_mk (List.mem_append_left _ (List.mem_of_getElem? (i := 16) rfl)) rfl
theorem gs_17 : (Cond.selects "WingDoorModel" ⟨"WingDoorModel", "reads", "()I"⟩ ⟨"WingDoorModel", "reads", "()I"⟩) ∈ zG := zG_mk (List.mem_append_left _ (List.mem_of_getElem? (i := 17) rfl)) rfl
theorem gs_18 : (Cond.selects "WingDoorModel" ⟨"WingDoorModel", "nextToken", "()V"⟩ ⟨"WingDoorModel", "nextToken", "()V"⟩) ∈ zG := zG_mk (List.mem_append_left _ (List.mem_of_getElem? (i := 18) rfl)) rfl
theorem gs_19 : (Cond.selects "WingDoorModel" ⟨"WingDoorModel", "here", "()I"⟩ ⟨"WingDoorModel", "here", "()I"⟩) ∈ zG := zG_mk (List.mem_append_left _ (List.mem_of_getElem? (i := 19) rfl)) rfl
theorem gs_20 : (Cond.selects "WingDoorModel" ⟨"WingDoorModel", "isFigure", "()Z"⟩ ⟨"WingDoorModel", "isFigure", "()Z"⟩) ∈ zG := zG_mk (List.mem_append_left _ (List.mem_of_getElem? (i := 20) rfl)) rfl
theorem gs_21 : (Cond.selects "WingDoorModel" ⟨"WingDoorModel", "readsFigures", "()V"⟩ ⟨"WingDoorModel", "readsFigures", "()V"⟩) ∈ zG := zG_mk (List.mem_append_left _ (List.mem_of_getElem? (i := 21) rfl)) rfl
theorem gs_22 : (Cond.selects "WingDoorModel" ⟨"WingDoorModel", "isItem", "(I)Z"⟩ ⟨"WingDoorModel", "isItem", "(I)Z"⟩) ∈ zG := zG_mk (List.mem_append_left _ (List.mem_of_getElem? (i := 22) rfl)) rfl
theorem gs_23 : (Cond.selects "WingDoorModel" ⟨"WingDoorModel", "isRooms", "()Z"⟩ ⟨"WingDoorModel", "isRooms", "()Z"⟩) ∈ zG := zG_mk (List.mem_append_left _ (List.mem_of_getElem? (i := 23) rfl)) rfl
theorem gs_24 : (Cond.selects "WingDoorModel" ⟨"WingDoorModel", "number", "(II)Z"⟩ ⟨"WingDoorModel", "number", "(II)Z"⟩) ∈ zG := zG_mk (List.mem_append_left _ (List.mem_of_getElem? (i := 24) rfl)) rfl
theorem gs_25 : (Cond.selects "WingDoorModel" ⟨"WingDoorModel", "isHard", "()Z"⟩ ⟨"WingDoorModel", "isHard", "()Z"⟩) ∈ zG := zG_mk (List.mem_append_left _ (List.mem_of_getElem? (i := 25) rfl)) rfl
theorem gs_26 : (Cond.selects "WingDoorModel" ⟨"WingDoorModel", "isSort", "()Z"⟩ ⟨"WingDoorModel", "isSort", "()Z"⟩) ∈ zG := zG_mk (List.mem_append_left _ (List.mem_of_getElem? (i := 26) rfl)) rfl
theorem gs_27 : (Cond.selects "WingDoorModel" ⟨"WingDoorModel", "isGoer", "(I)Z"⟩ ⟨"WingDoorModel", "isGoer", "(I)Z"⟩) ∈ zG := zG_mk (List.mem_append_left _ (List.mem_of_getElem? (i := 27) rfl)) rfl
theorem gs_28 : (Cond.selects "WingDoorModel" ⟨"WingDoorModel", "when", "(I)I"⟩ ⟨"WingDoorModel", "when", "(I)I"⟩) ∈ zG := zG_mk (List.mem_append_left _ (List.mem_of_getElem? (i := 28) rfl)) rfl
theorem gs_29 : (Cond.selects "WingDoorModel" ⟨"WingDoorModel", "layAside", "()V"⟩ ⟨"WingDoorModel", "layAside", "()V"⟩) ∈ zG := zG_mk (List.mem_append_left _ (List.mem_of_getElem? (i := 29) rfl)) rfl
theorem gs_30 : (Cond.selects "WingDoorModel" ⟨"WingDoorModel", "whenAside", "(I)I"⟩ ⟨"WingDoorModel", "whenAside", "(I)I"⟩) ∈ zG := zG_mk (List.mem_append_left _ (List.mem_of_getElem? (i := 30) rfl)) rfl
theorem gs_31 : (Cond.selects "WingDoorModel" ⟨"WingDoorModel", "goes", "([I)I"⟩ ⟨"WingDoorModel", "goes", "([I)I"⟩) ∈ zG := zG_mk (List.mem_append_left _ (List.mem_of_getElem? (i := 31) rfl)) rfl
theorem gs_32 : (Cond.selects "WingDoorModel" ⟨"WingDoorModel", "sticksOn", "([I)Z"⟩ ⟨"WingDoorModel", "sticksOn", "([I)Z"⟩) ∈ zG := zG_mk (List.mem_append_left _ (List.mem_of_getElem? (i := 32) rfl)) rfl
theorem gs_33 : (Cond.selects "WingDoorModel" ⟨"WingDoorModel", "loadOn", "([I)I"⟩ ⟨"WingDoorModel", "loadOn", "([I)I"⟩) ∈ zG := zG_mk (List.mem_append_left _ (List.mem_of_getElem? (i := 33) rfl)) rfl
theorem gs_34 : (Cond.selects "WingDoorModel" ⟨"WingDoorModel", "dragOn", "([I)I"⟩ ⟨"WingDoorModel", "dragOn", "([I)I"⟩) ∈ zG := zG_mk (List.mem_append_left _ (List.mem_of_getElem? (i := 34) rfl)) rfl
theorem gs_35 : (Cond.selects "WingDoorModel" ⟨"WingDoorModel", "placeOf", "(I)I"⟩ ⟨"WingDoorModel", "placeOf", "(I)I"⟩) ∈ zG := zG_mk (List.mem_append_left _ (List.mem_of_getElem? (i := 35) rfl)) rfl
theorem gs_36 : (Cond.selects "WingDoorModel" ⟨"WingDoorModel", "fills", "([I)V"⟩ ⟨"WingDoorModel", "fills", "([I)V"⟩) ∈ zG := zG_mk (List.mem_append_left _ (List.mem_of_getElem? (i := 36) rfl)) rfl
theorem gs_37 : (Cond.selects "WingDoorModel" ⟨"WingDoorModel", "bulkIn", "([II)I"⟩ ⟨"WingDoorModel", "bulkIn", "([II)I"⟩) ∈ zG := zG_mk (List.mem_append_left _ (List.mem_of_getElem? (i := 37) rfl)) rfl
theorem gs_38 : (Cond.selects "WingDoorModel" ⟨"WingDoorModel", "bulkOf", "([II)I"⟩ ⟨"WingDoorModel", "bulkOf", "([II)I"⟩) ∈ zG := zG_mk (List.mem_append_left _ (List.mem_of_getElem? (i := 38) rfl)) rfl
theorem gs_39 : (Cond.selects "WingDoorModel" ⟨"WingDoorModel", "sticksFirst", "()I"⟩ ⟨"WingDoorModel", "sticksFirst", "()I"⟩) ∈ zG := zG_mk (List.mem_append_left _ (List.mem_of_getElem? (i := 39) rfl)) rfl
theorem gs_40 : (Cond.selects "WingDoorModel" ⟨"WingDoorModel", "allOut", "()I"⟩ ⟨"WingDoorModel", "allOut", "()I"⟩) ∈ zG := zG_mk (List.mem_append_left _ (List.mem_of_getElem? (i := 40) rfl)) rfl
theorem gs_41 : (Cond.selects "WingDoorModel" ⟨"WingDoorModel", "notes", "()V"⟩ ⟨"WingDoorModel", "notes", "()V"⟩) ∈ zG := zG_mk (List.mem_append_left _ (List.mem_of_getElem? (i := 41) rfl)) rfl
theorem gs_42 : (Cond.selects "WingDoorModel" ⟨"WingDoorModel", "best", "(IZ)I"⟩ ⟨"WingDoorModel", "best", "(IZ)I"⟩) ∈ zG := zG_mk (List.mem_append_left _ (List.mem_of_getElem? (i := 42) rfl)) rfl
theorem gs_43 : (Cond.selects "WingDoorModel" ⟨"WingDoorModel", "of", "(II)I"⟩ ⟨"WingDoorModel", "of", "(II)I"⟩) ∈ zG := zG_mk (List.mem_append_left _ (List.mem_of_getElem? (i := 43) rfl)) rfl
theorem gs_44 : (Cond.selects "WingDoorModel" ⟨"WingDoorModel", "asDoor", "(I)I"⟩ ⟨"WingDoorModel", "asDoor", "(I)I"⟩) ∈ zG := zG_mk (List.mem_append_left _ (List.mem_of_getElem? (i := 44) rfl)) rfl
theorem gs_45 : (Cond.selects "WingDoorModel" ⟨"WingDoorModel", "asBank", "(I)I"⟩ ⟨"WingDoorModel", "asBank", "(I)I"⟩) ∈ zG := zG_mk (List.mem_append_left _ (List.mem_of_getElem? (i := 45) rfl)) rfl
theorem gs_46 : (Cond.selects "WingDoorModel" ⟨"WingDoorModel", "asHotel", "(I)I"⟩ ⟨"WingDoorModel", "asHotel", "(I)I"⟩) ∈ zG := zG_mk (List.mem_append_left _ (List.mem_of_getElem? (i := 46) rfl)) rfl
theorem zin_X0 : ∀ w ∈ u_ws RX0 TX0 1, w ∈ zG := by
  intro w hw
  obtain ⟨k, hk, rfl⟩ := List.mem_map.mp hw
  have hk := List.mem_range.mp hk
  obtain rfl : k = 0 := by omega
  exact gw_1_207
theorem zin_X1 : ∀ w ∈ u_ws RX1 TX1 1, w ∈ zG := by
  intro w hw
  obtain ⟨k, hk, rfl⟩ := List.mem_map.mp hw
  have hk := List.mem_range.mp hk
  obtain rfl : k = 0 := by omega
  exact gw_1_223
theorem zin_X2 : ∀ w ∈ u_ws RX2 TX2 1, w ∈ zG := by
  intro w hw
  obtain ⟨k, hk, rfl⟩ := List.mem_map.mp hw
  have hk := List.mem_range.mp hk
  obtain rfl : k = 0 := by omega
  exact gw_1_197
theorem zin_X3 : ∀ w ∈ u_ws RX3 TX3 1, w ∈ zG := by
  intro w hw
  obtain ⟨k, hk, rfl⟩ := List.mem_map.mp hw
  have hk := List.mem_range.mp hk
  obtain rfl : k = 0 := by omega
  exact gw_1_231
theorem zin_X4 : ∀ w ∈ u_ws RX4 TX4 1, w ∈ zG := by
  intro w hw
  obtain ⟨k, hk, rfl⟩ := List.mem_map.mp hw
  have hk := List.mem_range.mp hk
  obtain rfl : k = 0 := by omega
  exact gw_1_215
theorem zin_X5 : ∀ w ∈ u_ws RX5 TX5 8, w ∈ zG := by
  intro w hw
  obtain ⟨k, hk, rfl⟩ := List.mem_map.mp hw
  have hk := List.mem_range.mp hk
  rcases (show k = 0 ∨ k = 1 ∨ k = 2 ∨ k = 3 ∨ k = 4 ∨ k = 5 ∨ k = 6 ∨ k = 7 by omega) with rfl | rfl | rfl | rfl | rfl | rfl | rfl | rfl
  · exact gw_1_117
  · exact gw_1_119
  · exact gw_1_121
  · exact gw_1_123
  · exact gw_1_125
  · exact gw_1_127
  · exact gw_1_129
  · exact gw_1_131
theorem zin_X6 : ∀ w ∈ u_ws RX6 TX6 3, w ∈ zG := by
  intro w hw
  obtain ⟨k, hk, rfl⟩ := List.mem_map.mp hw
  have hk := List.mem_range.mp hk
  rcases (show k = 0 ∨ k = 1 ∨ k = 2 by omega) with rfl | rfl | rfl
  · exact gw_1_147
  · exact gw_1_149
  · exact gw_1_151
theorem zin_X7 : ∀ w ∈ u_ws RX7 TX7 6, w ∈ zG := by
  intro w hw
  obtain ⟨k, hk, rfl⟩ := List.mem_map.mp hw
  have hk := List.mem_range.mp hk
  rcases (show k = 0 ∨ k = 1 ∨ k = 2 ∨ k = 3 ∨ k = 4 ∨ k = 5 by omega) with rfl | rfl | rfl | rfl | rfl | rfl
  · exact gw_1_83
  · exact gw_1_85
  · exact gw_1_87
  · exact gw_1_89
  · exact gw_1_91
  · exact gw_1_93
theorem zin_X8 : ∀ w ∈ u_ws RX8 TX8 5, w ∈ zG := by
  intro w hw
  obtain ⟨k, hk, rfl⟩ := List.mem_map.mp hw
  have hk := List.mem_range.mp hk
  rcases (show k = 0 ∨ k = 1 ∨ k = 2 ∨ k = 3 ∨ k = 4 by omega) with rfl | rfl | rfl | rfl | rfl
  · exact gw_1_166
  · exact gw_1_168
  · exact gw_1_170
  · exact gw_1_172
  · exact gw_1_174
theorem zin_X9 : ∀ w ∈ u_ws RX9 TX9 1, w ∈ zG := by
  intro w hw
  obtain ⟨k, hk, rfl⟩ := List.mem_map.mp hw
  have hk := List.mem_range.mp hk
  obtain rfl : k = 0 := by omega
  exact gw_1_239
theorem zin_X10 : ∀ w ∈ u_ws RX10 TX10 7, w ∈ zG := by
  intro w hw
  obtain ⟨k, hk, rfl⟩ := List.mem_map.mp hw
  have hk := List.mem_range.mp hk
  rcases (show k = 0 ∨ k = 1 ∨ k = 2 ∨ k = 3 ∨ k = 4 ∨ k = 5 ∨ k = 6 by omega) with rfl | rfl | rfl | rfl | rfl | rfl | rfl
  · exact gw_1_40
  · exact gw_1_42
  · exact gw_1_44
  · exact gw_1_46
  · exact gw_1_48
  · exact gw_1_50
  · exact gw_1_52
theorem zin_X11 : ∀ w ∈ u_ws RX11 TX11 11, w ∈ zG := by
  intro w hw
  obtain ⟨k, hk, rfl⟩ := List.mem_map.mp hw
  have hk := List.mem_range.mp hk
  rcases (show k = 0 ∨ k = 1 ∨ k = 2 ∨ k = 3 ∨ k = 4 ∨ k = 5 ∨ k = 6 ∨ k = 7 ∨ k = 8 ∨ k = 9 ∨ k = 10 by omega) with rfl | rfl | rfl | rfl | rfl | rfl | rfl | rfl | rfl | rfl | rfl
  · exact gw_2_12
  · exact gw_2_14
  · exact gw_2_16
  · exact gw_2_18
  · exact gw_2_20
  · exact gw_2_22
  · exact gw_2_24
  · exact gw_2_26
  · exact gw_2_28
  · exact gw_2_30
  · exact gw_2_32
theorem zin_X12 : ∀ w ∈ u_ws RX12 TX12 27, w ∈ zG := by
  intro w hw
  obtain ⟨k, hk, rfl⟩ := List.mem_map.mp hw
  have hk := List.mem_range.mp hk
  rcases (show k = 0 ∨ k = 1 ∨ k = 2 ∨ k = 3 ∨ k = 4 ∨ k = 5 ∨ k = 6 ∨ k = 7 ∨ k = 8 ∨ k = 9 ∨ k = 10 ∨ k = 11 ∨ k = 12 ∨ k = 13 ∨ k = 14 ∨ k = 15 ∨ k = 16 ∨ k = 17 ∨ k = 18 ∨ k = 19 ∨ k = 20 ∨ k = 21 ∨ k = 22 ∨ k = 23 ∨ k = 24 ∨ k = 25 ∨ k = 26 by omega) with rfl | rfl | rfl | rfl | rfl | rfl | rfl | rfl | rfl | rfl | rfl | rfl | rfl | rfl | rfl | rfl | rfl | rfl | rfl | rfl | rfl | rfl | rfl | rfl | rfl | rfl | rfl
  · exact gw_3_222
  · exact gw_3_224
  · exact gw_3_226
  · exact gw_3_228
  · exact gw_3_230
  · exact gw_3_232
  · exact gw_3_234
  · exact gw_3_236
  · exact gw_3_238
  · exact gw_4_0
  · exact gw_4_2
  · exact gw_4_4
  · exact gw_4_6
  · exact gw_4_8
  · exact gw_4_10
  · exact gw_4_12
  · exact gw_4_14
  · exact gw_4_16
  · exact gw_4_18
  · exact gw_4_20
  · exact gw_4_22
  · exact gw_4_24
  · exact gw_4_26
  · exact gw_4_28
  · exact gw_4_30
  · exact gw_4_32
  · exact gw_4_34
