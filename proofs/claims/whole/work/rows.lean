section
/-- a private method of a class that the tables say can be made, by its rows of tables_1 -/
def lw_okq (q : MethodName × Nat) : Prop := (q.1.cls ≠ "java/lang/invoke/MethodHandle" ∧ q.1.cls ≠ "java/lang/invoke/VarHandle") ∧ Cond.instantiable q.1.cls q.2 ∈ tables_1 ∧ Cond.privateMethod q.1 ∈ tables_1 ∧ Cond.instanceMethod q.1 ∈ tables_1
theorem lw_p0 : lw_okq (⟨"EggThrones$Text", "skipBlanks", "()I"⟩, 5) := ⟨⟨by decide +kernel, by decide +kernel⟩, List.mem_of_getElem? (i := 73) (by decide +kernel), List.mem_of_getElem? (i := 327) (by decide +kernel), List.mem_of_getElem? (i := 328) (by decide +kernel)⟩
theorem lw_p1 : lw_okq (⟨"EggThrones$Text", "letterAt", "(I)I"⟩, 5) := ⟨⟨by decide +kernel, by decide +kernel⟩, List.mem_of_getElem? (i := 73) (by decide +kernel), List.mem_of_getElem? (i := 331) (by decide +kernel), List.mem_of_getElem? (i := 332) (by decide +kernel)⟩
theorem lw_p2 : lw_okq (⟨"EggThrones$Text", "readClause", "(LEggThrones$Table;)V"⟩, 5) := ⟨⟨by decide +kernel, by decide +kernel⟩, List.mem_of_getElem? (i := 73) (by decide +kernel), List.mem_of_getElem? (i := 335) (by decide +kernel), List.mem_of_getElem? (i := 336) (by decide +kernel)⟩
theorem lw_p3 : lw_okq (⟨"EggThrones$Text", "find", "(II)V"⟩, 5) := ⟨⟨by decide +kernel, by decide +kernel⟩, List.mem_of_getElem? (i := 73) (by decide +kernel), List.mem_of_getElem? (i := 343) (by decide +kernel), List.mem_of_getElem? (i := 344) (by decide +kernel)⟩
theorem lw_p4 : lw_okq (⟨"EggThrones$Text", "readPan", "(LEggThrones$Table;)V"⟩, 5) := ⟨⟨by decide +kernel, by decide +kernel⟩, List.mem_of_getElem? (i := 73) (by decide +kernel), List.mem_of_getElem? (i := 347) (by decide +kernel), List.mem_of_getElem? (i := 348) (by decide +kernel)⟩
theorem lw_p5 : lw_okq (⟨"EggThrones$Text", "readNumber", "(II)I"⟩, 5) := ⟨⟨by decide +kernel, by decide +kernel⟩, List.mem_of_getElem? (i := 73) (by decide +kernel), List.mem_of_getElem? (i := 351) (by decide +kernel), List.mem_of_getElem? (i := 352) (by decide +kernel)⟩
theorem lw_p6 : lw_okq (⟨"EggThrones$Text", "readSemicolon", "()V"⟩, 5) := ⟨⟨by decide +kernel, by decide +kernel⟩, List.mem_of_getElem? (i := 73) (by decide +kernel), List.mem_of_getElem? (i := 359) (by decide +kernel), List.mem_of_getElem? (i := 360) (by decide +kernel)⟩
theorem lw_p7 : lw_okq (⟨"EggThrones$Text", "readEgg", "(LEggThrones$Table;)V"⟩, 5) := ⟨⟨by decide +kernel, by decide +kernel⟩, List.mem_of_getElem? (i := 73) (by decide +kernel), List.mem_of_getElem? (i := 367) (by decide +kernel), List.mem_of_getElem? (i := 368) (by decide +kernel)⟩
theorem lw_p8 : lw_okq (⟨"EggThrones$Text", "readEater", "(LEggThrones$Table;)V"⟩, 5) := ⟨⟨by decide +kernel, by decide +kernel⟩, List.mem_of_getElem? (i := 73) (by decide +kernel), List.mem_of_getElem? (i := 375) (by decide +kernel), List.mem_of_getElem? (i := 376) (by decide +kernel)⟩
theorem lw_p9 : lw_okq (⟨"EggThrones", "refusalOfMinutes", "(I)I"⟩, 13) := ⟨⟨by decide +kernel, by decide +kernel⟩, List.mem_of_getElem? (i := 17) (by decide +kernel), List.mem_of_getElem? (i := 519) (by decide +kernel), List.mem_of_getElem? (i := 520) (by decide +kernel)⟩
theorem lw_p10 : lw_okq (⟨"EggThrones$Morning", "boilOneMore", "(I)V"⟩, 9) := ⟨⟨by decide +kernel, by decide +kernel⟩, List.mem_of_getElem? (i := 95) (by decide +kernel), List.mem_of_getElem? (i := 541) (by decide +kernel), List.mem_of_getElem? (i := 542) (by decide +kernel)⟩
theorem lw_p11 : lw_okq (⟨"EggThrones$Morning", "passMinuteOfKing", "()V"⟩, 9) := ⟨⟨by decide +kernel, by decide +kernel⟩, List.mem_of_getElem? (i := 95) (by decide +kernel), List.mem_of_getElem? (i := 545) (by decide +kernel), List.mem_of_getElem? (i := 546) (by decide +kernel)⟩
theorem lw_p12 : lw_okq (⟨"EggThrones$Morning", "endReign", "(I)V"⟩, 9) := ⟨⟨by decide +kernel, by decide +kernel⟩, List.mem_of_getElem? (i := 95) (by decide +kernel), List.mem_of_getElem? (i := 549) (by decide +kernel), List.mem_of_getElem? (i := 550) (by decide +kernel)⟩
theorem lw_p13 : lw_okq (⟨"EggThrones$Morning", "setState", "(II)V"⟩, 9) := ⟨⟨by decide +kernel, by decide +kernel⟩, List.mem_of_getElem? (i := 95) (by decide +kernel), List.mem_of_getElem? (i := 553) (by decide +kernel), List.mem_of_getElem? (i := 554) (by decide +kernel)⟩
theorem lw_p14 : lw_okq (⟨"EggThrones", "actByDraws", "()V"⟩, 13) := ⟨⟨by decide +kernel, by decide +kernel⟩, List.mem_of_getElem? (i := 17) (by decide +kernel), List.mem_of_getElem? (i := 614) (by decide +kernel), List.mem_of_getElem? (i := 615) (by decide +kernel)⟩
theorem lw_p15 : lw_okq (⟨"EggThrones", "draw", "(I)I"⟩, 13) := ⟨⟨by decide +kernel, by decide +kernel⟩, List.mem_of_getElem? (i := 17) (by decide +kernel), List.mem_of_getElem? (i := 618) (by decide +kernel), List.mem_of_getElem? (i := 619) (by decide +kernel)⟩
def lw_privs_1 : List (MethodName × Nat) := [(⟨"EggThrones$Text", "skipBlanks", "()I"⟩, 5), (⟨"EggThrones$Text", "letterAt", "(I)I"⟩, 5), (⟨"EggThrones$Text", "readClause", "(LEggThrones$Table;)V"⟩, 5), (⟨"EggThrones$Text", "find", "(II)V"⟩, 5), (⟨"EggThrones$Text", "readPan", "(LEggThrones$Table;)V"⟩, 5), (⟨"EggThrones$Text", "readNumber", "(II)I"⟩, 5), (⟨"EggThrones$Text", "readSemicolon", "()V"⟩, 5), (⟨"EggThrones$Text", "readEgg", "(LEggThrones$Table;)V"⟩, 5), (⟨"EggThrones$Text", "readEater", "(LEggThrones$Table;)V"⟩, 5), (⟨"EggThrones", "refusalOfMinutes", "(I)I"⟩, 13), (⟨"EggThrones$Morning", "boilOneMore", "(I)V"⟩, 9), (⟨"EggThrones$Morning", "passMinuteOfKing", "()V"⟩, 9), (⟨"EggThrones$Morning", "endReign", "(I)V"⟩, 9), (⟨"EggThrones$Morning", "setState", "(II)V"⟩, 9), (⟨"EggThrones", "actByDraws", "()V"⟩, 13), (⟨"EggThrones", "draw", "(I)I"⟩, 13)]
theorem lw_r1 : ∀ q ∈ lw_privs_1, lw_okq q := List.forall_mem_cons.mpr ⟨lw_p0, List.forall_mem_cons.mpr ⟨lw_p1, List.forall_mem_cons.mpr ⟨lw_p2, List.forall_mem_cons.mpr ⟨lw_p3, List.forall_mem_cons.mpr ⟨lw_p4, List.forall_mem_cons.mpr ⟨lw_p5, List.forall_mem_cons.mpr ⟨lw_p6, List.forall_mem_cons.mpr ⟨lw_p7, List.forall_mem_cons.mpr ⟨lw_p8, List.forall_mem_cons.mpr ⟨lw_p9, List.forall_mem_cons.mpr ⟨lw_p10, List.forall_mem_cons.mpr ⟨lw_p11, List.forall_mem_cons.mpr ⟨lw_p12, List.forall_mem_cons.mpr ⟨lw_p13, List.forall_mem_cons.mpr ⟨lw_p14, List.forall_mem_cons.mpr ⟨lw_p15, fun _ h => absurd h List.not_mem_nil⟩⟩⟩⟩⟩⟩⟩⟩⟩⟩⟩⟩⟩⟩⟩⟩
theorem lw_p16 : lw_okq (⟨"EggThrones$Boiling", "takeOver", "()V"⟩, 6) := ⟨⟨by decide +kernel, by decide +kernel⟩, List.mem_of_getElem? (i := 204) (by decide +kernel), List.mem_of_getElem? (i := 669) (by decide +kernel), List.mem_of_getElem? (i := 670) (by decide +kernel)⟩
theorem lw_p17 : lw_okq (⟨"EggThrones$Succession", "weigh", "(LEggThrones$Morning;I)V"⟩, 3) := ⟨⟨by decide +kernel, by decide +kernel⟩, List.mem_of_getElem? (i := 229) (by decide +kernel), List.mem_of_getElem? (i := 692) (by decide +kernel), List.mem_of_getElem? (i := 693) (by decide +kernel)⟩
theorem lw_p18 : lw_okq (⟨"EggThrones$Sharing", "firstEgg", "(III)I"⟩, 1) := ⟨⟨by decide +kernel, by decide +kernel⟩, List.mem_of_getElem? (i := 248) (by decide +kernel), List.mem_of_getElem? (i := 730) (by decide +kernel), List.mem_of_getElem? (i := 731) (by decide +kernel)⟩
theorem lw_p19 : lw_okq (⟨"EggThrones$Clues", "fits", "(I)Z"⟩, 3) := ⟨⟨by decide +kernel, by decide +kernel⟩, List.mem_of_getElem? (i := 170) (by decide +kernel), List.mem_of_getElem? (i := 760) (by decide +kernel), List.mem_of_getElem? (i := 761) (by decide +kernel)⟩
theorem lw_p20 : lw_okq (⟨"EggThronesModel", "here", "()I"⟩, 40) := ⟨⟨by decide +kernel, by decide +kernel⟩, List.mem_of_getElem? (i := 830) (by decide +kernel), List.mem_of_getElem? (i := 971) (by decide +kernel), List.mem_of_getElem? (i := 972) (by decide +kernel)⟩
theorem lw_p21 : lw_okq (⟨"EggThronesModel", "takeClause", "()I"⟩, 40) := ⟨⟨by decide +kernel, by decide +kernel⟩, List.mem_of_getElem? (i := 830) (by decide +kernel), List.mem_of_getElem? (i := 975) (by decide +kernel), List.mem_of_getElem? (i := 976) (by decide +kernel)⟩
theorem lw_p22 : lw_okq (⟨"EggThronesModel", "fails", "(II)I"⟩, 40) := ⟨⟨by decide +kernel, by decide +kernel⟩, List.mem_of_getElem? (i := 830) (by decide +kernel), List.mem_of_getElem? (i := 979) (by decide +kernel), List.mem_of_getElem? (i := 980) (by decide +kernel)⟩
theorem lw_p23 : lw_okq (⟨"EggThronesModel", "takePan", "()I"⟩, 40) := ⟨⟨by decide +kernel, by decide +kernel⟩, List.mem_of_getElem? (i := 830) (by decide +kernel), List.mem_of_getElem? (i := 983) (by decide +kernel), List.mem_of_getElem? (i := 984) (by decide +kernel)⟩
theorem lw_p24 : lw_okq (⟨"EggThronesModel", "into", "([IIII)I"⟩, 40) := ⟨⟨by decide +kernel, by decide +kernel⟩, List.mem_of_getElem? (i := 830) (by decide +kernel), List.mem_of_getElem? (i := 987) (by decide +kernel), List.mem_of_getElem? (i := 988) (by decide +kernel)⟩
theorem lw_p25 : lw_okq (⟨"EggThronesModel", "takeNumber", "(II)I"⟩, 40) := ⟨⟨by decide +kernel, by decide +kernel⟩, List.mem_of_getElem? (i := 830) (by decide +kernel), List.mem_of_getElem? (i := 991) (by decide +kernel), List.mem_of_getElem? (i := 992) (by decide +kernel)⟩
theorem lw_p26 : lw_okq (⟨"EggThronesModel", "takeEgg", "()I"⟩, 40) := ⟨⟨by decide +kernel, by decide +kernel⟩, List.mem_of_getElem? (i := 830) (by decide +kernel), List.mem_of_getElem? (i := 997) (by decide +kernel), List.mem_of_getElem? (i := 998) (by decide +kernel)⟩
theorem lw_p27 : lw_okq (⟨"EggThronesModel", "takeEater", "()I"⟩, 40) := ⟨⟨by decide +kernel, by decide +kernel⟩, List.mem_of_getElem? (i := 830) (by decide +kernel), List.mem_of_getElem? (i := 1001) (by decide +kernel), List.mem_of_getElem? (i := 1002) (by decide +kernel)⟩
theorem lw_p28 : lw_okq (⟨"EggThronesModel", "takeRead", "()V"⟩, 40) := ⟨⟨by decide +kernel, by decide +kernel⟩, List.mem_of_getElem? (i := 830) (by decide +kernel), List.mem_of_getElem? (i := 1005) (by decide +kernel), List.mem_of_getElem? (i := 1006) (by decide +kernel)⟩
theorem lw_p29 : lw_okq (⟨"EggThronesModel", "king", "()I"⟩, 40) := ⟨⟨by decide +kernel, by decide +kernel⟩, List.mem_of_getElem? (i := 830) (by decide +kernel), List.mem_of_getElem? (i := 1017) (by decide +kernel), List.mem_of_getElem? (i := 1018) (by decide +kernel)⟩
theorem lw_p30 : lw_okq (⟨"EggThronesModel", "allThat", "(I)I"⟩, 40) := ⟨⟨by decide +kernel, by decide +kernel⟩, List.mem_of_getElem? (i := 830) (by decide +kernel), List.mem_of_getElem? (i := 1021) (by decide +kernel), List.mem_of_getElem? (i := 1022) (by decide +kernel)⟩
theorem lw_p31 : lw_okq (⟨"EggThronesModel", "pretenders", "()I"⟩, 40) := ⟨⟨by decide +kernel, by decide +kernel⟩, List.mem_of_getElem? (i := 830) (by decide +kernel), List.mem_of_getElem? (i := 1025) (by decide +kernel), List.mem_of_getElem? (i := 1026) (by decide +kernel)⟩
def lw_privs_2 : List (MethodName × Nat) := [(⟨"EggThrones$Boiling", "takeOver", "()V"⟩, 6), (⟨"EggThrones$Succession", "weigh", "(LEggThrones$Morning;I)V"⟩, 3), (⟨"EggThrones$Sharing", "firstEgg", "(III)I"⟩, 1), (⟨"EggThrones$Clues", "fits", "(I)Z"⟩, 3), (⟨"EggThronesModel", "here", "()I"⟩, 40), (⟨"EggThronesModel", "takeClause", "()I"⟩, 40), (⟨"EggThronesModel", "fails", "(II)I"⟩, 40), (⟨"EggThronesModel", "takePan", "()I"⟩, 40), (⟨"EggThronesModel", "into", "([IIII)I"⟩, 40), (⟨"EggThronesModel", "takeNumber", "(II)I"⟩, 40), (⟨"EggThronesModel", "takeEgg", "()I"⟩, 40), (⟨"EggThronesModel", "takeEater", "()I"⟩, 40), (⟨"EggThronesModel", "takeRead", "()V"⟩, 40), (⟨"EggThronesModel", "king", "()I"⟩, 40), (⟨"EggThronesModel", "allThat", "(I)I"⟩, 40), (⟨"EggThronesModel", "pretenders", "()I"⟩, 40)]
theorem lw_r2 : ∀ q ∈ lw_privs_2, lw_okq q := List.forall_mem_cons.mpr ⟨lw_p16, List.forall_mem_cons.mpr ⟨lw_p17, List.forall_mem_cons.mpr ⟨lw_p18, List.forall_mem_cons.mpr ⟨lw_p19, List.forall_mem_cons.mpr ⟨lw_p20, List.forall_mem_cons.mpr ⟨lw_p21, List.forall_mem_cons.mpr ⟨lw_p22, List.forall_mem_cons.mpr ⟨lw_p23, List.forall_mem_cons.mpr ⟨lw_p24, List.forall_mem_cons.mpr ⟨lw_p25, List.forall_mem_cons.mpr ⟨lw_p26, List.forall_mem_cons.mpr ⟨lw_p27, List.forall_mem_cons.mpr ⟨lw_p28, List.forall_mem_cons.mpr ⟨lw_p29, List.forall_mem_cons.mpr ⟨lw_p30, List.forall_mem_cons.mpr ⟨lw_p31, fun _ h => absurd h List.not_mem_nil⟩⟩⟩⟩⟩⟩⟩⟩⟩⟩⟩⟩⟩⟩⟩⟩
theorem lw_p32 : lw_okq (⟨"EggThronesModel", "hard", "(I)I"⟩, 40) := ⟨⟨by decide +kernel, by decide +kernel⟩, List.mem_of_getElem? (i := 830) (by decide +kernel), List.mem_of_getElem? (i := 1029) (by decide +kernel), List.mem_of_getElem? (i := 1030) (by decide +kernel)⟩
theorem lw_p33 : lw_okq (⟨"EggThronesModel", "hardBy", "(II)I"⟩, 40) := ⟨⟨by decide +kernel, by decide +kernel⟩, List.mem_of_getElem? (i := 830) (by decide +kernel), List.mem_of_getElem? (i := 1033) (by decide +kernel), List.mem_of_getElem? (i := 1034) (by decide +kernel)⟩
theorem lw_p34 : lw_okq (⟨"EggThronesModel", "heir", "()I"⟩, 40) := ⟨⟨by decide +kernel, by decide +kernel⟩, List.mem_of_getElem? (i := 830) (by decide +kernel), List.mem_of_getElem? (i := 1037) (by decide +kernel), List.mem_of_getElem? (i := 1038) (by decide +kernel)⟩
theorem lw_p35 : lw_okq (⟨"EggThronesModel", "reign", "(I)I"⟩, 40) := ⟨⟨by decide +kernel, by decide +kernel⟩, List.mem_of_getElem? (i := 830) (by decide +kernel), List.mem_of_getElem? (i := 1041) (by decide +kernel), List.mem_of_getElem? (i := 1042) (by decide +kernel)⟩
theorem lw_p36 : lw_okq (⟨"EggThronesModel", "reignBy", "(II)I"⟩, 40) := ⟨⟨by decide +kernel, by decide +kernel⟩, List.mem_of_getElem? (i := 830) (by decide +kernel), List.mem_of_getElem? (i := 1045) (by decide +kernel), List.mem_of_getElem? (i := 1046) (by decide +kernel)⟩
theorem lw_p37 : lw_okq (⟨"EggThronesModel", "isEgg", "(I)Z"⟩, 40) := ⟨⟨by decide +kernel, by decide +kernel⟩, List.mem_of_getElem? (i := 830) (by decide +kernel), List.mem_of_getElem? (i := 1053) (by decide +kernel), List.mem_of_getElem? (i := 1054) (by decide +kernel)⟩
theorem lw_p38 : lw_okq (⟨"EggThronesModel", "isEater", "(I)Z"⟩, 40) := ⟨⟨by decide +kernel, by decide +kernel⟩, List.mem_of_getElem? (i := 830) (by decide +kernel), List.mem_of_getElem? (i := 1062) (by decide +kernel), List.mem_of_getElem? (i := 1063) (by decide +kernel)⟩
theorem lw_p39 : lw_okq (⟨"EggThronesModel", "minutesRefused", "(I)I"⟩, 40) := ⟨⟨by decide +kernel, by decide +kernel⟩, List.mem_of_getElem? (i := 830) (by decide +kernel), List.mem_of_getElem? (i := 1070) (by decide +kernel), List.mem_of_getElem? (i := 1071) (by decide +kernel)⟩
theorem lw_p40 : lw_okq (⟨"EggThronesModel", "remember", "()V"⟩, 40) := ⟨⟨by decide +kernel, by decide +kernel⟩, List.mem_of_getElem? (i := 830) (by decide +kernel), List.mem_of_getElem? (i := 1076) (by decide +kernel), List.mem_of_getElem? (i := 1077) (by decide +kernel)⟩
theorem lw_p41 : lw_okq (⟨"EggThronesModel", "pass", "()V"⟩, 40) := ⟨⟨by decide +kernel, by decide +kernel⟩, List.mem_of_getElem? (i := 830) (by decide +kernel), List.mem_of_getElem? (i := 1080) (by decide +kernel), List.mem_of_getElem? (i := 1081) (by decide +kernel)⟩
theorem lw_p42 : lw_okq (⟨"EggThronesModel", "canPut", "(I)Z"⟩, 40) := ⟨⟨by decide +kernel, by decide +kernel⟩, List.mem_of_getElem? (i := 830) (by decide +kernel), List.mem_of_getElem? (i := 1088) (by decide +kernel), List.mem_of_getElem? (i := 1089) (by decide +kernel)⟩
theorem lw_p43 : lw_okq (⟨"EggThronesModel", "inPan", "()I"⟩, 40) := ⟨⟨by decide +kernel, by decide +kernel⟩, List.mem_of_getElem? (i := 830) (by decide +kernel), List.mem_of_getElem? (i := 1092) (by decide +kernel), List.mem_of_getElem? (i := 1093) (by decide +kernel)⟩
theorem lw_p44 : lw_okq (⟨"EggThronesModel", "canCrown", "(I)Z"⟩, 40) := ⟨⟨by decide +kernel, by decide +kernel⟩, List.mem_of_getElem? (i := 830) (by decide +kernel), List.mem_of_getElem? (i := 1104) (by decide +kernel), List.mem_of_getElem? (i := 1105) (by decide +kernel)⟩
theorem lw_p45 : lw_okq (⟨"EggThronesModel", "crownNow", "(I)V"⟩, 40) := ⟨⟨by decide +kernel, by decide +kernel⟩, List.mem_of_getElem? (i := 830) (by decide +kernel), List.mem_of_getElem? (i := 1108) (by decide +kernel), List.mem_of_getElem? (i := 1109) (by decide +kernel)⟩
theorem lw_p46 : lw_okq (⟨"EggThronesModel", "chance", "()V"⟩, 40) := ⟨⟨by decide +kernel, by decide +kernel⟩, List.mem_of_getElem? (i := 830) (by decide +kernel), List.mem_of_getElem? (i := 1121) (by decide +kernel), List.mem_of_getElem? (i := 1122) (by decide +kernel)⟩
theorem lw_p47 : lw_okq (⟨"EggThronesModel", "draw", "(I)I"⟩, 40) := ⟨⟨by decide +kernel, by decide +kernel⟩, List.mem_of_getElem? (i := 830) (by decide +kernel), List.mem_of_getElem? (i := 1125) (by decide +kernel), List.mem_of_getElem? (i := 1126) (by decide +kernel)⟩
def lw_privs_3 : List (MethodName × Nat) := [(⟨"EggThronesModel", "hard", "(I)I"⟩, 40), (⟨"EggThronesModel", "hardBy", "(II)I"⟩, 40), (⟨"EggThronesModel", "heir", "()I"⟩, 40), (⟨"EggThronesModel", "reign", "(I)I"⟩, 40), (⟨"EggThronesModel", "reignBy", "(II)I"⟩, 40), (⟨"EggThronesModel", "isEgg", "(I)Z"⟩, 40), (⟨"EggThronesModel", "isEater", "(I)Z"⟩, 40), (⟨"EggThronesModel", "minutesRefused", "(I)I"⟩, 40), (⟨"EggThronesModel", "remember", "()V"⟩, 40), (⟨"EggThronesModel", "pass", "()V"⟩, 40), (⟨"EggThronesModel", "canPut", "(I)Z"⟩, 40), (⟨"EggThronesModel", "inPan", "()I"⟩, 40), (⟨"EggThronesModel", "canCrown", "(I)Z"⟩, 40), (⟨"EggThronesModel", "crownNow", "(I)V"⟩, 40), (⟨"EggThronesModel", "chance", "()V"⟩, 40), (⟨"EggThronesModel", "draw", "(I)I"⟩, 40)]
theorem lw_r3 : ∀ q ∈ lw_privs_3, lw_okq q := List.forall_mem_cons.mpr ⟨lw_p32, List.forall_mem_cons.mpr ⟨lw_p33, List.forall_mem_cons.mpr ⟨lw_p34, List.forall_mem_cons.mpr ⟨lw_p35, List.forall_mem_cons.mpr ⟨lw_p36, List.forall_mem_cons.mpr ⟨lw_p37, List.forall_mem_cons.mpr ⟨lw_p38, List.forall_mem_cons.mpr ⟨lw_p39, List.forall_mem_cons.mpr ⟨lw_p40, List.forall_mem_cons.mpr ⟨lw_p41, List.forall_mem_cons.mpr ⟨lw_p42, List.forall_mem_cons.mpr ⟨lw_p43, List.forall_mem_cons.mpr ⟨lw_p44, List.forall_mem_cons.mpr ⟨lw_p45, List.forall_mem_cons.mpr ⟨lw_p46, List.forall_mem_cons.mpr ⟨lw_p47, fun _ h => absurd h List.not_mem_nil⟩⟩⟩⟩⟩⟩⟩⟩⟩⟩⟩⟩⟩⟩⟩⟩
theorem lw_p48 : lw_okq (⟨"EggThronesModel", "placeBy", "(II)I"⟩, 40) := ⟨⟨by decide +kernel, by decide +kernel⟩, List.mem_of_getElem? (i := 830) (by decide +kernel), List.mem_of_getElem? (i := 1150) (by decide +kernel), List.mem_of_getElem? (i := 1151) (by decide +kernel)⟩
theorem lw_p49 : lw_okq (⟨"EggThronesModel", "dynastySet", "()I"⟩, 40) := ⟨⟨by decide +kernel, by decide +kernel⟩, List.mem_of_getElem? (i := 830) (by decide +kernel), List.mem_of_getElem? (i := 1162) (by decide +kernel), List.mem_of_getElem? (i := 1163) (by decide +kernel)⟩
theorem lw_p50 : lw_okq (⟨"EggThronesModel", "minutesOf", "(I)I"⟩, 40) := ⟨⟨by decide +kernel, by decide +kernel⟩, List.mem_of_getElem? (i := 830) (by decide +kernel), List.mem_of_getElem? (i := 1166) (by decide +kernel), List.mem_of_getElem? (i := 1167) (by decide +kernel)⟩
theorem lw_p51 : lw_okq (⟨"EggThronesModel", "giveBy", "(I)I"⟩, 40) := ⟨⟨by decide +kernel, by decide +kernel⟩, List.mem_of_getElem? (i := 830) (by decide +kernel), List.mem_of_getElem? (i := 1177) (by decide +kernel), List.mem_of_getElem? (i := 1178) (by decide +kernel)⟩
theorem lw_p52 : lw_okq (⟨"EggThronesModel", "likes", "(II)Z"⟩, 40) := ⟨⟨by decide +kernel, by decide +kernel⟩, List.mem_of_getElem? (i := 830) (by decide +kernel), List.mem_of_getElem? (i := 1181) (by decide +kernel), List.mem_of_getElem? (i := 1182) (by decide +kernel)⟩
theorem lw_p53 : lw_okq (⟨"EggThronesModel", "couldBe", "(I)Z"⟩, 40) := ⟨⟨by decide +kernel, by decide +kernel⟩, List.mem_of_getElem? (i := 830) (by decide +kernel), List.mem_of_getElem? (i := 1206) (by decide +kernel), List.mem_of_getElem? (i := 1207) (by decide +kernel)⟩
theorem lw_p54 : lw_okq (⟨"EggThronesModel", "greatestPart", "(I)I"⟩, 40) := ⟨⟨by decide +kernel, by decide +kernel⟩, List.mem_of_getElem? (i := 830) (by decide +kernel), List.mem_of_getElem? (i := 1214) (by decide +kernel), List.mem_of_getElem? (i := 1215) (by decide +kernel)⟩
def lw_privs_4 : List (MethodName × Nat) := [(⟨"EggThronesModel", "placeBy", "(II)I"⟩, 40), (⟨"EggThronesModel", "dynastySet", "()I"⟩, 40), (⟨"EggThronesModel", "minutesOf", "(I)I"⟩, 40), (⟨"EggThronesModel", "giveBy", "(I)I"⟩, 40), (⟨"EggThronesModel", "likes", "(II)Z"⟩, 40), (⟨"EggThronesModel", "couldBe", "(I)Z"⟩, 40), (⟨"EggThronesModel", "greatestPart", "(I)I"⟩, 40)]
theorem lw_r4 : ∀ q ∈ lw_privs_4, lw_okq q := List.forall_mem_cons.mpr ⟨lw_p48, List.forall_mem_cons.mpr ⟨lw_p49, List.forall_mem_cons.mpr ⟨lw_p50, List.forall_mem_cons.mpr ⟨lw_p51, List.forall_mem_cons.mpr ⟨lw_p52, List.forall_mem_cons.mpr ⟨lw_p53, List.forall_mem_cons.mpr ⟨lw_p54, fun _ h => absurd h List.not_mem_nil⟩⟩⟩⟩⟩⟩⟩
def lw_privs : List (MethodName × Nat) := lw_privs_1 ++ (lw_privs_2 ++ (lw_privs_3 ++ (lw_privs_4)))
def lw_tbl : List Cond := k2_sels lw_privs ++ tables_1
theorem lw_privs_ok : ∀ q ∈ lw_privs, lw_okq q := by
  show ∀ q ∈ lw_privs_1 ++ (lw_privs_2 ++ (lw_privs_3 ++ (lw_privs_4))), lw_okq q
  exact List.forall_mem_append.mpr ⟨lw_r1, List.forall_mem_append.mpr ⟨lw_r2, List.forall_mem_append.mpr ⟨lw_r3, lw_r4⟩⟩⟩
end
section
/-! ===== BEGIN words of one list among another's, by their places ===== -/
theorem goodIn_r {big : List Cond} (ws : List Cond) (ps : List Nat) (hp : ws = ps.filterMap (fun i => big[i]?)) (h : ws.all goodWord = true) : GoodIn big ws := by
  intro w hw
  have h1 := List.all_eq_true.mp h w hw
  rw [hp] at hw
  obtain ⟨i, -, hi⟩ := List.mem_filterMap.mp hw
  have hm : w ∈ big := by first | exact List.mem_of_getElem? hi | exact List.getElem?_mem hi
  exact ⟨hm, good_of_word h1⟩
theorem goodIn_app {big a b : List Cond} (ha : GoodIn big a) (hb : GoodIn big b) : GoodIn big (a ++ b) := fun w h => (List.mem_append.mp h).elim (ha w) (hb w)
theorem goodIn_ca {big a b : List Cond} {c : Cond} (ha : GoodIn big (c :: a)) (hb : GoodIn big b) : GoodIn big (c :: (a ++ b)) := fun w h => (List.mem_cons.mp h).elim (fun e => ha w (List.mem_cons.mpr (Or.inl e))) (fun h => (List.mem_append.mp h).elim (fun h => ha w (List.mem_cons.mpr (Or.inr h))) (hb w))
theorem goodIn_sub {big ws : List Cond} (hm : ∀ w ∈ ws, w ∈ big) (h : ws.all goodWord = true) : GoodIn big ws := fun w hw => ⟨hm w hw, good_of_word (List.all_eq_true.mp h w hw)⟩
/-! ===== END ===== -/

/-! ===== BEGIN printed: names, fields, word lists, decode rows ===== -/
def RX0 : String := "EggThrones$Boiling"
def TX0 : u_T := fun k => match k with
  | 0 => ("EggThrones$Boiling", "times", "[I", true)
  | 1 => ("EggThrones$Boiling", "loads", "[I", true)
  | 2 => ("EggThrones$Boiling", "way", "[I", true)
  | 3 => ("EggThrones$Boiling", "bestWay", "[I", true)
  | 4 => ("EggThrones$Boiling", "places", "I", false)
  | _ => ("EggThrones$Boiling", "least", "I", false)
def tyX0 : Nat → FieldType := fun k => match k with
  | 0 => .array .int
  | 1 => .array .int
  | 2 => .array .int
  | 3 => .array .int
  | 4 => .int
  | _ => .int
abbrev wsX00 : List Cond := u_ws RX0 TX0 6
theorem nmX0 : ∀ a, a < 6 → ∀ b, b < 6 → a ≠ b → (TX0 a).2.1 ≠ (TX0 b).2.1 := by decide +kernel
theorem tyX0_ok : ∀ k, k < 6 → parseFieldDescriptor (TX0 k).2.2.1 = some (tyX0 k) := by decide +kernel
abbrev cX0_init : ByteArray := prog_2_method_1_code
def yX0_init : MethodName := ⟨RX0, "<init>", "()V"⟩
abbrev cX0_fewest : ByteArray := prog_2_method_2_code
def yX0_fewest : MethodName := ⟨RX0, "fewest", "()I"⟩
abbrev cX0_placeOf : ByteArray := prog_2_method_3_code
def yX0_placeOf : MethodName := ⟨RX0, "placeOf", "(I)I"⟩
abbrev cX0_tryAll : ByteArray := prog_2_method_4_code
def yX0_tryAll : MethodName := ⟨RX0, "tryAll", "(LEggThrones$Table;I)V"⟩
abbrev cX0_tryFrom : ByteArray := prog_2_method_5_code
def yX0_tryFrom : MethodName := ⟨RX0, "tryFrom", "(LEggThrones$Boiling;I)V"⟩
abbrev cX0_takeOver : ByteArray := prog_2_method_6_code
def yX0_takeOver : MethodName := ⟨RX0, "takeOver", "()V"⟩
def RX1 : String := "EggThrones$Book"
def TX1 : u_T := fun k => match k with
  | 0 => ("EggThrones$Book", "eggs", "[I", true)
  | 1 => ("EggThrones$Book", "states", "[I", true)
  | _ => ("EggThrones$Book", "count", "I", false)
def tyX1 : Nat → FieldType := fun k => match k with
  | 0 => .array .int
  | 1 => .array .int
  | _ => .int
abbrev wsX10 : List Cond := u_ws RX1 TX1 3
theorem nmX1 : ∀ a, a < 3 → ∀ b, b < 3 → a ≠ b → (TX1 a).2.1 ≠ (TX1 b).2.1 := by decide +kernel
theorem tyX1_ok : ∀ k, k < 3 → parseFieldDescriptor (TX1 k).2.2.1 = some (tyX1 k) := by decide +kernel
abbrev cX1_init : ByteArray := prog_3_method_1_code
def yX1_init : MethodName := ⟨RX1, "<init>", "()V"⟩
abbrev cX1_forget : ByteArray := prog_3_method_2_code
def yX1_forget : MethodName := ⟨RX1, "forget", "()V"⟩
abbrev cX1_add : ByteArray := prog_3_method_3_code
def yX1_add : MethodName := ⟨RX1, "add", "(II)Z"⟩
abbrev cX1_firstWrong : ByteArray := prog_3_method_4_code
def yX1_firstWrong : MethodName := ⟨RX1, "firstWrong", "(LEggThrones$Morning;)I"⟩
def RX2 : String := "EggThrones$Clues"
def TX2 : u_T := fun k => match k with
  | 0 => ("EggThrones$Clues", "tests", "[I", true)
  | 1 => ("EggThrones$Clues", "answers", "[I", true)
  | _ => ("EggThrones$Clues", "count", "I", false)
def tyX2 : Nat → FieldType := fun k => match k with
  | 0 => .array .int
  | 1 => .array .int
  | _ => .int
abbrev wsX20 : List Cond := u_ws RX2 TX2 3
theorem nmX2 : ∀ a, a < 3 → ∀ b, b < 3 → a ≠ b → (TX2 a).2.1 ≠ (TX2 b).2.1 := by decide +kernel
theorem tyX2_ok : ∀ k, k < 3 → parseFieldDescriptor (TX2 k).2.2.1 = some (tyX2 k) := by decide +kernel
abbrev cX2_init : ByteArray := prog_4_method_1_code
def yX2_init : MethodName := ⟨RX2, "<init>", "()V"⟩
abbrev cX2_forget : ByteArray := prog_4_method_2_code
def yX2_forget : MethodName := ⟨RX2, "forget", "()V"⟩
abbrev cX2_add : ByteArray := prog_4_method_3_code
def yX2_add : MethodName := ⟨RX2, "add", "(II)Z"⟩
abbrev cX2_fittingAges : ByteArray := prog_4_method_4_code
def yX2_fittingAges : MethodName := ⟨RX2, "fittingAges", "()I"⟩
abbrev cX2_fits : ByteArray := prog_4_method_5_code
def yX2_fits : MethodName := ⟨RX2, "fits", "(I)Z"⟩
abbrev cX2_bestTest : ByteArray := prog_4_method_6_code
def yX2_bestTest : MethodName := ⟨RX2, "bestTest", "()I"⟩
abbrev cX2_greatestPart : ByteArray := prog_4_method_7_code
def yX2_greatestPart : MethodName := ⟨RX2, "greatestPart", "(II)I"⟩
def RX3 : String := "EggThrones$Images"
def TX3 : u_T := fun k => match k with
  | 0 => ("EggThrones$Images", "rows", "[I", true)
  | 1 => ("EggThrones$Images", "seeds", "[I", true)
  | _ => ("EggThrones$Images", "taken", "[Z", true)
def tyX3 : Nat → FieldType := fun k => match k with
  | 0 => .array .int
  | 1 => .array .int
  | _ => .array .boolean
abbrev wsX30 : List Cond := u_ws RX3 TX3 3
theorem nmX3 : ∀ a, a < 3 → ∀ b, b < 3 → a ≠ b → (TX3 a).2.1 ≠ (TX3 b).2.1 := by decide +kernel
theorem tyX3_ok : ∀ k, k < 3 → parseFieldDescriptor (TX3 k).2.2.1 = some (tyX3 k) := by decide +kernel
abbrev cX3_init : ByteArray := prog_5_method_1_code
def yX3_init : MethodName := ⟨RX3, "<init>", "()V"⟩
abbrev cX3_forget : ByteArray := prog_5_method_2_code
def yX3_forget : MethodName := ⟨RX3, "forget", "()V"⟩
abbrev cX3_has : ByteArray := prog_5_method_3_code
def yX3_has : MethodName := ⟨RX3, "has", "(I)Z"⟩
abbrev cX3_take : ByteArray := prog_5_method_4_code
def yX3_take : MethodName := ⟨RX3, "take", "(ILEggThrones$Morning;I)V"⟩
abbrev cX3_show : ByteArray := prog_5_method_5_code
def yX3_show : MethodName := ⟨RX3, "show", "(ILEggThrones$Morning;)V"⟩
abbrev cX3_seedOf : ByteArray := prog_5_method_6_code
def yX3_seedOf : MethodName := ⟨RX3, "seedOf", "(I)I"⟩
def RX4 : String := "EggThrones$Morning"
def TX4 : u_T := fun k => match k with
  | 0 => ("EggThrones$Morning", "table", "LEggThrones$Table;", true)
  | 1 => ("EggThrones$Morning", "states", "[I", true)
  | 2 => ("EggThrones$Morning", "boiled", "[I", true)
  | 3 => ("EggThrones$Morning", "king", "I", false)
  | 4 => ("EggThrones$Morning", "left", "I", false)
  | 5 => ("EggThrones$Morning", "soldiers", "I", false)
  | 6 => ("EggThrones$Morning", "minutes", "I", false)
  | 7 => ("EggThrones$Morning", "reigned", "I", false)
  | _ => ("EggThrones$Morning", "scraped", "I", false)
def tyX4 : Nat → FieldType := fun k => match k with
  | 0 => .object "EggThrones$Table"
  | 1 => .array .int
  | 2 => .array .int
  | 3 => .int
  | 4 => .int
  | 5 => .int
  | 6 => .int
  | 7 => .int
  | _ => .int
abbrev wsX40 : List Cond := u_ws RX4 TX4 9
theorem nmX4 : ∀ a, a < 9 → ∀ b, b < 9 → a ≠ b → (TX4 a).2.1 ≠ (TX4 b).2.1 := by decide +kernel
theorem tyX4_ok : ∀ k, k < 9 → parseFieldDescriptor (TX4 k).2.2.1 = some (tyX4 k) := by decide +kernel
abbrev cX4_init : ByteArray := prog_6_method_1_code
def yX4_init : MethodName := ⟨RX4, "<init>", "(LEggThrones$Table;)V"⟩
abbrev cX4_begin : ByteArray := prog_6_method_2_code
def yX4_begin : MethodName := ⟨RX4, "begin", "()V"⟩
abbrev cX4_stateOf : ByteArray := prog_6_method_3_code
def yX4_stateOf : MethodName := ⟨RX4, "stateOf", "(I)I"⟩
abbrev cX4_boiledOf : ByteArray := prog_6_method_4_code
def yX4_boiledOf : MethodName := ⟨RX4, "boiledOf", "(I)I"⟩
abbrev cX4_hardnessOf : ByteArray := prog_6_method_5_code
def yX4_hardnessOf : MethodName := ⟨RX4, "hardnessOf", "(I)I"⟩
abbrev cX4_reignOf : ByteArray := prog_6_method_6_code
def yX4_reignOf : MethodName := ⟨RX4, "reignOf", "(I)I"⟩
abbrev cX4_setThatIs : ByteArray := prog_6_method_7_code
def yX4_setThatIs : MethodName := ⟨RX4, "setThatIs", "(I)I"⟩
abbrev cX4_howManyInPan : ByteArray := prog_6_method_8_code
def yX4_howManyInPan : MethodName := ⟨RX4, "howManyInPan", "()I"⟩
abbrev cX4_pretenders : ByteArray := prog_6_method_9_code
def yX4_pretenders : MethodName := ⟨RX4, "pretenders", "()I"⟩
abbrev cX4_heir : ByteArray := prog_6_method_10_code
def yX4_heir : MethodName := ⟨RX4, "heir", "()I"⟩
abbrev cX4_canGoIn : ByteArray := prog_6_method_11_code
def yX4_canGoIn : MethodName := ⟨RX4, "canGoIn", "(I)Z"⟩
abbrev cX4_goIn : ByteArray := prog_6_method_12_code
def yX4_goIn : MethodName := ⟨RX4, "goIn", "(I)V"⟩
abbrev cX4_canComeOut : ByteArray := prog_6_method_13_code
def yX4_canComeOut : MethodName := ⟨RX4, "canComeOut", "(I)Z"⟩
abbrev cX4_comeOut : ByteArray := prog_6_method_14_code
def yX4_comeOut : MethodName := ⟨RX4, "comeOut", "(I)V"⟩
abbrev cX4_canBeKing : ByteArray := prog_6_method_15_code
def yX4_canBeKing : MethodName := ⟨RX4, "canBeKing", "(I)Z"⟩
abbrev cX4_becomeKing : ByteArray := prog_6_method_16_code
def yX4_becomeKing : MethodName := ⟨RX4, "becomeKing", "(I)V"⟩
abbrev cX4_passMinute : ByteArray := prog_6_method_17_code
def yX4_passMinute : MethodName := ⟨RX4, "passMinute", "()V"⟩
abbrev cX4_boilOneMore : ByteArray := prog_6_method_18_code
def yX4_boilOneMore : MethodName := ⟨RX4, "boilOneMore", "(I)V"⟩
abbrev cX4_passMinuteOfKing : ByteArray := prog_6_method_19_code
def yX4_passMinuteOfKing : MethodName := ⟨RX4, "passMinuteOfKing", "()V"⟩
abbrev cX4_endReign : ByteArray := prog_6_method_20_code
def yX4_endReign : MethodName := ⟨RX4, "endReign", "(I)V"⟩
abbrev cX4_setState : ByteArray := prog_6_method_21_code
def yX4_setState : MethodName := ⟨RX4, "setState", "(II)V"⟩
abbrev cX4_saveTo : ByteArray := prog_6_method_22_code
def yX4_saveTo : MethodName := ⟨RX4, "saveTo", "([II)V"⟩
abbrev cX4_loadFrom : ByteArray := prog_6_method_23_code
def yX4_loadFrom : MethodName := ⟨RX4, "loadFrom", "([II)V"⟩
abbrev cX4_isRow : ByteArray := prog_6_method_24_code
def yX4_isRow : MethodName := ⟨RX4, "isRow", "([II)Z"⟩
def RX5 : String := "EggThrones$Past"
def TX5 : u_T := fun k => match k with
  | 0 => ("EggThrones$Past", "rows", "[I", true)
  | 1 => ("EggThrones$Past", "oldest", "I", false)
  | _ => ("EggThrones$Past", "count", "I", false)
def tyX5 : Nat → FieldType := fun k => match k with
  | 0 => .array .int
  | 1 => .int
  | _ => .int
abbrev wsX50 : List Cond := u_ws RX5 TX5 3
theorem nmX5 : ∀ a, a < 3 → ∀ b, b < 3 → a ≠ b → (TX5 a).2.1 ≠ (TX5 b).2.1 := by decide +kernel
theorem tyX5_ok : ∀ k, k < 3 → parseFieldDescriptor (TX5 k).2.2.1 = some (tyX5 k) := by decide +kernel
abbrev cX5_init : ByteArray := prog_7_method_1_code
def yX5_init : MethodName := ⟨RX5, "<init>", "()V"⟩
abbrev cX5_forget : ByteArray := prog_7_method_2_code
def yX5_forget : MethodName := ⟨RX5, "forget", "()V"⟩
abbrev cX5_remember : ByteArray := prog_7_method_3_code
def yX5_remember : MethodName := ⟨RX5, "remember", "(LEggThrones$Morning;)V"⟩
abbrev cX5_bringBack : ByteArray := prog_7_method_4_code
def yX5_bringBack : MethodName := ⟨RX5, "bringBack", "(LEggThrones$Morning;)Z"⟩
def RX6 : String := "EggThrones$Sharing"
def TX6 : u_T := fun k => match k with
  | _ => ("EggThrones$Sharing", "likings", "[I", true)
def tyX6 : Nat → FieldType := fun k => match k with
  | _ => .array .int
abbrev wsX60 : List Cond := u_ws RX6 TX6 1
theorem nmX6 : ∀ a, a < 1 → ∀ b, b < 1 → a ≠ b → (TX6 a).2.1 ≠ (TX6 b).2.1 := by decide +kernel
theorem tyX6_ok : ∀ k, k < 1 → parseFieldDescriptor (TX6 k).2.2.1 = some (tyX6 k) := by decide +kernel
abbrev cX6_init : ByteArray := prog_8_method_1_code
def yX6_init : MethodName := ⟨RX6, "<init>", "()V"⟩
abbrev cX6_ask : ByteArray := prog_8_method_2_code
def yX6_ask : MethodName := ⟨RX6, "ask", "(LEggThrones$Table;LEggThrones$Morning;)V"⟩
abbrev cX6_liking : ByteArray := prog_8_method_3_code
def yX6_liking : MethodName := ⟨RX6, "liking", "(LEggThrones$Table;LEggThrones$Morning;I)I"⟩
abbrev cX6_most : ByteArray := prog_8_method_4_code
def yX6_most : MethodName := ⟨RX6, "most", "()I"⟩
abbrev cX6_eggFor : ByteArray := prog_8_method_5_code
def yX6_eggFor : MethodName := ⟨RX6, "eggFor", "(I)I"⟩
abbrev cX6_firstEgg : ByteArray := prog_8_method_6_code
def yX6_firstEgg : MethodName := ⟨RX6, "firstEgg", "(III)I"⟩
abbrev cX6_mostPairs : ByteArray := prog_8_method_7_code
def yX6_mostPairs : MethodName := ⟨RX6, "mostPairs", "([III)I"⟩
def RX7 : String := "EggThrones$Succession"
def TX7 : u_T := fun k => match k with
  | 0 => ("EggThrones$Succession", "kings", "I", false)
  | 1 => ("EggThrones$Succession", "minutes", "I", false)
  | _ => ("EggThrones$Succession", "set", "I", false)
def tyX7 : Nat → FieldType := fun k => match k with
  | 0 => .int
  | 1 => .int
  | _ => .int
abbrev wsX70 : List Cond := u_ws RX7 TX7 3
theorem nmX7 : ∀ a, a < 3 → ∀ b, b < 3 → a ≠ b → (TX7 a).2.1 ≠ (TX7 b).2.1 := by decide +kernel
theorem tyX7_ok : ∀ k, k < 3 → parseFieldDescriptor (TX7 k).2.2.1 = some (tyX7 k) := by decide +kernel
abbrev cX7_init : ByteArray := prog_9_method_1_code
def yX7_init : MethodName := ⟨RX7, "<init>", "()V"⟩
abbrev cX7_tryAll : ByteArray := prog_9_method_2_code
def yX7_tryAll : MethodName := ⟨RX7, "tryAll", "(LEggThrones$Morning;)V"⟩
abbrev cX7_weigh : ByteArray := prog_9_method_3_code
def yX7_weigh : MethodName := ⟨RX7, "weigh", "(LEggThrones$Morning;I)V"⟩
def RX8 : String := "EggThrones$Table"
def TX8 : u_T := fun k => match k with
  | 0 => ("EggThrones$Table", "places", "I", false)
  | 1 => ("EggThrones$Table", "toast", "I", false)
  | 2 => ("EggThrones$Table", "limit", "I", false)
  | 3 => ("EggThrones$Table", "eggs", "I", false)
  | 4 => ("EggThrones$Table", "eaters", "I", false)
  | 5 => ("EggThrones$Table", "ages", "[I", true)
  | 6 => ("EggThrones$Table", "sizes", "[I", true)
  | 7 => ("EggThrones$Table", "wishes", "[I", true)
  | 8 => ("EggThrones$Table", "softest", "[I", true)
  | _ => ("EggThrones$Table", "hardest", "[I", true)
def tyX8 : Nat → FieldType := fun k => match k with
  | 0 => .int
  | 1 => .int
  | 2 => .int
  | 3 => .int
  | 4 => .int
  | 5 => .array .int
  | 6 => .array .int
  | 7 => .array .int
  | 8 => .array .int
  | _ => .array .int
abbrev wsX80 : List Cond := u_ws RX8 TX8 10
theorem nmX8 : ∀ a, a < 10 → ∀ b, b < 10 → a ≠ b → (TX8 a).2.1 ≠ (TX8 b).2.1 := by decide +kernel
theorem tyX8_ok : ∀ k, k < 10 → parseFieldDescriptor (TX8 k).2.2.1 = some (tyX8 k) := by decide +kernel
abbrev cX8_init : ByteArray := prog_10_method_1_code
def yX8_init : MethodName := ⟨RX8, "<init>", "()V"⟩
abbrev cX8_clear : ByteArray := prog_10_method_2_code
def yX8_clear : MethodName := ⟨RX8, "clear", "()V"⟩
abbrev cX8_layPan : ByteArray := prog_10_method_3_code
def yX8_layPan : MethodName := ⟨RX8, "layPan", "(III)V"⟩
abbrev cX8_addEgg : ByteArray := prog_10_method_4_code
def yX8_addEgg : MethodName := ⟨RX8, "addEgg", "(II)V"⟩
abbrev cX8_addEater : ByteArray := prog_10_method_5_code
def yX8_addEater : MethodName := ⟨RX8, "addEater", "(II)V"⟩
abbrev cX8_become : ByteArray := prog_10_method_6_code
def yX8_become : MethodName := ⟨RX8, "become", "(LEggThrones$Table;)V"⟩
abbrev cX8_isLaid : ByteArray := prog_10_method_7_code
def yX8_isLaid : MethodName := ⟨RX8, "isLaid", "()Z"⟩
abbrev cX8_hasEgg : ByteArray := prog_10_method_8_code
def yX8_hasEgg : MethodName := ⟨RX8, "hasEgg", "(I)Z"⟩
abbrev cX8_hasEggs : ByteArray := prog_10_method_9_code
def yX8_hasEggs : MethodName := ⟨RX8, "hasEggs", "(I)Z"⟩
abbrev cX8_hasEater : ByteArray := prog_10_method_10_code
def yX8_hasEater : MethodName := ⟨RX8, "hasEater", "(I)Z"⟩
abbrev cX8_ageOf : ByteArray := prog_10_method_11_code
def yX8_ageOf : MethodName := ⟨RX8, "ageOf", "(I)I"⟩
abbrev cX8_sizeOf : ByteArray := prog_10_method_12_code
def yX8_sizeOf : MethodName := ⟨RX8, "sizeOf", "(I)I"⟩
abbrev cX8_wishOf : ByteArray := prog_10_method_13_code
def yX8_wishOf : MethodName := ⟨RX8, "wishOf", "(I)I"⟩
abbrev cX8_setWish : ByteArray := prog_10_method_14_code
def yX8_setWish : MethodName := ⟨RX8, "setWish", "(II)V"⟩
abbrev cX8_softestFor : ByteArray := prog_10_method_15_code
def yX8_softestFor : MethodName := ⟨RX8, "softestFor", "(I)I"⟩
abbrev cX8_hardestFor : ByteArray := prog_10_method_16_code
def yX8_hardestFor : MethodName := ⟨RX8, "hardestFor", "(I)I"⟩
abbrev cX8_hardness : ByteArray := prog_10_method_17_code
def yX8_hardness : MethodName := ⟨RX8, "hardness", "(II)I"⟩
abbrev cX8_reign : ByteArray := prog_10_method_18_code
def yX8_reign : MethodName := ⟨RX8, "reign", "(II)I"⟩
def RX9 : String := "EggThrones$Text"
def TX9 : u_T := fun k => match k with
  | 0 => ("EggThrones$Text", "letters", "[I", true)
  | 1 => ("EggThrones$Text", "count", "I", false)
  | 2 => ("EggThrones$Text", "at", "I", false)
  | 3 => ("EggThrones$Text", "faultNumber", "I", false)
  | _ => ("EggThrones$Text", "faultAt", "I", false)
def tyX9 : Nat → FieldType := fun k => match k with
  | 0 => .array .int
  | 1 => .int
  | 2 => .int
  | 3 => .int
  | _ => .int
abbrev wsX90 : List Cond := u_ws RX9 TX9 5
theorem nmX9 : ∀ a, a < 5 → ∀ b, b < 5 → a ≠ b → (TX9 a).2.1 ≠ (TX9 b).2.1 := by decide +kernel
theorem tyX9_ok : ∀ k, k < 5 → parseFieldDescriptor (TX9 k).2.2.1 = some (tyX9 k) := by decide +kernel
abbrev cX9_init : ByteArray := prog_11_method_1_code
def yX9_init : MethodName := ⟨RX9, "<init>", "()V"⟩
abbrev cX9_length : ByteArray := prog_11_method_2_code
def yX9_length : MethodName := ⟨RX9, "length", "()I"⟩
abbrev cX9_empty : ByteArray := prog_11_method_3_code
def yX9_empty : MethodName := ⟨RX9, "empty", "()V"⟩
abbrev cX9_faultPlace : ByteArray := prog_11_method_4_code
def yX9_faultPlace : MethodName := ⟨RX9, "faultPlace", "()I"⟩
abbrev cX9_add : ByteArray := prog_11_method_5_code
def yX9_add : MethodName := ⟨RX9, "add", "(I)Z"⟩
abbrev cX9_readInto : ByteArray := prog_11_method_6_code
def yX9_readInto : MethodName := ⟨RX9, "readInto", "(LEggThrones$Table;)I"⟩
abbrev cX9_readClause : ByteArray := prog_11_method_7_code
def yX9_readClause : MethodName := ⟨RX9, "readClause", "(LEggThrones$Table;)V"⟩
abbrev cX9_readPan : ByteArray := prog_11_method_8_code
def yX9_readPan : MethodName := ⟨RX9, "readPan", "(LEggThrones$Table;)V"⟩
abbrev cX9_readEgg : ByteArray := prog_11_method_9_code
def yX9_readEgg : MethodName := ⟨RX9, "readEgg", "(LEggThrones$Table;)V"⟩
abbrev cX9_readEater : ByteArray := prog_11_method_10_code
def yX9_readEater : MethodName := ⟨RX9, "readEater", "(LEggThrones$Table;)V"⟩
abbrev cX9_readNumber : ByteArray := prog_11_method_11_code
def yX9_readNumber : MethodName := ⟨RX9, "readNumber", "(II)I"⟩
abbrev cX9_readSemicolon : ByteArray := prog_11_method_12_code
def yX9_readSemicolon : MethodName := ⟨RX9, "readSemicolon", "()V"⟩
abbrev cX9_find : ByteArray := prog_11_method_13_code
def yX9_find : MethodName := ⟨RX9, "find", "(II)V"⟩
abbrev cX9_skipBlanks : ByteArray := prog_11_method_14_code
def yX9_skipBlanks : MethodName := ⟨RX9, "skipBlanks", "()I"⟩
abbrev cX9_letterAt : ByteArray := prog_11_method_15_code
def yX9_letterAt : MethodName := ⟨RX9, "letterAt", "(I)I"⟩
abbrev cX9_isFigure : ByteArray := prog_11_method_16_code
def yX9_isFigure : MethodName := ⟨RX9, "isFigure", "(I)Z"⟩
def RX10 : String := "EggThrones"
def TX10 : u_T := fun k => match k with
  | 0 => ("EggThrones", "text", "LEggThrones$Text;", true)
  | 1 => ("EggThrones", "laid", "LEggThrones$Table;", true)
  | 2 => ("EggThrones", "draft", "LEggThrones$Table;", true)
  | 3 => ("EggThrones", "now", "LEggThrones$Morning;", true)
  | 4 => ("EggThrones", "past", "LEggThrones$Past;", true)
  | 5 => ("EggThrones", "images", "LEggThrones$Images;", true)
  | 6 => ("EggThrones", "clues", "LEggThrones$Clues;", true)
  | 7 => ("EggThrones", "book", "LEggThrones$Book;", true)
  | 8 => ("EggThrones", "boiling", "LEggThrones$Boiling;", true)
  | 9 => ("EggThrones", "succession", "LEggThrones$Succession;", true)
  | 10 => ("EggThrones", "sharing", "LEggThrones$Sharing;", true)
  | 11 => ("EggThrones", "latestFaultAt", "I", false)
  | _ => ("EggThrones", "drawSeed", "I", false)
def tyX10 : Nat → FieldType := fun k => match k with
  | 0 => .object "EggThrones$Text"
  | 1 => .object "EggThrones$Table"
  | 2 => .object "EggThrones$Table"
  | 3 => .object "EggThrones$Morning"
  | 4 => .object "EggThrones$Past"
  | 5 => .object "EggThrones$Images"
  | 6 => .object "EggThrones$Clues"
  | 7 => .object "EggThrones$Book"
  | 8 => .object "EggThrones$Boiling"
  | 9 => .object "EggThrones$Succession"
  | 10 => .object "EggThrones$Sharing"
  | 11 => .int
  | _ => .int
abbrev wsX100 : List Cond := u_ws RX10 TX10 13
theorem nmX10 : ∀ a, a < 13 → ∀ b, b < 13 → a ≠ b → (TX10 a).2.1 ≠ (TX10 b).2.1 := by decide +kernel
theorem tyX10_ok : ∀ k, k < 13 → parseFieldDescriptor (TX10 k).2.2.1 = some (tyX10 k) := by decide +kernel
abbrev cX10_init : ByteArray := prog_1_method_1_code
def yX10_init : MethodName := ⟨RX10, "<init>", "()V"⟩
abbrev cX10_feed : ByteArray := prog_1_method_2_code
def yX10_feed : MethodName := ⟨RX10, "feed", "(I)I"⟩
abbrev cX10_table : ByteArray := prog_1_method_3_code
def yX10_table : MethodName := ⟨RX10, "table", "()I"⟩
abbrev cX10_fault : ByteArray := prog_1_method_4_code
def yX10_fault : MethodName := ⟨RX10, "fault", "()I"⟩
abbrev cX10_told : ByteArray := prog_1_method_5_code
def yX10_told : MethodName := ⟨RX10, "told", "(I)I"⟩
abbrev cX10_egg : ByteArray := prog_1_method_6_code
def yX10_egg : MethodName := ⟨RX10, "egg", "(II)I"⟩
abbrev cX10_eater : ByteArray := prog_1_method_7_code
def yX10_eater : MethodName := ⟨RX10, "eater", "(II)I"⟩
abbrev cX10_minute : ByteArray := prog_1_method_8_code
def yX10_minute : MethodName := ⟨RX10, "minute", "(I)I"⟩
abbrev cX10_put : ByteArray := prog_1_method_9_code
def yX10_put : MethodName := ⟨RX10, "put", "(I)I"⟩
abbrev cX10_takeOut : ByteArray := prog_1_method_10_code
def yX10_takeOut : MethodName := ⟨RX10, "takeOut", "(I)I"⟩
abbrev cX10_crown : ByteArray := prog_1_method_11_code
def yX10_crown : MethodName := ⟨RX10, "crown", "(I)I"⟩
abbrev cX10_cutToast : ByteArray := prog_1_method_12_code
def yX10_cutToast : MethodName := ⟨RX10, "cutToast", "(I)I"⟩
abbrev cX10_drift : ByteArray := prog_1_method_13_code
def yX10_drift : MethodName := ⟨RX10, "drift", "(I)I"⟩
abbrev cX10_undo : ByteArray := prog_1_method_14_code
def yX10_undo : MethodName := ⟨RX10, "undo", "()I"⟩
abbrev cX10_wish : ByteArray := prog_1_method_15_code
def yX10_wish : MethodName := ⟨RX10, "wish", "(II)I"⟩
abbrev cX10_needs : ByteArray := prog_1_method_16_code
def yX10_needs : MethodName := ⟨RX10, "needs", "(II)I"⟩
abbrev cX10_allBoiled : ByteArray := prog_1_method_17_code
def yX10_allBoiled : MethodName := ⟨RX10, "allBoiled", "(II)I"⟩
abbrev cX10_dynasty : ByteArray := prog_1_method_18_code
def yX10_dynasty : MethodName := ⟨RX10, "dynasty", "(I)I"⟩
abbrev cX10_liked : ByteArray := prog_1_method_19_code
def yX10_liked : MethodName := ⟨RX10, "liked", "(I)I"⟩
abbrev cX10_goose : ByteArray := prog_1_method_20_code
def yX10_goose : MethodName := ⟨RX10, "goose", "(II)I"⟩
abbrev cX10_whole : ByteArray := prog_1_method_21_code
def yX10_whole : MethodName := ⟨RX10, "whole", "(II)I"⟩
abbrev cX10_see : ByteArray := prog_1_method_22_code
def yX10_see : MethodName := ⟨RX10, "see", "(II)I"⟩
abbrev cX10_ages : ByteArray := prog_1_method_23_code
def yX10_ages : MethodName := ⟨RX10, "ages", "()I"⟩
abbrev cX10_testNext : ByteArray := prog_1_method_24_code
def yX10_testNext : MethodName := ⟨RX10, "testNext", "()I"⟩
abbrev cX10_write : ByteArray := prog_1_method_25_code
def yX10_write : MethodName := ⟨RX10, "write", "(II)I"⟩
abbrev cX10_tear : ByteArray := prog_1_method_26_code
def yX10_tear : MethodName := ⟨RX10, "tear", "()I"⟩
abbrev cX10_judge : ByteArray := prog_1_method_27_code
def yX10_judge : MethodName := ⟨RX10, "judge", "()I"⟩
abbrev cX10_seed : ByteArray := prog_1_method_28_code
def yX10_seed : MethodName := ⟨RX10, "seed", "(I)I"⟩
abbrev cX10_keep : ByteArray := prog_1_method_29_code
def yX10_keep : MethodName := ⟨RX10, "keep", "(I)I"⟩
abbrev cX10_goBack : ByteArray := prog_1_method_30_code
def yX10_goBack : MethodName := ⟨RX10, "goBack", "(I)I"⟩
abbrev cX10_isWithin : ByteArray := prog_1_method_31_code
def yX10_isWithin : MethodName := ⟨RX10, "isWithin", "(III)Z"⟩
abbrev cX10_refusalOfMinutes : ByteArray := prog_1_method_32_code
def yX10_refusalOfMinutes : MethodName := ⟨RX10, "refusalOfMinutes", "(I)I"⟩
abbrev cX10_actByDraws : ByteArray := prog_1_method_33_code
def yX10_actByDraws : MethodName := ⟨RX10, "actByDraws", "()V"⟩
abbrev cX10_draw : ByteArray := prog_1_method_34_code
def yX10_draw : MethodName := ⟨RX10, "draw", "(I)I"⟩
def RX11 : String := "EggThronesModel"
def TX11 : u_T := fun k => match k with
  | 0 => ("EggThronesModel", "holds", "I", false)
  | 1 => ("EggThronesModel", "bears", "I", false)
  | 2 => ("EggThronesModel", "eggs", "I", false)
  | 3 => ("EggThronesModel", "age", "[I", true)
  | 4 => ("EggThronesModel", "size", "[I", true)
  | 5 => ("EggThronesModel", "eaters", "I", false)
  | 6 => ("EggThronesModel", "likesLeast", "[I", true)
  | 7 => ("EggThronesModel", "likesMost", "[I", true)
  | 8 => ("EggThronesModel", "wishes", "[I", true)
  | 9 => ("EggThronesModel", "now", "[I", true)
  | 10 => ("EggThronesModel", "seed", "I", false)
  | 11 => ("EggThronesModel", "text", "[I", true)
  | 12 => ("EggThronesModel", "texted", "I", false)
  | 13 => ("EggThronesModel", "faultPlace", "I", false)
  | 14 => ("EggThronesModel", "at0", "I", false)
  | 15 => ("EggThronesModel", "number", "I", false)
  | 16 => ("EggThronesModel", "numberAt", "I", false)
  | 17 => ("EggThronesModel", "readPan", "[I", true)
  | 18 => ("EggThronesModel", "readEggs", "I", false)
  | 19 => ("EggThronesModel", "readAge", "[I", true)
  | 20 => ("EggThronesModel", "readSize", "[I", true)
  | 21 => ("EggThronesModel", "readEaters", "I", false)
  | 22 => ("EggThronesModel", "readLeast", "[I", true)
  | 23 => ("EggThronesModel", "readMost", "[I", true)
  | 24 => ("EggThronesModel", "undos", "I", false)
  | 25 => ("EggThronesModel", "past", "[I", true)
  | 26 => ("EggThronesModel", "places", "[I", true)
  | 27 => ("EggThronesModel", "bestPlaces", "[I", true)
  | 28 => ("EggThronesModel", "loads", "[I", true)
  | 29 => ("EggThronesModel", "given", "[I", true)
  | 30 => ("EggThronesModel", "bestGiven", "[I", true)
  | 31 => ("EggThronesModel", "seen", "I", false)
  | 32 => ("EggThronesModel", "seenBy", "[I", true)
  | 33 => ("EggThronesModel", "seenIs", "[I", true)
  | 34 => ("EggThronesModel", "parts", "[I", true)
  | 35 => ("EggThronesModel", "booked", "I", false)
  | 36 => ("EggThronesModel", "bookOf", "[I", true)
  | 37 => ("EggThronesModel", "bookIs", "[I", true)
  | 38 => ("EggThronesModel", "images", "[I", true)
  | _ => ("EggThronesModel", "isKept", "[Z", true)
def tyX11 : Nat → FieldType := fun k => match k with
  | 0 => .int
  | 1 => .int
  | 2 => .int
  | 3 => .array .int
  | 4 => .array .int
  | 5 => .int
  | 6 => .array .int
  | 7 => .array .int
  | 8 => .array .int
  | 9 => .array .int
  | 10 => .int
  | 11 => .array .int
  | 12 => .int
  | 13 => .int
  | 14 => .int
  | 15 => .int
  | 16 => .int
  | 17 => .array .int
  | 18 => .int
  | 19 => .array .int
  | 20 => .array .int
  | 21 => .int
  | 22 => .array .int
  | 23 => .array .int
  | 24 => .int
  | 25 => .array .int
  | 26 => .array .int
  | 27 => .array .int
  | 28 => .array .int
  | 29 => .array .int
  | 30 => .array .int
  | 31 => .int
  | 32 => .array .int
  | 33 => .array .int
  | 34 => .array .int
  | 35 => .int
  | 36 => .array .int
  | 37 => .array .int
  | 38 => .array .int
  | _ => .array .boolean
abbrev wsX110 : List Cond := u_ws RX11 TX11 40
theorem nmX11 : ∀ a, a < 40 → ∀ b, b < 40 → a ≠ b → (TX11 a).2.1 ≠ (TX11 b).2.1 := by decide +kernel
theorem tyX11_ok : ∀ k, k < 40 → parseFieldDescriptor (TX11 k).2.2.1 = some (tyX11 k) := by decide +kernel
abbrev cX11_init : ByteArray := prog_13_method_1_code
def yX11_init : MethodName := ⟨RX11, "<init>", "()V"⟩
abbrev cX11_in : ByteArray := prog_13_method_3_code
def yX11_in : MethodName := ⟨RX11, "in", "(JJJ)Z"⟩
abbrev cX11_has : ByteArray := prog_13_method_4_code
def yX11_has : MethodName := ⟨RX11, "has", "(II)Z"⟩
abbrev cX11_isEgg : ByteArray := prog_13_method_5_code
def yX11_isEgg : MethodName := ⟨RX11, "isEgg", "(I)Z"⟩
abbrev cX11_isEater : ByteArray := prog_13_method_6_code
def yX11_isEater : MethodName := ⟨RX11, "isEater", "(I)Z"⟩
abbrev cX11_feed : ByteArray := prog_13_method_7_code
def yX11_feed : MethodName := ⟨RX11, "feed", "(I)I"⟩
abbrev cX11_here : ByteArray := prog_13_method_8_code
def yX11_here : MethodName := ⟨RX11, "here", "()I"⟩
abbrev cX11_fails : ByteArray := prog_13_method_9_code
def yX11_fails : MethodName := ⟨RX11, "fails", "(II)I"⟩
abbrev cX11_takeNumber : ByteArray := prog_13_method_10_code
def yX11_takeNumber : MethodName := ⟨RX11, "takeNumber", "(II)I"⟩
abbrev cX11_into : ByteArray := prog_13_method_11_code
def yX11_into : MethodName := ⟨RX11, "into", "([IIII)I"⟩
abbrev cX11_takePan : ByteArray := prog_13_method_12_code
def yX11_takePan : MethodName := ⟨RX11, "takePan", "()I"⟩
abbrev cX11_takeEgg : ByteArray := prog_13_method_13_code
def yX11_takeEgg : MethodName := ⟨RX11, "takeEgg", "()I"⟩
abbrev cX11_takeEater : ByteArray := prog_13_method_14_code
def yX11_takeEater : MethodName := ⟨RX11, "takeEater", "()I"⟩
abbrev cX11_takeClause : ByteArray := prog_13_method_15_code
def yX11_takeClause : MethodName := ⟨RX11, "takeClause", "()I"⟩
abbrev cX11_takeRead : ByteArray := prog_13_method_16_code
def yX11_takeRead : MethodName := ⟨RX11, "takeRead", "()V"⟩
abbrev cX11_table : ByteArray := prog_13_method_17_code
def yX11_table : MethodName := ⟨RX11, "table", "()I"⟩
abbrev cX11_fault : ByteArray := prog_13_method_18_code
def yX11_fault : MethodName := ⟨RX11, "fault", "()I"⟩
abbrev cX11_hardBy : ByteArray := prog_13_method_19_code
def yX11_hardBy : MethodName := ⟨RX11, "hardBy", "(II)I"⟩
abbrev cX11_hard : ByteArray := prog_13_method_20_code
def yX11_hard : MethodName := ⟨RX11, "hard", "(I)I"⟩
abbrev cX11_reignBy : ByteArray := prog_13_method_21_code
def yX11_reignBy : MethodName := ⟨RX11, "reignBy", "(II)I"⟩
abbrev cX11_reign : ByteArray := prog_13_method_22_code
def yX11_reign : MethodName := ⟨RX11, "reign", "(I)I"⟩
abbrev cX11_allThat : ByteArray := prog_13_method_23_code
def yX11_allThat : MethodName := ⟨RX11, "allThat", "(I)I"⟩
abbrev cX11_king : ByteArray := prog_13_method_24_code
def yX11_king : MethodName := ⟨RX11, "king", "()I"⟩
abbrev cX11_inPan : ByteArray := prog_13_method_25_code
def yX11_inPan : MethodName := ⟨RX11, "inPan", "()I"⟩
abbrev cX11_pretenders : ByteArray := prog_13_method_26_code
def yX11_pretenders : MethodName := ⟨RX11, "pretenders", "()I"⟩
abbrev cX11_heir : ByteArray := prog_13_method_27_code
def yX11_heir : MethodName := ⟨RX11, "heir", "()I"⟩
abbrev cX11_told : ByteArray := prog_13_method_28_code
def yX11_told : MethodName := ⟨RX11, "told", "(I)I"⟩
abbrev cX11_egg : ByteArray := prog_13_method_29_code
def yX11_egg : MethodName := ⟨RX11, "egg", "(II)I"⟩
abbrev cX11_eater : ByteArray := prog_13_method_30_code
def yX11_eater : MethodName := ⟨RX11, "eater", "(II)I"⟩
abbrev cX11_remember : ByteArray := prog_13_method_31_code
def yX11_remember : MethodName := ⟨RX11, "remember", "()V"⟩
abbrev cX11_pass : ByteArray := prog_13_method_32_code
def yX11_pass : MethodName := ⟨RX11, "pass", "()V"⟩
abbrev cX11_minutesRefused : ByteArray := prog_13_method_33_code
def yX11_minutesRefused : MethodName := ⟨RX11, "minutesRefused", "(I)I"⟩
abbrev cX11_minute : ByteArray := prog_13_method_34_code
def yX11_minute : MethodName := ⟨RX11, "minute", "(I)I"⟩
abbrev cX11_canPut : ByteArray := prog_13_method_35_code
def yX11_canPut : MethodName := ⟨RX11, "canPut", "(I)Z"⟩
abbrev cX11_canCrown : ByteArray := prog_13_method_36_code
def yX11_canCrown : MethodName := ⟨RX11, "canCrown", "(I)Z"⟩
abbrev cX11_crownNow : ByteArray := prog_13_method_37_code
def yX11_crownNow : MethodName := ⟨RX11, "crownNow", "(I)V"⟩
abbrev cX11_put : ByteArray := prog_13_method_38_code
def yX11_put : MethodName := ⟨RX11, "put", "(I)I"⟩
abbrev cX11_takeOut : ByteArray := prog_13_method_39_code
def yX11_takeOut : MethodName := ⟨RX11, "takeOut", "(I)I"⟩
abbrev cX11_crown : ByteArray := prog_13_method_40_code
def yX11_crown : MethodName := ⟨RX11, "crown", "(I)I"⟩
abbrev cX11_cutToast : ByteArray := prog_13_method_41_code
def yX11_cutToast : MethodName := ⟨RX11, "cutToast", "(I)I"⟩
abbrev cX11_draw : ByteArray := prog_13_method_42_code
def yX11_draw : MethodName := ⟨RX11, "draw", "(I)I"⟩
abbrev cX11_chance : ByteArray := prog_13_method_43_code
def yX11_chance : MethodName := ⟨RX11, "chance", "()V"⟩
abbrev cX11_drift : ByteArray := prog_13_method_44_code
def yX11_drift : MethodName := ⟨RX11, "drift", "(I)I"⟩
abbrev cX11_undo : ByteArray := prog_13_method_45_code
def yX11_undo : MethodName := ⟨RX11, "undo", "()I"⟩
abbrev cX11_wish : ByteArray := prog_13_method_46_code
def yX11_wish : MethodName := ⟨RX11, "wish", "(II)I"⟩
abbrev cX11_needs : ByteArray := prog_13_method_47_code
def yX11_needs : MethodName := ⟨RX11, "needs", "(II)I"⟩
abbrev cX11_placeBy : ByteArray := prog_13_method_48_code
def yX11_placeBy : MethodName := ⟨RX11, "placeBy", "(II)I"⟩
abbrev cX11_allBoiled : ByteArray := prog_13_method_49_code
def yX11_allBoiled : MethodName := ⟨RX11, "allBoiled", "(II)I"⟩
abbrev cX11_minutesOf : ByteArray := prog_13_method_50_code
def yX11_minutesOf : MethodName := ⟨RX11, "minutesOf", "(I)I"⟩
abbrev cX11_bits : ByteArray := prog_13_method_51_code
def yX11_bits : MethodName := ⟨RX11, "bits", "(I)I"⟩
abbrev cX11_dynastySet : ByteArray := prog_13_method_52_code
def yX11_dynastySet : MethodName := ⟨RX11, "dynastySet", "()I"⟩
abbrev cX11_dynasty : ByteArray := prog_13_method_53_code
def yX11_dynasty : MethodName := ⟨RX11, "dynasty", "(I)I"⟩
abbrev cX11_likes : ByteArray := prog_13_method_54_code
def yX11_likes : MethodName := ⟨RX11, "likes", "(II)Z"⟩
abbrev cX11_giveBy : ByteArray := prog_13_method_55_code
def yX11_giveBy : MethodName := ⟨RX11, "giveBy", "(I)I"⟩
abbrev cX11_liked : ByteArray := prog_13_method_56_code
def yX11_liked : MethodName := ⟨RX11, "liked", "(I)I"⟩
abbrev cX11_goose : ByteArray := prog_13_method_57_code
def yX11_goose : MethodName := ⟨RX11, "goose", "(II)I"⟩
abbrev cX11_whole : ByteArray := prog_13_method_58_code
def yX11_whole : MethodName := ⟨RX11, "whole", "(II)I"⟩
abbrev cX11_see : ByteArray := prog_13_method_59_code
def yX11_see : MethodName := ⟨RX11, "see", "(II)I"⟩
abbrev cX11_couldBe : ByteArray := prog_13_method_60_code
def yX11_couldBe : MethodName := ⟨RX11, "couldBe", "(I)Z"⟩
abbrev cX11_ages : ByteArray := prog_13_method_61_code
def yX11_ages : MethodName := ⟨RX11, "ages", "()I"⟩
abbrev cX11_greatestPart : ByteArray := prog_13_method_62_code
def yX11_greatestPart : MethodName := ⟨RX11, "greatestPart", "(I)I"⟩
abbrev cX11_testNext : ByteArray := prog_13_method_63_code
def yX11_testNext : MethodName := ⟨RX11, "testNext", "()I"⟩
abbrev cX11_write : ByteArray := prog_13_method_64_code
def yX11_write : MethodName := ⟨RX11, "write", "(II)I"⟩
abbrev cX11_tear : ByteArray := prog_13_method_65_code
def yX11_tear : MethodName := ⟨RX11, "tear", "()I"⟩
abbrev cX11_judge : ByteArray := prog_13_method_66_code
def yX11_judge : MethodName := ⟨RX11, "judge", "()I"⟩
abbrev cX11_seed : ByteArray := prog_13_method_67_code
def yX11_seed : MethodName := ⟨RX11, "seed", "(I)I"⟩
abbrev cX11_keep : ByteArray := prog_13_method_68_code
def yX11_keep : MethodName := ⟨RX11, "keep", "(I)I"⟩
abbrev cX11_goBack : ByteArray := prog_13_method_69_code
def yX11_goBack : MethodName := ⟨RX11, "goBack", "(I)I"⟩
def RJ6 : String := "java/lang/Integer"
def TJ6 : u_T := fun k => match k with
  | _ => ("", "", "", false)
def tyJ6 : Nat → FieldType := fun k => match k with
  | _ => .int
abbrev wsJ60 : List Cond := u_ws RJ6 TJ6 0
theorem nmJ6 : ∀ a, a < 0 → ∀ b, b < 0 → a ≠ b → (TJ6 a).2.1 ≠ (TJ6 b).2.1 := by decide +kernel
theorem tyJ6_ok : ∀ k, k < 0 → parseFieldDescriptor (TJ6 k).2.2.1 = some (tyJ6 k) := by decide +kernel
abbrev cJ6_bitCount_0f7a4 : ByteArray := prog_14_method_49_code
def yJ6_bitCount_0f7a4 : MethodName := ⟨RJ6, "bitCount", "(I)I"⟩
def RJ9 : String := "java/lang/Math"
def TJ9 : u_T := fun k => match k with
  | _ => ("", "", "", false)
def tyJ9 : Nat → FieldType := fun k => match k with
  | _ => .int
abbrev wsJ90 : List Cond := u_ws RJ9 TJ9 0
theorem nmJ9 : ∀ a, a < 0 → ∀ b, b < 0 → a ≠ b → (TJ9 a).2.1 ≠ (TJ9 b).2.1 := by decide +kernel
theorem tyJ9_ok : ∀ k, k < 0 → parseFieldDescriptor (TJ9 k).2.2.1 = some (tyJ9 k) := by decide +kernel
abbrev cJ9_max_7cf53 : ByteArray := prog_15_method_65_code
def yJ9_max_7cf53 : MethodName := ⟨RJ9, "max", "(II)I"⟩
abbrev cJ9_min_7cf53 : ByteArray := prog_15_method_69_code
def yJ9_min_7cf53 : MethodName := ⟨RJ9, "min", "(II)I"⟩
def RJ10 : String := "java/lang/System"
def TJ10 : u_T := fun k => match k with
  | _ => ("", "", "", false)
def tyJ10 : Nat → FieldType := fun k => match k with
  | _ => .int
abbrev wsJ100 : List Cond := u_ws RJ10 TJ10 0
theorem nmJ10 : ∀ a, a < 0 → ∀ b, b < 0 → a ≠ b → (TJ10 a).2.1 ≠ (TJ10 b).2.1 := by decide +kernel
theorem tyJ10_ok : ∀ k, k < 0 → parseFieldDescriptor (TJ10 k).2.2.1 = some (tyJ10 k) := by decide +kernel
def RL : String := "EggThronesLaw"
abbrev cL_law : ByteArray := code
def yL_law : MethodName := ⟨RL, "law", "([I)Z"⟩
def wsX0_init : List Cond := .code yX0_init cX0_init 1 none :: ([.methodLink RX0 3 objectInit, .instanceMethod objectInit, .code objectInit ⟨#[0xb1]⟩ 1 none, .arrayClass .int, .fieldLink RX0 9 "EggThrones$Boiling" "times" "[I", .fieldLink RX0 15 "EggThrones$Boiling" "loads" "[I", .fieldLink RX0 18 "EggThrones$Boiling" "way" "[I", .fieldLink RX0 21 "EggThrones$Boiling" "bestWay" "[I", .fieldLink RX0 24 "EggThrones$Boiling" "places" "I", .fieldLink RX0 28 "EggThrones$Boiling" "least" "I"] ++ wsX00)
def wsX0_fewest : List Cond := .code yX0_fewest cX0_fewest 1 (some .int) :: ([.fieldLink RX0 28 "EggThrones$Boiling" "least" "I"] ++ wsX00)
def wsX0_placeOf : List Cond := .code yX0_placeOf cX0_placeOf 2 (some .int) :: ([.fieldLink RX0 21 "EggThrones$Boiling" "bestWay" "[I"] ++ wsX00)
def wsX8_hasEgg : List Cond := .code yX8_hasEgg cX8_hasEgg 2 (some .boolean) :: ([.fieldLink RX8 37 "EggThrones$Table" "eggs" "I"] ++ wsX80)
def wsX8_wishOf : List Cond := .code yX8_wishOf cX8_wishOf 2 (some .int) :: ([.fieldLink RX8 18 "EggThrones$Table" "wishes" "[I", .methodLink RX8 59 yX8_hasEgg, .instanceMethod yX8_hasEgg, .selects RX8 yX8_hasEgg yX8_hasEgg, .initialized RX8, .code yX8_hasEgg cX8_hasEgg 2 (some .boolean), .fieldLink RX8 37 "EggThrones$Table" "eggs" "I"] ++ wsX80)
def wsX0_takeOver : List Cond := .code yX0_takeOver cX0_takeOver 3 none :: ([.fieldLink RX0 15 "EggThrones$Boiling" "loads" "[I", .methodLink RX0 52 Lib.Math.max.name, .static Lib.Math.max.name, .initialized "java/lang/Math", .code Lib.Math.max.name Lib.Math.max.code 2 (some .int), .fieldLink RX0 28 "EggThrones$Boiling" "least" "I", .fieldLink RX0 18 "EggThrones$Boiling" "way" "[I", .fieldLink RX0 21 "EggThrones$Boiling" "bestWay" "[I", .methodLink RX0 55 arraycopyName, .native arraycopyName, .static arraycopyName, .initialized "java/lang/System"] ++ wsX00)
def wsX0_tryFrom : List Cond := .code yX0_tryFrom cX0_tryFrom 4 none :: ([.fieldLink RX0 9 "EggThrones$Boiling" "times" "[I", .fieldLink RX0 24 "EggThrones$Boiling" "places" "I", .fieldLink RX0 15 "EggThrones$Boiling" "loads" "[I", .fieldLink RX0 28 "EggThrones$Boiling" "least" "I", .fieldLink RX0 18 "EggThrones$Boiling" "way" "[I", .methodLink RX0 49 yX0_takeOver, .instanceMethod yX0_takeOver, .selects RX0 yX0_takeOver yX0_takeOver, .initialized RX0, .code yX0_takeOver cX0_takeOver 3 none, .methodLink RX0 52 Lib.Math.max.name, .static Lib.Math.max.name, .initialized "java/lang/Math", .code Lib.Math.max.name Lib.Math.max.code 2 (some .int), .fieldLink RX0 21 "EggThrones$Boiling" "bestWay" "[I", .methodLink RX0 55 arraycopyName, .native arraycopyName, .static arraycopyName, .initialized "java/lang/System", .methodLink RX0 45 yX0_tryFrom, .static yX0_tryFrom] ++ wsX00)
def wsX0_tryAll_r1 : List Cond := [Cond.methodLink RX0 34 Lib.Math.min.name, Cond.static Lib.Math.min.name, Cond.initialized "java/lang/Math", Cond.code Lib.Math.min.name Lib.Math.min.code 2 (some .int), Cond.fieldLink RX0 24 "EggThrones$Boiling" "places" "I", Cond.constant RX0 40 (1000000), Cond.fieldLink RX0 28 "EggThrones$Boiling" "least" "I", Cond.fieldLink RX0 9 "EggThrones$Boiling" "times" "[I", Cond.fieldLink RX0 18 "EggThrones$Boiling" "way" "[I", Cond.fieldLink RX0 15 "EggThrones$Boiling" "loads" "[I", Cond.methodLink RX0 41 yX8_wishOf, Cond.instanceMethod yX8_wishOf, Cond.selects RX8 yX8_wishOf yX8_wishOf, Cond.initialized RX8, Cond.code yX8_wishOf cX8_wishOf 2 (some .int), Cond.fieldLink RX8 18 "EggThrones$Table" "wishes" "[I", Cond.methodLink RX8 59 yX8_hasEgg, Cond.instanceMethod yX8_hasEgg, Cond.selects RX8 yX8_hasEgg yX8_hasEgg, Cond.code yX8_hasEgg cX8_hasEgg 2 (some .boolean), Cond.fieldLink RX8 37 "EggThrones$Table" "eggs" "I", Cond.methodLink RX0 45 yX0_tryFrom, Cond.static yX0_tryFrom, Cond.initialized RX0]
def wsX0_tryAll_r2 : List Cond := [Cond.code yX0_tryFrom cX0_tryFrom 4 none, Cond.methodLink RX0 49 yX0_takeOver, Cond.instanceMethod yX0_takeOver, Cond.selects RX0 yX0_takeOver yX0_takeOver, Cond.code yX0_takeOver cX0_takeOver 3 none, Cond.methodLink RX0 52 Lib.Math.max.name, Cond.static Lib.Math.max.name, Cond.code Lib.Math.max.name Lib.Math.max.code 2 (some .int), Cond.fieldLink RX0 21 "EggThrones$Boiling" "bestWay" "[I", Cond.methodLink RX0 55 arraycopyName, Cond.native arraycopyName, Cond.static arraycopyName, Cond.initialized "java/lang/System"]
def wsX0_tryAll : List Cond := .code yX0_tryAll cX0_tryAll 4 none :: ((wsX0_tryAll_r1 ++ wsX0_tryAll_r2) ++ wsX80 ++ wsX00)
def wsX1_init : List Cond := .code yX1_init cX1_init 1 none :: ([.methodLink RX1 3 objectInit, .instanceMethod objectInit, .code objectInit ⟨#[0xb1]⟩ 1 none, .arrayClass .int, .fieldLink RX1 9 "EggThrones$Book" "eggs" "[I", .fieldLink RX1 15 "EggThrones$Book" "states" "[I", .fieldLink RX1 18 "EggThrones$Book" "count" "I"] ++ wsX10)
def wsX1_forget : List Cond := .code yX1_forget cX1_forget 1 none :: ([.fieldLink RX1 18 "EggThrones$Book" "count" "I"] ++ wsX10)
def wsX1_add : List Cond := .code yX1_add cX1_add 3 (some .boolean) :: ([.fieldLink RX1 18 "EggThrones$Book" "count" "I", .fieldLink RX1 9 "EggThrones$Book" "eggs" "[I", .fieldLink RX1 15 "EggThrones$Book" "states" "[I"] ++ wsX10)
def wsX4_stateOf : List Cond := .code yX4_stateOf cX4_stateOf 2 (some .int) :: ([.fieldLink RX4 9 "EggThrones$Morning" "table" "LEggThrones$Table;", .fieldLink RX4 15 "EggThrones$Morning" "states" "[I", .methodLink RX4 46 yX8_hasEgg, .instanceMethod yX8_hasEgg, .selects RX8 yX8_hasEgg yX8_hasEgg, .initialized RX8, .code yX8_hasEgg cX8_hasEgg 2 (some .boolean), .fieldLink RX8 37 "EggThrones$Table" "eggs" "I"] ++ wsX40 ++ wsX80)
def wsX1_firstWrong : List Cond := .code yX1_firstWrong cX1_firstWrong 3 (some .int) :: ([.fieldLink RX1 18 "EggThrones$Book" "count" "I", .fieldLink RX1 9 "EggThrones$Book" "eggs" "[I", .fieldLink RX1 15 "EggThrones$Book" "states" "[I", .methodLink RX1 22 yX4_stateOf, .instanceMethod yX4_stateOf, .selects RX4 yX4_stateOf yX4_stateOf, .initialized RX4, .code yX4_stateOf cX4_stateOf 2 (some .int), .fieldLink RX4 9 "EggThrones$Morning" "table" "LEggThrones$Table;", .fieldLink RX4 15 "EggThrones$Morning" "states" "[I", .methodLink RX4 46 yX8_hasEgg, .instanceMethod yX8_hasEgg, .selects RX8 yX8_hasEgg yX8_hasEgg, .initialized RX8, .code yX8_hasEgg cX8_hasEgg 2 (some .boolean), .fieldLink RX8 37 "EggThrones$Table" "eggs" "I"] ++ wsX10 ++ wsX40 ++ wsX80)
def wsX2_init : List Cond := .code yX2_init cX2_init 1 none :: ([.methodLink RX2 3 objectInit, .instanceMethod objectInit, .code objectInit ⟨#[0xb1]⟩ 1 none, .arrayClass .int, .fieldLink RX2 9 "EggThrones$Clues" "tests" "[I", .fieldLink RX2 15 "EggThrones$Clues" "answers" "[I", .fieldLink RX2 18 "EggThrones$Clues" "count" "I"] ++ wsX20)
def wsX2_forget : List Cond := .code yX2_forget cX2_forget 1 none :: ([.fieldLink RX2 18 "EggThrones$Clues" "count" "I"] ++ wsX20)
def wsX2_add : List Cond := .code yX2_add cX2_add 3 (some .boolean) :: ([.fieldLink RX2 18 "EggThrones$Clues" "count" "I", .fieldLink RX2 9 "EggThrones$Clues" "tests" "[I", .fieldLink RX2 15 "EggThrones$Clues" "answers" "[I"] ++ wsX20)
def wsX2_fits : List Cond := .code yX2_fits cX2_fits 3 (some .boolean) :: ([.fieldLink RX2 18 "EggThrones$Clues" "count" "I", .fieldLink RX2 9 "EggThrones$Clues" "tests" "[I", .fieldLink RX2 15 "EggThrones$Clues" "answers" "[I"] ++ wsX20)
def wsX2_fittingAges : List Cond := .code yX2_fittingAges cX2_fittingAges 3 (some .int) :: ([.methodLink RX2 22 yX2_fits, .instanceMethod yX2_fits, .selects RX2 yX2_fits yX2_fits, .initialized RX2, .code yX2_fits cX2_fits 3 (some .boolean), .fieldLink RX2 18 "EggThrones$Clues" "count" "I", .fieldLink RX2 9 "EggThrones$Clues" "tests" "[I", .fieldLink RX2 15 "EggThrones$Clues" "answers" "[I"] ++ wsX20)
def wsJ6_bitCount_0f7a4 : List Cond := .code yJ6_bitCount_0f7a4 cJ6_bitCount_0f7a4 1 (some .int) :: ([.constant RJ6 265 (1431655765), .constant RJ6 266 (858993459), .constant RJ6 267 (252645135)])
def wsX2_greatestPart : List Cond := .code yX2_greatestPart cX2_greatestPart 5 (some .int) :: ([.methodLink RX2 40 Lib.Math.max.name, .static Lib.Math.max.name, .initialized "java/lang/Math", .code Lib.Math.max.name Lib.Math.max.code 2 (some .int)])
def wsX2_bestTest_r1 : List Cond := [Cond.methodLink RX2 26 yX2_fittingAges, Cond.instanceMethod yX2_fittingAges, Cond.selects RX2 yX2_fittingAges yX2_fittingAges, Cond.initialized RX2, Cond.code yX2_fittingAges cX2_fittingAges 3 (some .int), Cond.methodLink RX2 22 yX2_fits, Cond.instanceMethod yX2_fits, Cond.selects RX2 yX2_fits yX2_fits, Cond.code yX2_fits cX2_fits 3 (some .boolean), Cond.fieldLink RX2 18 "EggThrones$Clues" "count" "I", Cond.fieldLink RX2 9 "EggThrones$Clues" "tests" "[I", Cond.fieldLink RX2 15 "EggThrones$Clues" "answers" "[I", Cond.methodLink RX2 30 yJ6_bitCount_0f7a4, Cond.static yJ6_bitCount_0f7a4, Cond.initialized RJ6, Cond.code yJ6_bitCount_0f7a4 cJ6_bitCount_0f7a4 1 (some .int), Cond.constant RJ6 265 (1431655765), Cond.constant RJ6 266 (858993459), Cond.constant RJ6 267 (252645135), Cond.methodLink RX2 36 yX2_greatestPart, Cond.static yX2_greatestPart, Cond.code yX2_greatestPart cX2_greatestPart 5 (some .int), Cond.methodLink RX2 40 Lib.Math.max.name, Cond.static Lib.Math.max.name]
def wsX2_bestTest_r2 : List Cond := [Cond.initialized "java/lang/Math", Cond.code Lib.Math.max.name Lib.Math.max.code 2 (some .int)]
def wsX2_bestTest : List Cond := .code yX2_bestTest cX2_bestTest 6 (some .int) :: ((wsX2_bestTest_r1 ++ wsX2_bestTest_r2) ++ wsX20)
def wsX3_init : List Cond := .code yX3_init cX3_init 1 none :: ([.methodLink RX3 3 objectInit, .instanceMethod objectInit, .code objectInit ⟨#[0xb1]⟩ 1 none, .arrayClass .int, .fieldLink RX3 11 "EggThrones$Images" "rows" "[I", .fieldLink RX3 17 "EggThrones$Images" "seeds" "[I", .arrayClass .boolean, .fieldLink RX3 20 "EggThrones$Images" "taken" "[Z"] ++ wsX30)
def wsX3_forget : List Cond := .code yX3_forget cX3_forget 2 none :: ([.fieldLink RX3 20 "EggThrones$Images" "taken" "[Z"] ++ wsX30)
def wsX3_has : List Cond := .code yX3_has cX3_has 2 (some .boolean) :: ([.fieldLink RX3 20 "EggThrones$Images" "taken" "[Z"] ++ wsX30)
def wsX4_isRow : List Cond := .code yX4_isRow cX4_isRow 2 (some .boolean) :: ([])
def wsX4_saveTo : List Cond := .code yX4_saveTo cX4_saveTo 4 none :: ([.fieldLink RX4 15 "EggThrones$Morning" "states" "[I", .methodLink RX4 106 arraycopyName, .native arraycopyName, .static arraycopyName, .initialized "java/lang/System", .fieldLink RX4 19 "EggThrones$Morning" "boiled" "[I", .fieldLink RX4 22 "EggThrones$Morning" "king" "I", .fieldLink RX4 26 "EggThrones$Morning" "left" "I", .fieldLink RX4 29 "EggThrones$Morning" "soldiers" "I", .fieldLink RX4 32 "EggThrones$Morning" "minutes" "I", .fieldLink RX4 35 "EggThrones$Morning" "reigned" "I", .fieldLink RX4 38 "EggThrones$Morning" "scraped" "I", .methodLink RX4 102 yX4_isRow, .static yX4_isRow, .initialized RX4, .code yX4_isRow cX4_isRow 2 (some .boolean)] ++ wsX40)
def wsX3_take : List Cond := .code yX3_take cX3_take 4 none :: ([.fieldLink RX3 11 "EggThrones$Images" "rows" "[I", .fieldLink RX3 17 "EggThrones$Images" "seeds" "[I", .fieldLink RX3 20 "EggThrones$Images" "taken" "[Z", .methodLink RX3 24 yX4_saveTo, .instanceMethod yX4_saveTo, .selects RX4 yX4_saveTo yX4_saveTo, .initialized RX4, .code yX4_saveTo cX4_saveTo 4 none, .fieldLink RX4 15 "EggThrones$Morning" "states" "[I", .methodLink RX4 106 arraycopyName, .native arraycopyName, .static arraycopyName, .initialized "java/lang/System", .fieldLink RX4 19 "EggThrones$Morning" "boiled" "[I", .fieldLink RX4 22 "EggThrones$Morning" "king" "I", .fieldLink RX4 26 "EggThrones$Morning" "left" "I", .fieldLink RX4 29 "EggThrones$Morning" "soldiers" "I", .fieldLink RX4 32 "EggThrones$Morning" "minutes" "I", .fieldLink RX4 35 "EggThrones$Morning" "reigned" "I", .fieldLink RX4 38 "EggThrones$Morning" "scraped" "I", .methodLink RX4 102 yX4_isRow, .static yX4_isRow, .code yX4_isRow cX4_isRow 2 (some .boolean)] ++ wsX30 ++ wsX40)
def wsX4_loadFrom : List Cond := .code yX4_loadFrom cX4_loadFrom 4 none :: ([.fieldLink RX4 15 "EggThrones$Morning" "states" "[I", .methodLink RX4 106 arraycopyName, .native arraycopyName, .static arraycopyName, .initialized "java/lang/System", .fieldLink RX4 19 "EggThrones$Morning" "boiled" "[I", .fieldLink RX4 22 "EggThrones$Morning" "king" "I", .fieldLink RX4 26 "EggThrones$Morning" "left" "I", .fieldLink RX4 29 "EggThrones$Morning" "soldiers" "I", .fieldLink RX4 32 "EggThrones$Morning" "minutes" "I", .fieldLink RX4 35 "EggThrones$Morning" "reigned" "I", .fieldLink RX4 38 "EggThrones$Morning" "scraped" "I", .methodLink RX4 102 yX4_isRow, .static yX4_isRow, .initialized RX4, .code yX4_isRow cX4_isRow 2 (some .boolean)] ++ wsX40)
def wsX3_show_r1 : List Cond := [Cond.fieldLink RX3 11 "EggThrones$Images" "rows" "[I", Cond.methodLink RX3 28 yX3_has, Cond.instanceMethod yX3_has, Cond.selects RX3 yX3_has yX3_has, Cond.initialized RX3, Cond.code yX3_has cX3_has 2 (some .boolean), Cond.fieldLink RX3 20 "EggThrones$Images" "taken" "[Z", Cond.methodLink RX3 32 yX4_loadFrom, Cond.instanceMethod yX4_loadFrom, Cond.selects RX4 yX4_loadFrom yX4_loadFrom, Cond.initialized RX4, Cond.code yX4_loadFrom cX4_loadFrom 4 none, Cond.fieldLink RX4 15 "EggThrones$Morning" "states" "[I", Cond.methodLink RX4 106 arraycopyName, Cond.native arraycopyName, Cond.static arraycopyName, Cond.initialized "java/lang/System", Cond.fieldLink RX4 19 "EggThrones$Morning" "boiled" "[I", Cond.fieldLink RX4 22 "EggThrones$Morning" "king" "I", Cond.fieldLink RX4 26 "EggThrones$Morning" "left" "I", Cond.fieldLink RX4 29 "EggThrones$Morning" "soldiers" "I", Cond.fieldLink RX4 32 "EggThrones$Morning" "minutes" "I", Cond.fieldLink RX4 35 "EggThrones$Morning" "reigned" "I", Cond.fieldLink RX4 38 "EggThrones$Morning" "scraped" "I"]
def wsX3_show_r2 : List Cond := [Cond.methodLink RX4 102 yX4_isRow, Cond.static yX4_isRow, Cond.code yX4_isRow cX4_isRow 2 (some .boolean)]
def wsX3_show : List Cond := .code yX3_show cX3_show 3 none :: ((wsX3_show_r1 ++ wsX3_show_r2) ++ wsX30 ++ wsX40)
def wsX3_seedOf : List Cond := .code yX3_seedOf cX3_seedOf 2 (some .int) :: ([.fieldLink RX3 17 "EggThrones$Images" "seeds" "[I", .methodLink RX3 28 yX3_has, .instanceMethod yX3_has, .selects RX3 yX3_has yX3_has, .initialized RX3, .code yX3_has cX3_has 2 (some .boolean), .fieldLink RX3 20 "EggThrones$Images" "taken" "[Z"] ++ wsX30)
def wsX4_init : List Cond := .code yX4_init cX4_init 2 none :: ([.methodLink RX4 3 objectInit, .instanceMethod objectInit, .code objectInit ⟨#[0xb1]⟩ 1 none, .fieldLink RX4 9 "EggThrones$Morning" "table" "LEggThrones$Table;", .arrayClass .int, .fieldLink RX4 15 "EggThrones$Morning" "states" "[I", .fieldLink RX4 19 "EggThrones$Morning" "boiled" "[I", .fieldLink RX4 22 "EggThrones$Morning" "king" "I", .fieldLink RX4 26 "EggThrones$Morning" "left" "I", .fieldLink RX4 29 "EggThrones$Morning" "soldiers" "I", .fieldLink RX4 32 "EggThrones$Morning" "minutes" "I", .fieldLink RX4 35 "EggThrones$Morning" "reigned" "I", .fieldLink RX4 38 "EggThrones$Morning" "scraped" "I"] ++ wsX40)
def wsX4_begin : List Cond := .code yX4_begin cX4_begin 2 none :: ([.fieldLink RX4 15 "EggThrones$Morning" "states" "[I", .fieldLink RX4 19 "EggThrones$Morning" "boiled" "[I", .fieldLink RX4 22 "EggThrones$Morning" "king" "I", .fieldLink RX4 26 "EggThrones$Morning" "left" "I", .fieldLink RX4 9 "EggThrones$Morning" "table" "LEggThrones$Table;", .fieldLink RX4 29 "EggThrones$Morning" "soldiers" "I", .fieldLink RX4 32 "EggThrones$Morning" "minutes" "I", .fieldLink RX4 35 "EggThrones$Morning" "reigned" "I", .fieldLink RX4 38 "EggThrones$Morning" "scraped" "I"] ++ wsX40 ++ wsX80)
def wsX4_boiledOf : List Cond := .code yX4_boiledOf cX4_boiledOf 2 (some .int) :: ([.fieldLink RX4 9 "EggThrones$Morning" "table" "LEggThrones$Table;", .fieldLink RX4 19 "EggThrones$Morning" "boiled" "[I", .methodLink RX4 46 yX8_hasEgg, .instanceMethod yX8_hasEgg, .selects RX8 yX8_hasEgg yX8_hasEgg, .initialized RX8, .code yX8_hasEgg cX8_hasEgg 2 (some .boolean), .fieldLink RX8 37 "EggThrones$Table" "eggs" "I"] ++ wsX40 ++ wsX80)
def wsX8_hardness : List Cond := .code yX8_hardness cX8_hardness 4 (some .int) :: ([.fieldLink RX8 15 "EggThrones$Table" "sizes" "[I", .fieldLink RX8 9 "EggThrones$Table" "ages" "[I", .methodLink RX8 53 Lib.Math.min.name, .static Lib.Math.min.name, .initialized "java/lang/Math", .code Lib.Math.min.name Lib.Math.min.code 2 (some .int), .methodLink RX8 66 Lib.Math.max.name, .static Lib.Math.max.name, .code Lib.Math.max.name Lib.Math.max.code 2 (some .int), .methodLink RX8 59 yX8_hasEgg, .instanceMethod yX8_hasEgg, .selects RX8 yX8_hasEgg yX8_hasEgg, .initialized RX8, .code yX8_hasEgg cX8_hasEgg 2 (some .boolean), .fieldLink RX8 37 "EggThrones$Table" "eggs" "I"] ++ wsX80)
def wsX4_hardnessOf_r1 : List Cond := [Cond.fieldLink RX4 9 "EggThrones$Morning" "table" "LEggThrones$Table;", Cond.methodLink RX4 50 yX4_boiledOf, Cond.instanceMethod yX4_boiledOf, Cond.selects RX4 yX4_boiledOf yX4_boiledOf, Cond.initialized RX4, Cond.code yX4_boiledOf cX4_boiledOf 2 (some .int), Cond.fieldLink RX4 19 "EggThrones$Morning" "boiled" "[I", Cond.methodLink RX4 46 yX8_hasEgg, Cond.instanceMethod yX8_hasEgg, Cond.selects RX8 yX8_hasEgg yX8_hasEgg, Cond.initialized RX8, Cond.code yX8_hasEgg cX8_hasEgg 2 (some .boolean), Cond.fieldLink RX8 37 "EggThrones$Table" "eggs" "I", Cond.methodLink RX4 54 yX8_hardness, Cond.instanceMethod yX8_hardness, Cond.selects RX8 yX8_hardness yX8_hardness, Cond.code yX8_hardness cX8_hardness 4 (some .int), Cond.fieldLink RX8 15 "EggThrones$Table" "sizes" "[I", Cond.fieldLink RX8 9 "EggThrones$Table" "ages" "[I", Cond.methodLink RX8 53 Lib.Math.min.name, Cond.static Lib.Math.min.name, Cond.initialized "java/lang/Math", Cond.code Lib.Math.min.name Lib.Math.min.code 2 (some .int), Cond.methodLink RX8 66 Lib.Math.max.name]
def wsX4_hardnessOf_r2 : List Cond := [Cond.static Lib.Math.max.name, Cond.code Lib.Math.max.name Lib.Math.max.code 2 (some .int), Cond.methodLink RX8 59 yX8_hasEgg]
def wsX4_hardnessOf : List Cond := .code yX4_hardnessOf cX4_hardnessOf 2 (some .int) :: ((wsX4_hardnessOf_r1 ++ wsX4_hardnessOf_r2) ++ wsX40 ++ wsX80)
def wsX8_sizeOf : List Cond := .code yX8_sizeOf cX8_sizeOf 2 (some .int) :: ([.fieldLink RX8 15 "EggThrones$Table" "sizes" "[I", .methodLink RX8 59 yX8_hasEgg, .instanceMethod yX8_hasEgg, .selects RX8 yX8_hasEgg yX8_hasEgg, .initialized RX8, .code yX8_hasEgg cX8_hasEgg 2 (some .boolean), .fieldLink RX8 37 "EggThrones$Table" "eggs" "I"] ++ wsX80)
def wsX8_reign : List Cond := .code yX8_reign cX8_reign 3 (some .int) :: ([.methodLink RX8 69 yX8_hardness, .instanceMethod yX8_hardness, .selects RX8 yX8_hardness yX8_hardness, .initialized RX8, .code yX8_hardness cX8_hardness 4 (some .int), .fieldLink RX8 15 "EggThrones$Table" "sizes" "[I", .fieldLink RX8 9 "EggThrones$Table" "ages" "[I", .methodLink RX8 53 Lib.Math.min.name, .static Lib.Math.min.name, .initialized "java/lang/Math", .code Lib.Math.min.name Lib.Math.min.code 2 (some .int), .methodLink RX8 66 Lib.Math.max.name, .static Lib.Math.max.name, .code Lib.Math.max.name Lib.Math.max.code 2 (some .int), .methodLink RX8 59 yX8_hasEgg, .instanceMethod yX8_hasEgg, .selects RX8 yX8_hasEgg yX8_hasEgg, .code yX8_hasEgg cX8_hasEgg 2 (some .boolean), .fieldLink RX8 37 "EggThrones$Table" "eggs" "I", .methodLink RX8 72 yX8_sizeOf, .instanceMethod yX8_sizeOf, .selects RX8 yX8_sizeOf yX8_sizeOf, .code yX8_sizeOf cX8_sizeOf 2 (some .int)] ++ wsX80)
def wsX4_reignOf_r1 : List Cond := [Cond.fieldLink RX4 9 "EggThrones$Morning" "table" "LEggThrones$Table;", Cond.methodLink RX4 50 yX4_boiledOf, Cond.instanceMethod yX4_boiledOf, Cond.selects RX4 yX4_boiledOf yX4_boiledOf, Cond.initialized RX4, Cond.code yX4_boiledOf cX4_boiledOf 2 (some .int), Cond.fieldLink RX4 19 "EggThrones$Morning" "boiled" "[I", Cond.methodLink RX4 46 yX8_hasEgg, Cond.instanceMethod yX8_hasEgg, Cond.selects RX8 yX8_hasEgg yX8_hasEgg, Cond.initialized RX8, Cond.code yX8_hasEgg cX8_hasEgg 2 (some .boolean), Cond.fieldLink RX8 37 "EggThrones$Table" "eggs" "I", Cond.methodLink RX4 58 yX8_reign, Cond.instanceMethod yX8_reign, Cond.selects RX8 yX8_reign yX8_reign, Cond.code yX8_reign cX8_reign 3 (some .int), Cond.methodLink RX8 69 yX8_hardness, Cond.instanceMethod yX8_hardness, Cond.selects RX8 yX8_hardness yX8_hardness, Cond.code yX8_hardness cX8_hardness 4 (some .int), Cond.fieldLink RX8 15 "EggThrones$Table" "sizes" "[I", Cond.fieldLink RX8 9 "EggThrones$Table" "ages" "[I", Cond.methodLink RX8 53 Lib.Math.min.name]
def wsX4_reignOf_r2 : List Cond := [Cond.static Lib.Math.min.name, Cond.initialized "java/lang/Math", Cond.code Lib.Math.min.name Lib.Math.min.code 2 (some .int), Cond.methodLink RX8 66 Lib.Math.max.name, Cond.static Lib.Math.max.name, Cond.code Lib.Math.max.name Lib.Math.max.code 2 (some .int), Cond.methodLink RX8 59 yX8_hasEgg, Cond.methodLink RX8 72 yX8_sizeOf, Cond.instanceMethod yX8_sizeOf, Cond.selects RX8 yX8_sizeOf yX8_sizeOf, Cond.code yX8_sizeOf cX8_sizeOf 2 (some .int)]
def wsX4_reignOf : List Cond := .code yX4_reignOf cX4_reignOf 2 (some .int) :: ((wsX4_reignOf_r1 ++ wsX4_reignOf_r2) ++ wsX40 ++ wsX80)
def wsX4_setThatIs : List Cond := .code yX4_setThatIs cX4_setThatIs 4 (some .int) :: ([.methodLink RX4 61 yX4_stateOf, .instanceMethod yX4_stateOf, .selects RX4 yX4_stateOf yX4_stateOf, .initialized RX4, .code yX4_stateOf cX4_stateOf 2 (some .int), .fieldLink RX4 9 "EggThrones$Morning" "table" "LEggThrones$Table;", .fieldLink RX4 15 "EggThrones$Morning" "states" "[I", .methodLink RX4 46 yX8_hasEgg, .instanceMethod yX8_hasEgg, .selects RX8 yX8_hasEgg yX8_hasEgg, .initialized RX8, .code yX8_hasEgg cX8_hasEgg 2 (some .boolean), .fieldLink RX8 37 "EggThrones$Table" "eggs" "I"] ++ wsX40 ++ wsX80)
def wsX4_howManyInPan : List Cond := .code yX4_howManyInPan cX4_howManyInPan 1 (some .int) :: ([.methodLink RX4 64 yX4_setThatIs, .instanceMethod yX4_setThatIs, .selects RX4 yX4_setThatIs yX4_setThatIs, .initialized RX4, .code yX4_setThatIs cX4_setThatIs 4 (some .int), .methodLink RX4 61 yX4_stateOf, .instanceMethod yX4_stateOf, .selects RX4 yX4_stateOf yX4_stateOf, .code yX4_stateOf cX4_stateOf 2 (some .int), .fieldLink RX4 9 "EggThrones$Morning" "table" "LEggThrones$Table;", .fieldLink RX4 15 "EggThrones$Morning" "states" "[I", .methodLink RX4 46 yX8_hasEgg, .instanceMethod yX8_hasEgg, .selects RX8 yX8_hasEgg yX8_hasEgg, .initialized RX8, .code yX8_hasEgg cX8_hasEgg 2 (some .boolean), .fieldLink RX8 37 "EggThrones$Table" "eggs" "I", .methodLink RX4 67 yJ6_bitCount_0f7a4, .static yJ6_bitCount_0f7a4, .initialized RJ6, .code yJ6_bitCount_0f7a4 cJ6_bitCount_0f7a4 1 (some .int), .constant RJ6 265 (1431655765), .constant RJ6 266 (858993459), .constant RJ6 267 (252645135)] ++ wsX40 ++ wsX80)
def wsX4_pretenders_r1 : List Cond := [Cond.methodLink RX4 61 yX4_stateOf, Cond.instanceMethod yX4_stateOf, Cond.selects RX4 yX4_stateOf yX4_stateOf, Cond.initialized RX4, Cond.code yX4_stateOf cX4_stateOf 2 (some .int), Cond.fieldLink RX4 9 "EggThrones$Morning" "table" "LEggThrones$Table;", Cond.fieldLink RX4 15 "EggThrones$Morning" "states" "[I", Cond.methodLink RX4 46 yX8_hasEgg, Cond.instanceMethod yX8_hasEgg, Cond.selects RX8 yX8_hasEgg yX8_hasEgg, Cond.initialized RX8, Cond.code yX8_hasEgg cX8_hasEgg 2 (some .boolean), Cond.fieldLink RX8 37 "EggThrones$Table" "eggs" "I", Cond.methodLink RX4 72 yX4_hardnessOf, Cond.instanceMethod yX4_hardnessOf, Cond.selects RX4 yX4_hardnessOf yX4_hardnessOf, Cond.code yX4_hardnessOf cX4_hardnessOf 2 (some .int), Cond.methodLink RX4 50 yX4_boiledOf, Cond.instanceMethod yX4_boiledOf, Cond.selects RX4 yX4_boiledOf yX4_boiledOf, Cond.code yX4_boiledOf cX4_boiledOf 2 (some .int), Cond.fieldLink RX4 19 "EggThrones$Morning" "boiled" "[I", Cond.methodLink RX4 54 yX8_hardness, Cond.instanceMethod yX8_hardness]
def wsX4_pretenders_r2 : List Cond := [Cond.selects RX8 yX8_hardness yX8_hardness, Cond.code yX8_hardness cX8_hardness 4 (some .int), Cond.fieldLink RX8 15 "EggThrones$Table" "sizes" "[I", Cond.fieldLink RX8 9 "EggThrones$Table" "ages" "[I", Cond.methodLink RX8 53 Lib.Math.min.name, Cond.static Lib.Math.min.name, Cond.initialized "java/lang/Math", Cond.code Lib.Math.min.name Lib.Math.min.code 2 (some .int), Cond.methodLink RX8 66 Lib.Math.max.name, Cond.static Lib.Math.max.name, Cond.code Lib.Math.max.name Lib.Math.max.code 2 (some .int), Cond.methodLink RX8 59 yX8_hasEgg]
def wsX4_pretenders : List Cond := .code yX4_pretenders cX4_pretenders 3 (some .int) :: ((wsX4_pretenders_r1 ++ wsX4_pretenders_r2) ++ wsX40 ++ wsX80)
def wsX4_heir_r1 : List Cond := [Cond.methodLink RX4 61 yX4_stateOf, Cond.instanceMethod yX4_stateOf, Cond.selects RX4 yX4_stateOf yX4_stateOf, Cond.initialized RX4, Cond.code yX4_stateOf cX4_stateOf 2 (some .int), Cond.fieldLink RX4 9 "EggThrones$Morning" "table" "LEggThrones$Table;", Cond.fieldLink RX4 15 "EggThrones$Morning" "states" "[I", Cond.methodLink RX4 46 yX8_hasEgg, Cond.instanceMethod yX8_hasEgg, Cond.selects RX8 yX8_hasEgg yX8_hasEgg, Cond.initialized RX8, Cond.code yX8_hasEgg cX8_hasEgg 2 (some .boolean), Cond.fieldLink RX8 37 "EggThrones$Table" "eggs" "I", Cond.methodLink RX4 75 yX4_reignOf, Cond.instanceMethod yX4_reignOf, Cond.selects RX4 yX4_reignOf yX4_reignOf, Cond.code yX4_reignOf cX4_reignOf 2 (some .int), Cond.methodLink RX4 50 yX4_boiledOf, Cond.instanceMethod yX4_boiledOf, Cond.selects RX4 yX4_boiledOf yX4_boiledOf, Cond.code yX4_boiledOf cX4_boiledOf 2 (some .int), Cond.fieldLink RX4 19 "EggThrones$Morning" "boiled" "[I", Cond.methodLink RX4 58 yX8_reign, Cond.instanceMethod yX8_reign]
def wsX4_heir_r2 : List Cond := [Cond.selects RX8 yX8_reign yX8_reign, Cond.code yX8_reign cX8_reign 3 (some .int), Cond.methodLink RX8 69 yX8_hardness, Cond.instanceMethod yX8_hardness, Cond.selects RX8 yX8_hardness yX8_hardness, Cond.code yX8_hardness cX8_hardness 4 (some .int), Cond.fieldLink RX8 15 "EggThrones$Table" "sizes" "[I", Cond.fieldLink RX8 9 "EggThrones$Table" "ages" "[I", Cond.methodLink RX8 53 Lib.Math.min.name, Cond.static Lib.Math.min.name, Cond.initialized "java/lang/Math", Cond.code Lib.Math.min.name Lib.Math.min.code 2 (some .int), Cond.methodLink RX8 66 Lib.Math.max.name, Cond.static Lib.Math.max.name, Cond.code Lib.Math.max.name Lib.Math.max.code 2 (some .int), Cond.methodLink RX8 59 yX8_hasEgg, Cond.methodLink RX8 72 yX8_sizeOf, Cond.instanceMethod yX8_sizeOf, Cond.selects RX8 yX8_sizeOf yX8_sizeOf, Cond.code yX8_sizeOf cX8_sizeOf 2 (some .int)]
def wsX4_heir : List Cond := .code yX4_heir cX4_heir 3 (some .int) :: ((wsX4_heir_r1 ++ wsX4_heir_r2) ++ wsX40 ++ wsX80)
def wsX4_canGoIn_r1 : List Cond := [Cond.fieldLink RX4 9 "EggThrones$Morning" "table" "LEggThrones$Table;", Cond.methodLink RX4 61 yX4_stateOf, Cond.instanceMethod yX4_stateOf, Cond.selects RX4 yX4_stateOf yX4_stateOf, Cond.initialized RX4, Cond.code yX4_stateOf cX4_stateOf 2 (some .int), Cond.fieldLink RX4 15 "EggThrones$Morning" "states" "[I", Cond.methodLink RX4 46 yX8_hasEgg, Cond.instanceMethod yX8_hasEgg, Cond.selects RX8 yX8_hasEgg yX8_hasEgg, Cond.initialized RX8, Cond.code yX8_hasEgg cX8_hasEgg 2 (some .boolean), Cond.fieldLink RX8 37 "EggThrones$Table" "eggs" "I", Cond.methodLink RX4 78 yX4_howManyInPan, Cond.instanceMethod yX4_howManyInPan, Cond.selects RX4 yX4_howManyInPan yX4_howManyInPan, Cond.code yX4_howManyInPan cX4_howManyInPan 1 (some .int), Cond.methodLink RX4 64 yX4_setThatIs, Cond.instanceMethod yX4_setThatIs, Cond.selects RX4 yX4_setThatIs yX4_setThatIs, Cond.code yX4_setThatIs cX4_setThatIs 4 (some .int), Cond.methodLink RX4 67 yJ6_bitCount_0f7a4, Cond.static yJ6_bitCount_0f7a4, Cond.initialized RJ6]
def wsX4_canGoIn_r2 : List Cond := [Cond.code yJ6_bitCount_0f7a4 cJ6_bitCount_0f7a4 1 (some .int), Cond.constant RJ6 265 (1431655765), Cond.constant RJ6 266 (858993459), Cond.constant RJ6 267 (252645135)]
def wsX4_canGoIn : List Cond := .code yX4_canGoIn cX4_canGoIn 3 (some .boolean) :: ((wsX4_canGoIn_r1 ++ wsX4_canGoIn_r2) ++ wsX40 ++ wsX80)
def wsX4_setState : List Cond := .code yX4_setState cX4_setState 3 none :: ([.fieldLink RX4 9 "EggThrones$Morning" "table" "LEggThrones$Table;", .fieldLink RX4 15 "EggThrones$Morning" "states" "[I", .methodLink RX4 46 yX8_hasEgg, .instanceMethod yX8_hasEgg, .selects RX8 yX8_hasEgg yX8_hasEgg, .initialized RX8, .code yX8_hasEgg cX8_hasEgg 2 (some .boolean), .fieldLink RX8 37 "EggThrones$Table" "eggs" "I"] ++ wsX40 ++ wsX80)
def wsX4_goIn : List Cond := .code yX4_goIn cX4_goIn 2 none :: ([.methodLink RX4 85 yX4_setState, .instanceMethod yX4_setState, .selects RX4 yX4_setState yX4_setState, .initialized RX4, .code yX4_setState cX4_setState 3 none, .fieldLink RX4 9 "EggThrones$Morning" "table" "LEggThrones$Table;", .fieldLink RX4 15 "EggThrones$Morning" "states" "[I", .methodLink RX4 46 yX8_hasEgg, .instanceMethod yX8_hasEgg, .selects RX8 yX8_hasEgg yX8_hasEgg, .initialized RX8, .code yX8_hasEgg cX8_hasEgg 2 (some .boolean), .fieldLink RX8 37 "EggThrones$Table" "eggs" "I"] ++ wsX40 ++ wsX80)
def wsX4_canComeOut : List Cond := .code yX4_canComeOut cX4_canComeOut 2 (some .boolean) :: ([.methodLink RX4 61 yX4_stateOf, .instanceMethod yX4_stateOf, .selects RX4 yX4_stateOf yX4_stateOf, .initialized RX4, .code yX4_stateOf cX4_stateOf 2 (some .int), .fieldLink RX4 9 "EggThrones$Morning" "table" "LEggThrones$Table;", .fieldLink RX4 15 "EggThrones$Morning" "states" "[I", .methodLink RX4 46 yX8_hasEgg, .instanceMethod yX8_hasEgg, .selects RX8 yX8_hasEgg yX8_hasEgg, .initialized RX8, .code yX8_hasEgg cX8_hasEgg 2 (some .boolean), .fieldLink RX8 37 "EggThrones$Table" "eggs" "I"] ++ wsX40 ++ wsX80)
def wsX4_comeOut : List Cond := .code yX4_comeOut cX4_comeOut 2 none :: ([.methodLink RX4 85 yX4_setState, .instanceMethod yX4_setState, .selects RX4 yX4_setState yX4_setState, .initialized RX4, .code yX4_setState cX4_setState 3 none, .fieldLink RX4 9 "EggThrones$Morning" "table" "LEggThrones$Table;", .fieldLink RX4 15 "EggThrones$Morning" "states" "[I", .methodLink RX4 46 yX8_hasEgg, .instanceMethod yX8_hasEgg, .selects RX8 yX8_hasEgg yX8_hasEgg, .initialized RX8, .code yX8_hasEgg cX8_hasEgg 2 (some .boolean), .fieldLink RX8 37 "EggThrones$Table" "eggs" "I"] ++ wsX40 ++ wsX80)
def wsX4_canBeKing : List Cond := .code yX4_canBeKing cX4_canBeKing 2 (some .boolean) :: ([.fieldLink RX4 22 "EggThrones$Morning" "king" "I", .methodLink RX4 61 yX4_stateOf, .instanceMethod yX4_stateOf, .selects RX4 yX4_stateOf yX4_stateOf, .initialized RX4, .code yX4_stateOf cX4_stateOf 2 (some .int), .fieldLink RX4 9 "EggThrones$Morning" "table" "LEggThrones$Table;", .fieldLink RX4 15 "EggThrones$Morning" "states" "[I", .methodLink RX4 46 yX8_hasEgg, .instanceMethod yX8_hasEgg, .selects RX8 yX8_hasEgg yX8_hasEgg, .initialized RX8, .code yX8_hasEgg cX8_hasEgg 2 (some .boolean), .fieldLink RX8 37 "EggThrones$Table" "eggs" "I"] ++ wsX40 ++ wsX80)
def wsX4_becomeKing_r1 : List Cond := [Cond.fieldLink RX4 22 "EggThrones$Morning" "king" "I", Cond.fieldLink RX4 26 "EggThrones$Morning" "left" "I", Cond.methodLink RX4 85 yX4_setState, Cond.instanceMethod yX4_setState, Cond.selects RX4 yX4_setState yX4_setState, Cond.initialized RX4, Cond.code yX4_setState cX4_setState 3 none, Cond.fieldLink RX4 9 "EggThrones$Morning" "table" "LEggThrones$Table;", Cond.fieldLink RX4 15 "EggThrones$Morning" "states" "[I", Cond.methodLink RX4 46 yX8_hasEgg, Cond.instanceMethod yX8_hasEgg, Cond.selects RX8 yX8_hasEgg yX8_hasEgg, Cond.initialized RX8, Cond.code yX8_hasEgg cX8_hasEgg 2 (some .boolean), Cond.fieldLink RX8 37 "EggThrones$Table" "eggs" "I", Cond.methodLink RX4 75 yX4_reignOf, Cond.instanceMethod yX4_reignOf, Cond.selects RX4 yX4_reignOf yX4_reignOf, Cond.code yX4_reignOf cX4_reignOf 2 (some .int), Cond.methodLink RX4 50 yX4_boiledOf, Cond.instanceMethod yX4_boiledOf, Cond.selects RX4 yX4_boiledOf yX4_boiledOf, Cond.code yX4_boiledOf cX4_boiledOf 2 (some .int), Cond.fieldLink RX4 19 "EggThrones$Morning" "boiled" "[I"]
def wsX4_becomeKing_r2 : List Cond := [Cond.methodLink RX4 58 yX8_reign, Cond.instanceMethod yX8_reign, Cond.selects RX8 yX8_reign yX8_reign, Cond.code yX8_reign cX8_reign 3 (some .int), Cond.methodLink RX8 69 yX8_hardness, Cond.instanceMethod yX8_hardness, Cond.selects RX8 yX8_hardness yX8_hardness, Cond.code yX8_hardness cX8_hardness 4 (some .int), Cond.fieldLink RX8 15 "EggThrones$Table" "sizes" "[I", Cond.fieldLink RX8 9 "EggThrones$Table" "ages" "[I", Cond.methodLink RX8 53 Lib.Math.min.name, Cond.static Lib.Math.min.name, Cond.initialized "java/lang/Math", Cond.code Lib.Math.min.name Lib.Math.min.code 2 (some .int), Cond.methodLink RX8 66 Lib.Math.max.name, Cond.static Lib.Math.max.name, Cond.code Lib.Math.max.name Lib.Math.max.code 2 (some .int), Cond.methodLink RX8 59 yX8_hasEgg, Cond.methodLink RX8 72 yX8_sizeOf, Cond.instanceMethod yX8_sizeOf, Cond.selects RX8 yX8_sizeOf yX8_sizeOf, Cond.code yX8_sizeOf cX8_sizeOf 2 (some .int)]
def wsX4_becomeKing : List Cond := .code yX4_becomeKing cX4_becomeKing 2 none :: ((wsX4_becomeKing_r1 ++ wsX4_becomeKing_r2) ++ wsX40 ++ wsX80)
def wsX4_boilOneMore : List Cond := .code yX4_boilOneMore cX4_boilOneMore 2 none :: ([.fieldLink RX4 9 "EggThrones$Morning" "table" "LEggThrones$Table;", .fieldLink RX4 19 "EggThrones$Morning" "boiled" "[I", .fieldLink RX4 15 "EggThrones$Morning" "states" "[I", .methodLink RX4 46 yX8_hasEgg, .instanceMethod yX8_hasEgg, .selects RX8 yX8_hasEgg yX8_hasEgg, .initialized RX8, .code yX8_hasEgg cX8_hasEgg 2 (some .boolean), .fieldLink RX8 37 "EggThrones$Table" "eggs" "I"] ++ wsX40 ++ wsX80)
def wsX4_endReign : List Cond := .code yX4_endReign cX4_endReign 2 none :: ([.fieldLink RX4 22 "EggThrones$Morning" "king" "I", .fieldLink RX4 26 "EggThrones$Morning" "left" "I", .methodLink RX4 85 yX4_setState, .instanceMethod yX4_setState, .selects RX4 yX4_setState yX4_setState, .initialized RX4, .code yX4_setState cX4_setState 3 none, .fieldLink RX4 9 "EggThrones$Morning" "table" "LEggThrones$Table;", .fieldLink RX4 15 "EggThrones$Morning" "states" "[I", .methodLink RX4 46 yX8_hasEgg, .instanceMethod yX8_hasEgg, .selects RX8 yX8_hasEgg yX8_hasEgg, .initialized RX8, .code yX8_hasEgg cX8_hasEgg 2 (some .boolean), .fieldLink RX8 37 "EggThrones$Table" "eggs" "I"] ++ wsX40 ++ wsX80)
def wsX4_passMinuteOfKing : List Cond := .code yX4_passMinuteOfKing cX4_passMinuteOfKing 1 none :: ([.fieldLink RX4 29 "EggThrones$Morning" "soldiers" "I", .fieldLink RX4 35 "EggThrones$Morning" "reigned" "I", .fieldLink RX4 26 "EggThrones$Morning" "left" "I", .fieldLink RX4 38 "EggThrones$Morning" "scraped" "I", .methodLink RX4 99 yX4_endReign, .instanceMethod yX4_endReign, .selects RX4 yX4_endReign yX4_endReign, .initialized RX4, .code yX4_endReign cX4_endReign 2 none, .fieldLink RX4 22 "EggThrones$Morning" "king" "I", .methodLink RX4 85 yX4_setState, .instanceMethod yX4_setState, .selects RX4 yX4_setState yX4_setState, .code yX4_setState cX4_setState 3 none, .fieldLink RX4 9 "EggThrones$Morning" "table" "LEggThrones$Table;", .fieldLink RX4 15 "EggThrones$Morning" "states" "[I", .methodLink RX4 46 yX8_hasEgg, .instanceMethod yX8_hasEgg, .selects RX8 yX8_hasEgg yX8_hasEgg, .initialized RX8, .code yX8_hasEgg cX8_hasEgg 2 (some .boolean), .fieldLink RX8 37 "EggThrones$Table" "eggs" "I"] ++ wsX40 ++ wsX80)
def wsX4_passMinute_r1 : List Cond := [Cond.fieldLink RX4 32 "EggThrones$Morning" "minutes" "I", Cond.fieldLink RX4 22 "EggThrones$Morning" "king" "I", Cond.methodLink RX4 61 yX4_stateOf, Cond.instanceMethod yX4_stateOf, Cond.selects RX4 yX4_stateOf yX4_stateOf, Cond.initialized RX4, Cond.code yX4_stateOf cX4_stateOf 2 (some .int), Cond.fieldLink RX4 9 "EggThrones$Morning" "table" "LEggThrones$Table;", Cond.fieldLink RX4 15 "EggThrones$Morning" "states" "[I", Cond.methodLink RX4 46 yX8_hasEgg, Cond.instanceMethod yX8_hasEgg, Cond.selects RX8 yX8_hasEgg yX8_hasEgg, Cond.initialized RX8, Cond.code yX8_hasEgg cX8_hasEgg 2 (some .boolean), Cond.fieldLink RX8 37 "EggThrones$Table" "eggs" "I", Cond.methodLink RX4 89 yX4_boilOneMore, Cond.instanceMethod yX4_boilOneMore, Cond.selects RX4 yX4_boilOneMore yX4_boilOneMore, Cond.code yX4_boilOneMore cX4_boilOneMore 2 none, Cond.fieldLink RX4 19 "EggThrones$Morning" "boiled" "[I", Cond.methodLink RX4 93 yX4_passMinuteOfKing, Cond.instanceMethod yX4_passMinuteOfKing, Cond.selects RX4 yX4_passMinuteOfKing yX4_passMinuteOfKing, Cond.code yX4_passMinuteOfKing cX4_passMinuteOfKing 1 none]
def wsX4_passMinute_r2 : List Cond := [Cond.fieldLink RX4 29 "EggThrones$Morning" "soldiers" "I", Cond.fieldLink RX4 35 "EggThrones$Morning" "reigned" "I", Cond.fieldLink RX4 26 "EggThrones$Morning" "left" "I", Cond.fieldLink RX4 38 "EggThrones$Morning" "scraped" "I", Cond.methodLink RX4 99 yX4_endReign, Cond.instanceMethod yX4_endReign, Cond.selects RX4 yX4_endReign yX4_endReign, Cond.code yX4_endReign cX4_endReign 2 none, Cond.methodLink RX4 85 yX4_setState, Cond.instanceMethod yX4_setState, Cond.selects RX4 yX4_setState yX4_setState, Cond.code yX4_setState cX4_setState 3 none]
def wsX4_passMinute : List Cond := .code yX4_passMinute cX4_passMinute 2 none :: ((wsX4_passMinute_r1 ++ wsX4_passMinute_r2) ++ wsX40 ++ wsX80)
def wsX5_init : List Cond := .code yX5_init cX5_init 1 none :: ([.methodLink RX5 3 objectInit, .instanceMethod objectInit, .code objectInit ⟨#[0xb1]⟩ 1 none, .arrayClass .int, .fieldLink RX5 11 "EggThrones$Past" "rows" "[I", .fieldLink RX5 17 "EggThrones$Past" "oldest" "I", .fieldLink RX5 21 "EggThrones$Past" "count" "I"] ++ wsX50)
def wsX5_forget : List Cond := .code yX5_forget cX5_forget 1 none :: ([.fieldLink RX5 17 "EggThrones$Past" "oldest" "I", .fieldLink RX5 21 "EggThrones$Past" "count" "I"] ++ wsX50)
def wsX5_remember : List Cond := .code yX5_remember cX5_remember 3 none :: ([.fieldLink RX5 17 "EggThrones$Past" "oldest" "I", .fieldLink RX5 21 "EggThrones$Past" "count" "I", .fieldLink RX5 11 "EggThrones$Past" "rows" "[I", .methodLink RX5 24 yX4_saveTo, .instanceMethod yX4_saveTo, .selects RX4 yX4_saveTo yX4_saveTo, .initialized RX4, .code yX4_saveTo cX4_saveTo 4 none, .fieldLink RX4 15 "EggThrones$Morning" "states" "[I", .methodLink RX4 106 arraycopyName, .native arraycopyName, .static arraycopyName, .initialized "java/lang/System", .fieldLink RX4 19 "EggThrones$Morning" "boiled" "[I", .fieldLink RX4 22 "EggThrones$Morning" "king" "I", .fieldLink RX4 26 "EggThrones$Morning" "left" "I", .fieldLink RX4 29 "EggThrones$Morning" "soldiers" "I", .fieldLink RX4 32 "EggThrones$Morning" "minutes" "I", .fieldLink RX4 35 "EggThrones$Morning" "reigned" "I", .fieldLink RX4 38 "EggThrones$Morning" "scraped" "I", .methodLink RX4 102 yX4_isRow, .static yX4_isRow, .code yX4_isRow cX4_isRow 2 (some .boolean)] ++ wsX50 ++ wsX40)
def wsX5_bringBack : List Cond := .code yX5_bringBack cX5_bringBack 3 (some .boolean) :: ([.fieldLink RX5 21 "EggThrones$Past" "count" "I", .fieldLink RX5 17 "EggThrones$Past" "oldest" "I", .fieldLink RX5 11 "EggThrones$Past" "rows" "[I", .methodLink RX5 28 yX4_loadFrom, .instanceMethod yX4_loadFrom, .selects RX4 yX4_loadFrom yX4_loadFrom, .initialized RX4, .code yX4_loadFrom cX4_loadFrom 4 none, .fieldLink RX4 15 "EggThrones$Morning" "states" "[I", .methodLink RX4 106 arraycopyName, .native arraycopyName, .static arraycopyName, .initialized "java/lang/System", .fieldLink RX4 19 "EggThrones$Morning" "boiled" "[I", .fieldLink RX4 22 "EggThrones$Morning" "king" "I", .fieldLink RX4 26 "EggThrones$Morning" "left" "I", .fieldLink RX4 29 "EggThrones$Morning" "soldiers" "I", .fieldLink RX4 32 "EggThrones$Morning" "minutes" "I", .fieldLink RX4 35 "EggThrones$Morning" "reigned" "I", .fieldLink RX4 38 "EggThrones$Morning" "scraped" "I", .methodLink RX4 102 yX4_isRow, .static yX4_isRow, .code yX4_isRow cX4_isRow 2 (some .boolean)] ++ wsX50 ++ wsX40)
def wsX6_init : List Cond := .code yX6_init cX6_init 1 none :: ([.methodLink RX6 3 objectInit, .instanceMethod objectInit, .code objectInit ⟨#[0xb1]⟩ 1 none, .arrayClass .int, .fieldLink RX6 9 "EggThrones$Sharing" "likings" "[I"] ++ wsX60)
def wsX8_hasEater : List Cond := .code yX8_hasEater cX8_hasEater 2 (some .boolean) :: ([.fieldLink RX8 40 "EggThrones$Table" "eaters" "I"] ++ wsX80)
def wsX8_softestFor : List Cond := .code yX8_softestFor cX8_softestFor 2 (some .int) :: ([.fieldLink RX8 21 "EggThrones$Table" "softest" "[I", .methodLink RX8 63 yX8_hasEater, .instanceMethod yX8_hasEater, .selects RX8 yX8_hasEater yX8_hasEater, .initialized RX8, .code yX8_hasEater cX8_hasEater 2 (some .boolean), .fieldLink RX8 40 "EggThrones$Table" "eaters" "I"] ++ wsX80)
def wsX8_hardestFor : List Cond := .code yX8_hardestFor cX8_hardestFor 2 (some .int) :: ([.fieldLink RX8 24 "EggThrones$Table" "hardest" "[I", .methodLink RX8 63 yX8_hasEater, .instanceMethod yX8_hasEater, .selects RX8 yX8_hasEater yX8_hasEater, .initialized RX8, .code yX8_hasEater cX8_hasEater 2 (some .boolean), .fieldLink RX8 40 "EggThrones$Table" "eaters" "I"] ++ wsX80)
def wsX10_isWithin : List Cond := .code yX10_isWithin cX10_isWithin 3 (some .boolean) :: ([])
def wsX6_liking_r1 : List Cond := [Cond.methodLink RX6 25 yX4_stateOf, Cond.instanceMethod yX4_stateOf, Cond.selects RX4 yX4_stateOf yX4_stateOf, Cond.initialized RX4, Cond.code yX4_stateOf cX4_stateOf 2 (some .int), Cond.fieldLink RX4 9 "EggThrones$Morning" "table" "LEggThrones$Table;", Cond.fieldLink RX4 15 "EggThrones$Morning" "states" "[I", Cond.methodLink RX4 46 yX8_hasEgg, Cond.instanceMethod yX8_hasEgg, Cond.selects RX8 yX8_hasEgg yX8_hasEgg, Cond.initialized RX8, Cond.code yX8_hasEgg cX8_hasEgg 2 (some .boolean), Cond.fieldLink RX8 37 "EggThrones$Table" "eggs" "I", Cond.methodLink RX6 31 yX4_hardnessOf, Cond.instanceMethod yX4_hardnessOf, Cond.selects RX4 yX4_hardnessOf yX4_hardnessOf, Cond.code yX4_hardnessOf cX4_hardnessOf 2 (some .int), Cond.methodLink RX4 50 yX4_boiledOf, Cond.instanceMethod yX4_boiledOf, Cond.selects RX4 yX4_boiledOf yX4_boiledOf, Cond.code yX4_boiledOf cX4_boiledOf 2 (some .int), Cond.fieldLink RX4 19 "EggThrones$Morning" "boiled" "[I", Cond.methodLink RX4 54 yX8_hardness, Cond.instanceMethod yX8_hardness]
def wsX6_liking_r2 : List Cond := [Cond.selects RX8 yX8_hardness yX8_hardness, Cond.code yX8_hardness cX8_hardness 4 (some .int), Cond.fieldLink RX8 15 "EggThrones$Table" "sizes" "[I", Cond.fieldLink RX8 9 "EggThrones$Table" "ages" "[I", Cond.methodLink RX8 53 Lib.Math.min.name, Cond.static Lib.Math.min.name, Cond.initialized "java/lang/Math", Cond.code Lib.Math.min.name Lib.Math.min.code 2 (some .int), Cond.methodLink RX8 66 Lib.Math.max.name, Cond.static Lib.Math.max.name, Cond.code Lib.Math.max.name Lib.Math.max.code 2 (some .int), Cond.methodLink RX8 59 yX8_hasEgg, Cond.methodLink RX6 34 yX8_softestFor, Cond.instanceMethod yX8_softestFor, Cond.selects RX8 yX8_softestFor yX8_softestFor, Cond.code yX8_softestFor cX8_softestFor 2 (some .int), Cond.fieldLink RX8 21 "EggThrones$Table" "softest" "[I", Cond.methodLink RX8 63 yX8_hasEater, Cond.instanceMethod yX8_hasEater, Cond.selects RX8 yX8_hasEater yX8_hasEater, Cond.code yX8_hasEater cX8_hasEater 2 (some .boolean), Cond.fieldLink RX8 40 "EggThrones$Table" "eaters" "I", Cond.methodLink RX6 37 yX8_hardestFor, Cond.instanceMethod yX8_hardestFor]
def wsX6_liking_r3 : List Cond := [Cond.selects RX8 yX8_hardestFor yX8_hardestFor, Cond.code yX8_hardestFor cX8_hardestFor 2 (some .int), Cond.fieldLink RX8 24 "EggThrones$Table" "hardest" "[I", Cond.static yX10_isWithin, Cond.initialized RX10, Cond.code yX10_isWithin cX10_isWithin 3 (some .boolean)]
def wsX6_liking : List Cond := .code yX6_liking cX6_liking 6 (some .int) :: ((wsX6_liking_r1 ++ (wsX6_liking_r2 ++ wsX6_liking_r3)) ++ wsX40 ++ wsX80)
def wsX6_ask_r1 : List Cond := [Cond.fieldLink RX6 9 "EggThrones$Sharing" "likings" "[I", Cond.methodLink RX6 15 yX8_hasEater, Cond.instanceMethod yX8_hasEater, Cond.selects RX8 yX8_hasEater yX8_hasEater, Cond.initialized RX8, Cond.code yX8_hasEater cX8_hasEater 2 (some .boolean), Cond.fieldLink RX8 40 "EggThrones$Table" "eaters" "I", Cond.methodLink RX6 21 yX6_liking, Cond.static yX6_liking, Cond.initialized RX6, Cond.code yX6_liking cX6_liking 6 (some .int), Cond.methodLink RX6 25 yX4_stateOf, Cond.instanceMethod yX4_stateOf, Cond.selects RX4 yX4_stateOf yX4_stateOf, Cond.initialized RX4, Cond.code yX4_stateOf cX4_stateOf 2 (some .int), Cond.fieldLink RX4 9 "EggThrones$Morning" "table" "LEggThrones$Table;", Cond.fieldLink RX4 15 "EggThrones$Morning" "states" "[I", Cond.methodLink RX4 46 yX8_hasEgg, Cond.instanceMethod yX8_hasEgg, Cond.selects RX8 yX8_hasEgg yX8_hasEgg, Cond.code yX8_hasEgg cX8_hasEgg 2 (some .boolean), Cond.fieldLink RX8 37 "EggThrones$Table" "eggs" "I", Cond.methodLink RX6 31 yX4_hardnessOf]
def wsX6_ask_r2 : List Cond := [Cond.instanceMethod yX4_hardnessOf, Cond.selects RX4 yX4_hardnessOf yX4_hardnessOf, Cond.code yX4_hardnessOf cX4_hardnessOf 2 (some .int), Cond.methodLink RX4 50 yX4_boiledOf, Cond.instanceMethod yX4_boiledOf, Cond.selects RX4 yX4_boiledOf yX4_boiledOf, Cond.code yX4_boiledOf cX4_boiledOf 2 (some .int), Cond.fieldLink RX4 19 "EggThrones$Morning" "boiled" "[I", Cond.methodLink RX4 54 yX8_hardness, Cond.instanceMethod yX8_hardness, Cond.selects RX8 yX8_hardness yX8_hardness, Cond.code yX8_hardness cX8_hardness 4 (some .int), Cond.fieldLink RX8 15 "EggThrones$Table" "sizes" "[I", Cond.fieldLink RX8 9 "EggThrones$Table" "ages" "[I", Cond.methodLink RX8 53 Lib.Math.min.name, Cond.static Lib.Math.min.name, Cond.initialized "java/lang/Math", Cond.code Lib.Math.min.name Lib.Math.min.code 2 (some .int), Cond.methodLink RX8 66 Lib.Math.max.name, Cond.static Lib.Math.max.name, Cond.code Lib.Math.max.name Lib.Math.max.code 2 (some .int), Cond.methodLink RX8 59 yX8_hasEgg, Cond.methodLink RX6 34 yX8_softestFor, Cond.instanceMethod yX8_softestFor]
def wsX6_ask_r3 : List Cond := [Cond.selects RX8 yX8_softestFor yX8_softestFor, Cond.code yX8_softestFor cX8_softestFor 2 (some .int), Cond.fieldLink RX8 21 "EggThrones$Table" "softest" "[I", Cond.methodLink RX8 63 yX8_hasEater, Cond.methodLink RX6 37 yX8_hardestFor, Cond.instanceMethod yX8_hardestFor, Cond.selects RX8 yX8_hardestFor yX8_hardestFor, Cond.code yX8_hardestFor cX8_hardestFor 2 (some .int), Cond.fieldLink RX8 24 "EggThrones$Table" "hardest" "[I", Cond.static yX10_isWithin, Cond.initialized RX10, Cond.code yX10_isWithin cX10_isWithin 3 (some .boolean)]
def wsX6_ask : List Cond := .code yX6_ask cX6_ask 4 none :: ((wsX6_ask_r1 ++ (wsX6_ask_r2 ++ wsX6_ask_r3)) ++ wsX60 ++ wsX80 ++ wsX40)
def wsX6_mostPairs : List Cond := .code yX6_mostPairs cX6_mostPairs 7 (some .int) :: ([.methodLink RX6 61 Lib.Math.min.name, .static Lib.Math.min.name, .initialized "java/lang/Math", .code Lib.Math.min.name Lib.Math.min.code 2 (some .int), .methodLink RX6 67 Lib.Math.max.name, .static Lib.Math.max.name, .code Lib.Math.max.name Lib.Math.max.code 2 (some .int), .methodLink RX6 44 yX6_mostPairs, .static yX6_mostPairs, .initialized RX6, .methodLink RX6 56 yJ6_bitCount_0f7a4, .static yJ6_bitCount_0f7a4, .initialized RJ6, .code yJ6_bitCount_0f7a4 cJ6_bitCount_0f7a4 1 (some .int), .constant RJ6 265 (1431655765), .constant RJ6 266 (858993459), .constant RJ6 267 (252645135)])
def wsX6_most : List Cond := .code yX6_most cX6_most 1 (some .int) :: ([.fieldLink RX6 9 "EggThrones$Sharing" "likings" "[I", .methodLink RX6 44 yX6_mostPairs, .static yX6_mostPairs, .initialized RX6, .code yX6_mostPairs cX6_mostPairs 7 (some .int), .methodLink RX6 61 Lib.Math.min.name, .static Lib.Math.min.name, .initialized "java/lang/Math", .code Lib.Math.min.name Lib.Math.min.code 2 (some .int), .methodLink RX6 67 Lib.Math.max.name, .static Lib.Math.max.name, .code Lib.Math.max.name Lib.Math.max.code 2 (some .int), .methodLink RX6 56 yJ6_bitCount_0f7a4, .static yJ6_bitCount_0f7a4, .initialized RJ6, .code yJ6_bitCount_0f7a4 cJ6_bitCount_0f7a4 1 (some .int), .constant RJ6 265 (1431655765), .constant RJ6 266 (858993459), .constant RJ6 267 (252645135)] ++ wsX60)
def wsX6_firstEgg : List Cond := .code yX6_firstEgg cX6_firstEgg 7 (some .int) :: ([.fieldLink RX6 9 "EggThrones$Sharing" "likings" "[I", .methodLink RX6 44 yX6_mostPairs, .static yX6_mostPairs, .initialized RX6, .code yX6_mostPairs cX6_mostPairs 7 (some .int), .methodLink RX6 61 Lib.Math.min.name, .static Lib.Math.min.name, .initialized "java/lang/Math", .code Lib.Math.min.name Lib.Math.min.code 2 (some .int), .methodLink RX6 67 Lib.Math.max.name, .static Lib.Math.max.name, .code Lib.Math.max.name Lib.Math.max.code 2 (some .int), .methodLink RX6 56 yJ6_bitCount_0f7a4, .static yJ6_bitCount_0f7a4, .initialized RJ6, .code yJ6_bitCount_0f7a4 cJ6_bitCount_0f7a4 1 (some .int), .constant RJ6 265 (1431655765), .constant RJ6 266 (858993459), .constant RJ6 267 (252645135)] ++ wsX60)
def wsX6_eggFor_r1 : List Cond := [Cond.methodLink RX6 48 yX6_most, Cond.instanceMethod yX6_most, Cond.selects RX6 yX6_most yX6_most, Cond.initialized RX6, Cond.code yX6_most cX6_most 1 (some .int), Cond.fieldLink RX6 9 "EggThrones$Sharing" "likings" "[I", Cond.methodLink RX6 44 yX6_mostPairs, Cond.static yX6_mostPairs, Cond.code yX6_mostPairs cX6_mostPairs 7 (some .int), Cond.methodLink RX6 61 Lib.Math.min.name, Cond.static Lib.Math.min.name, Cond.initialized "java/lang/Math", Cond.code Lib.Math.min.name Lib.Math.min.code 2 (some .int), Cond.methodLink RX6 67 Lib.Math.max.name, Cond.static Lib.Math.max.name, Cond.code Lib.Math.max.name Lib.Math.max.code 2 (some .int), Cond.methodLink RX6 56 yJ6_bitCount_0f7a4, Cond.static yJ6_bitCount_0f7a4, Cond.initialized RJ6, Cond.code yJ6_bitCount_0f7a4 cJ6_bitCount_0f7a4 1 (some .int), Cond.constant RJ6 265 (1431655765), Cond.constant RJ6 266 (858993459), Cond.constant RJ6 267 (252645135), Cond.methodLink RX6 52 yX6_firstEgg]
def wsX6_eggFor_r2 : List Cond := [Cond.instanceMethod yX6_firstEgg, Cond.selects RX6 yX6_firstEgg yX6_firstEgg, Cond.code yX6_firstEgg cX6_firstEgg 7 (some .int)]
def wsX6_eggFor : List Cond := .code yX6_eggFor cX6_eggFor 6 (some .int) :: ((wsX6_eggFor_r1 ++ wsX6_eggFor_r2) ++ wsX60)
def wsX7_init : List Cond := .code yX7_init cX7_init 1 none :: ([.methodLink RX7 3 objectInit, .instanceMethod objectInit, .code objectInit ⟨#[0xb1]⟩ 1 none, .fieldLink RX7 9 "EggThrones$Succession" "kings" "I", .fieldLink RX7 15 "EggThrones$Succession" "minutes" "I", .fieldLink RX7 18 "EggThrones$Succession" "set" "I"] ++ wsX70)
def wsX7_weigh_r1 : List Cond := [Cond.fieldLink RX7 9 "EggThrones$Succession" "kings" "I", Cond.fieldLink RX7 15 "EggThrones$Succession" "minutes" "I", Cond.fieldLink RX7 18 "EggThrones$Succession" "set" "I", Cond.methodLink RX7 31 yJ6_bitCount_0f7a4, Cond.static yJ6_bitCount_0f7a4, Cond.initialized RJ6, Cond.code yJ6_bitCount_0f7a4 cJ6_bitCount_0f7a4 1 (some .int), Cond.constant RJ6 265 (1431655765), Cond.constant RJ6 266 (858993459), Cond.constant RJ6 267 (252645135), Cond.methodLink RX7 36 yX4_reignOf, Cond.instanceMethod yX4_reignOf, Cond.selects RX4 yX4_reignOf yX4_reignOf, Cond.initialized RX4, Cond.code yX4_reignOf cX4_reignOf 2 (some .int), Cond.fieldLink RX4 9 "EggThrones$Morning" "table" "LEggThrones$Table;", Cond.methodLink RX4 50 yX4_boiledOf, Cond.instanceMethod yX4_boiledOf, Cond.selects RX4 yX4_boiledOf yX4_boiledOf, Cond.code yX4_boiledOf cX4_boiledOf 2 (some .int), Cond.fieldLink RX4 19 "EggThrones$Morning" "boiled" "[I", Cond.methodLink RX4 46 yX8_hasEgg, Cond.instanceMethod yX8_hasEgg, Cond.selects RX8 yX8_hasEgg yX8_hasEgg]
def wsX7_weigh_r2 : List Cond := [Cond.initialized RX8, Cond.code yX8_hasEgg cX8_hasEgg 2 (some .boolean), Cond.fieldLink RX8 37 "EggThrones$Table" "eggs" "I", Cond.methodLink RX4 58 yX8_reign, Cond.instanceMethod yX8_reign, Cond.selects RX8 yX8_reign yX8_reign, Cond.code yX8_reign cX8_reign 3 (some .int), Cond.methodLink RX8 69 yX8_hardness, Cond.instanceMethod yX8_hardness, Cond.selects RX8 yX8_hardness yX8_hardness, Cond.code yX8_hardness cX8_hardness 4 (some .int), Cond.fieldLink RX8 15 "EggThrones$Table" "sizes" "[I", Cond.fieldLink RX8 9 "EggThrones$Table" "ages" "[I", Cond.methodLink RX8 53 Lib.Math.min.name, Cond.static Lib.Math.min.name, Cond.initialized "java/lang/Math", Cond.code Lib.Math.min.name Lib.Math.min.code 2 (some .int), Cond.methodLink RX8 66 Lib.Math.max.name, Cond.static Lib.Math.max.name, Cond.code Lib.Math.max.name Lib.Math.max.code 2 (some .int), Cond.methodLink RX8 59 yX8_hasEgg, Cond.methodLink RX8 72 yX8_sizeOf, Cond.instanceMethod yX8_sizeOf, Cond.selects RX8 yX8_sizeOf yX8_sizeOf]
def wsX7_weigh_r3 : List Cond := [Cond.code yX8_sizeOf cX8_sizeOf 2 (some .int)]
def wsX7_weigh : List Cond := .code yX7_weigh cX7_weigh 6 none :: ((wsX7_weigh_r1 ++ (wsX7_weigh_r2 ++ wsX7_weigh_r3)) ++ wsX40 ++ wsX70 ++ wsX80)
def wsX7_tryAll_r1 : List Cond := [Cond.fieldLink RX7 9 "EggThrones$Succession" "kings" "I", Cond.fieldLink RX7 15 "EggThrones$Succession" "minutes" "I", Cond.fieldLink RX7 18 "EggThrones$Succession" "set" "I", Cond.methodLink RX7 21 yX4_setThatIs, Cond.instanceMethod yX4_setThatIs, Cond.selects RX4 yX4_setThatIs yX4_setThatIs, Cond.initialized RX4, Cond.code yX4_setThatIs cX4_setThatIs 4 (some .int), Cond.methodLink RX4 61 yX4_stateOf, Cond.instanceMethod yX4_stateOf, Cond.selects RX4 yX4_stateOf yX4_stateOf, Cond.code yX4_stateOf cX4_stateOf 2 (some .int), Cond.fieldLink RX4 9 "EggThrones$Morning" "table" "LEggThrones$Table;", Cond.fieldLink RX4 15 "EggThrones$Morning" "states" "[I", Cond.methodLink RX4 46 yX8_hasEgg, Cond.instanceMethod yX8_hasEgg, Cond.selects RX8 yX8_hasEgg yX8_hasEgg, Cond.initialized RX8, Cond.code yX8_hasEgg cX8_hasEgg 2 (some .boolean), Cond.fieldLink RX8 37 "EggThrones$Table" "eggs" "I", Cond.methodLink RX7 27 yX7_weigh, Cond.instanceMethod yX7_weigh, Cond.selects RX7 yX7_weigh yX7_weigh, Cond.initialized RX7]
def wsX7_tryAll_r2 : List Cond := [Cond.code yX7_weigh cX7_weigh 6 none, Cond.methodLink RX7 31 yJ6_bitCount_0f7a4, Cond.static yJ6_bitCount_0f7a4, Cond.initialized RJ6, Cond.code yJ6_bitCount_0f7a4 cJ6_bitCount_0f7a4 1 (some .int), Cond.constant RJ6 265 (1431655765), Cond.constant RJ6 266 (858993459), Cond.constant RJ6 267 (252645135), Cond.methodLink RX7 36 yX4_reignOf, Cond.instanceMethod yX4_reignOf, Cond.selects RX4 yX4_reignOf yX4_reignOf, Cond.code yX4_reignOf cX4_reignOf 2 (some .int), Cond.methodLink RX4 50 yX4_boiledOf, Cond.instanceMethod yX4_boiledOf, Cond.selects RX4 yX4_boiledOf yX4_boiledOf, Cond.code yX4_boiledOf cX4_boiledOf 2 (some .int), Cond.fieldLink RX4 19 "EggThrones$Morning" "boiled" "[I", Cond.methodLink RX4 58 yX8_reign, Cond.instanceMethod yX8_reign, Cond.selects RX8 yX8_reign yX8_reign, Cond.code yX8_reign cX8_reign 3 (some .int), Cond.methodLink RX8 69 yX8_hardness, Cond.instanceMethod yX8_hardness, Cond.selects RX8 yX8_hardness yX8_hardness]
def wsX7_tryAll_r3 : List Cond := [Cond.code yX8_hardness cX8_hardness 4 (some .int), Cond.fieldLink RX8 15 "EggThrones$Table" "sizes" "[I", Cond.fieldLink RX8 9 "EggThrones$Table" "ages" "[I", Cond.methodLink RX8 53 Lib.Math.min.name, Cond.static Lib.Math.min.name, Cond.initialized "java/lang/Math", Cond.code Lib.Math.min.name Lib.Math.min.code 2 (some .int), Cond.methodLink RX8 66 Lib.Math.max.name, Cond.static Lib.Math.max.name, Cond.code Lib.Math.max.name Lib.Math.max.code 2 (some .int), Cond.methodLink RX8 59 yX8_hasEgg, Cond.methodLink RX8 72 yX8_sizeOf, Cond.instanceMethod yX8_sizeOf, Cond.selects RX8 yX8_sizeOf yX8_sizeOf, Cond.code yX8_sizeOf cX8_sizeOf 2 (some .int)]
def wsX7_tryAll : List Cond := .code yX7_tryAll cX7_tryAll 4 none :: ((wsX7_tryAll_r1 ++ (wsX7_tryAll_r2 ++ wsX7_tryAll_r3)) ++ wsX70 ++ wsX40 ++ wsX80)
def wsX8_init : List Cond := .code yX8_init cX8_init 1 none :: ([.methodLink RX8 3 objectInit, .instanceMethod objectInit, .code objectInit ⟨#[0xb1]⟩ 1 none, .arrayClass .int, .fieldLink RX8 9 "EggThrones$Table" "ages" "[I", .fieldLink RX8 15 "EggThrones$Table" "sizes" "[I", .fieldLink RX8 18 "EggThrones$Table" "wishes" "[I", .fieldLink RX8 21 "EggThrones$Table" "softest" "[I", .fieldLink RX8 24 "EggThrones$Table" "hardest" "[I", .fieldLink RX8 27 "EggThrones$Table" "places" "I", .fieldLink RX8 31 "EggThrones$Table" "toast" "I", .fieldLink RX8 34 "EggThrones$Table" "limit" "I", .fieldLink RX8 37 "EggThrones$Table" "eggs" "I", .fieldLink RX8 40 "EggThrones$Table" "eaters" "I"] ++ wsX80)
def wsX8_clear : List Cond := .code yX8_clear cX8_clear 1 none :: ([.fieldLink RX8 27 "EggThrones$Table" "places" "I", .fieldLink RX8 31 "EggThrones$Table" "toast" "I", .fieldLink RX8 34 "EggThrones$Table" "limit" "I", .fieldLink RX8 37 "EggThrones$Table" "eggs" "I", .fieldLink RX8 40 "EggThrones$Table" "eaters" "I"] ++ wsX80)
def wsX8_layPan : List Cond := .code yX8_layPan cX8_layPan 4 none :: ([.fieldLink RX8 27 "EggThrones$Table" "places" "I", .fieldLink RX8 31 "EggThrones$Table" "toast" "I", .fieldLink RX8 34 "EggThrones$Table" "limit" "I"] ++ wsX80)
def wsX8_addEgg : List Cond := .code yX8_addEgg cX8_addEgg 3 none :: ([.fieldLink RX8 37 "EggThrones$Table" "eggs" "I", .fieldLink RX8 9 "EggThrones$Table" "ages" "[I", .fieldLink RX8 15 "EggThrones$Table" "sizes" "[I", .fieldLink RX8 18 "EggThrones$Table" "wishes" "[I"] ++ wsX80)
def wsX8_addEater : List Cond := .code yX8_addEater cX8_addEater 3 none :: ([.fieldLink RX8 40 "EggThrones$Table" "eaters" "I", .fieldLink RX8 21 "EggThrones$Table" "softest" "[I", .fieldLink RX8 24 "EggThrones$Table" "hardest" "[I"] ++ wsX80)
def wsX8_become : List Cond := .code yX8_become cX8_become 2 none :: ([.fieldLink RX8 27 "EggThrones$Table" "places" "I", .fieldLink RX8 31 "EggThrones$Table" "toast" "I", .fieldLink RX8 34 "EggThrones$Table" "limit" "I", .fieldLink RX8 37 "EggThrones$Table" "eggs" "I", .fieldLink RX8 40 "EggThrones$Table" "eaters" "I", .fieldLink RX8 9 "EggThrones$Table" "ages" "[I", .methodLink RX8 47 arraycopyName, .native arraycopyName, .static arraycopyName, .initialized "java/lang/System", .fieldLink RX8 15 "EggThrones$Table" "sizes" "[I", .fieldLink RX8 18 "EggThrones$Table" "wishes" "[I", .fieldLink RX8 21 "EggThrones$Table" "softest" "[I", .fieldLink RX8 24 "EggThrones$Table" "hardest" "[I", .methodLink RX8 43 yX8_layPan, .instanceMethod yX8_layPan, .selects RX8 yX8_layPan yX8_layPan, .initialized RX8, .code yX8_layPan cX8_layPan 4 none] ++ wsX80)
def wsX8_isLaid : List Cond := .code yX8_isLaid cX8_isLaid 1 (some .boolean) :: ([.fieldLink RX8 27 "EggThrones$Table" "places" "I"] ++ wsX80)
def wsX8_hasEggs : List Cond := .code yX8_hasEggs cX8_hasEggs 2 (some .boolean) :: ([.fieldLink RX8 37 "EggThrones$Table" "eggs" "I", .methodLink RX8 53 Lib.Math.min.name, .static Lib.Math.min.name, .initialized "java/lang/Math", .code Lib.Math.min.name Lib.Math.min.code 2 (some .int)] ++ wsX80)
def wsX8_ageOf : List Cond := .code yX8_ageOf cX8_ageOf 2 (some .int) :: ([.fieldLink RX8 9 "EggThrones$Table" "ages" "[I", .methodLink RX8 59 yX8_hasEgg, .instanceMethod yX8_hasEgg, .selects RX8 yX8_hasEgg yX8_hasEgg, .initialized RX8, .code yX8_hasEgg cX8_hasEgg 2 (some .boolean), .fieldLink RX8 37 "EggThrones$Table" "eggs" "I"] ++ wsX80)
def wsX8_setWish : List Cond := .code yX8_setWish cX8_setWish 3 none :: ([.fieldLink RX8 18 "EggThrones$Table" "wishes" "[I", .methodLink RX8 59 yX8_hasEgg, .instanceMethod yX8_hasEgg, .selects RX8 yX8_hasEgg yX8_hasEgg, .initialized RX8, .code yX8_hasEgg cX8_hasEgg 2 (some .boolean), .fieldLink RX8 37 "EggThrones$Table" "eggs" "I"] ++ wsX80)
def wsX9_init : List Cond := .code yX9_init cX9_init 1 none :: ([.methodLink RX9 3 objectInit, .instanceMethod objectInit, .code objectInit ⟨#[0xb1]⟩ 1 none, .arrayClass .int, .fieldLink RX9 9 "EggThrones$Text" "letters" "[I", .fieldLink RX9 15 "EggThrones$Text" "count" "I", .fieldLink RX9 19 "EggThrones$Text" "at" "I", .fieldLink RX9 22 "EggThrones$Text" "faultNumber" "I", .fieldLink RX9 25 "EggThrones$Text" "faultAt" "I"] ++ wsX90)
def wsX9_length : List Cond := .code yX9_length cX9_length 1 (some .int) :: ([.fieldLink RX9 15 "EggThrones$Text" "count" "I"] ++ wsX90)
def wsX9_empty : List Cond := .code yX9_empty cX9_empty 1 none :: ([.fieldLink RX9 15 "EggThrones$Text" "count" "I"] ++ wsX90)
def wsX9_faultPlace : List Cond := .code yX9_faultPlace cX9_faultPlace 1 (some .int) :: ([.fieldLink RX9 25 "EggThrones$Text" "faultAt" "I"] ++ wsX90)
def wsX9_add : List Cond := .code yX9_add cX9_add 2 (some .boolean) :: ([.fieldLink RX9 15 "EggThrones$Text" "count" "I", .fieldLink RX9 9 "EggThrones$Text" "letters" "[I"] ++ wsX90)
def wsX9_letterAt : List Cond := .code yX9_letterAt cX9_letterAt 2 (some .int) :: ([.fieldLink RX9 15 "EggThrones$Text" "count" "I", .fieldLink RX9 9 "EggThrones$Text" "letters" "[I"] ++ wsX90)
def wsX9_skipBlanks : List Cond := .code yX9_skipBlanks cX9_skipBlanks 1 (some .int) :: ([.fieldLink RX9 19 "EggThrones$Text" "at" "I", .fieldLink RX9 15 "EggThrones$Text" "count" "I", .methodLink RX9 85 yX9_letterAt, .instanceMethod yX9_letterAt, .selects RX9 yX9_letterAt yX9_letterAt, .initialized RX9, .code yX9_letterAt cX9_letterAt 2 (some .int), .fieldLink RX9 9 "EggThrones$Text" "letters" "[I"] ++ wsX90)
def wsX9_find : List Cond := .code yX9_find cX9_find 3 none :: ([.fieldLink RX9 22 "EggThrones$Text" "faultNumber" "I", .fieldLink RX9 25 "EggThrones$Text" "faultAt" "I"] ++ wsX90)
def wsX9_isFigure : List Cond := .code yX9_isFigure cX9_isFigure 1 (some .boolean) :: ([])
def wsX9_readNumber : List Cond := .code yX9_readNumber cX9_readNumber 7 (some .int) :: ([.fieldLink RX9 22 "EggThrones$Text" "faultNumber" "I", .fieldLink RX9 19 "EggThrones$Text" "at" "I", .methodLink RX9 33 yX9_skipBlanks, .instanceMethod yX9_skipBlanks, .selects RX9 yX9_skipBlanks yX9_skipBlanks, .initialized RX9, .code yX9_skipBlanks cX9_skipBlanks 1 (some .int), .fieldLink RX9 15 "EggThrones$Text" "count" "I", .methodLink RX9 85 yX9_letterAt, .instanceMethod yX9_letterAt, .selects RX9 yX9_letterAt yX9_letterAt, .code yX9_letterAt cX9_letterAt 2 (some .int), .fieldLink RX9 9 "EggThrones$Text" "letters" "[I", .methodLink RX9 81 yX9_isFigure, .static yX9_isFigure, .code yX9_isFigure cX9_isFigure 1 (some .boolean), .methodLink RX9 45 yX9_find, .instanceMethod yX9_find, .selects RX9 yX9_find yX9_find, .code yX9_find cX9_find 3 none, .fieldLink RX9 25 "EggThrones$Text" "faultAt" "I", .static yX10_isWithin, .initialized RX10, .code yX10_isWithin cX10_isWithin 3 (some .boolean)] ++ wsX90)
def wsX9_readSemicolon : List Cond := .code yX9_readSemicolon cX9_readSemicolon 1 none :: ([.fieldLink RX9 22 "EggThrones$Text" "faultNumber" "I", .fieldLink RX9 19 "EggThrones$Text" "at" "I", .methodLink RX9 33 yX9_skipBlanks, .instanceMethod yX9_skipBlanks, .selects RX9 yX9_skipBlanks yX9_skipBlanks, .initialized RX9, .code yX9_skipBlanks cX9_skipBlanks 1 (some .int), .fieldLink RX9 15 "EggThrones$Text" "count" "I", .methodLink RX9 85 yX9_letterAt, .instanceMethod yX9_letterAt, .selects RX9 yX9_letterAt yX9_letterAt, .code yX9_letterAt cX9_letterAt 2 (some .int), .fieldLink RX9 9 "EggThrones$Text" "letters" "[I", .methodLink RX9 45 yX9_find, .instanceMethod yX9_find, .selects RX9 yX9_find yX9_find, .code yX9_find cX9_find 3 none, .fieldLink RX9 25 "EggThrones$Text" "faultAt" "I"] ++ wsX90)
def wsX9_readPan_r1 : List Cond := [Cond.fieldLink RX9 19 "EggThrones$Text" "at" "I", Cond.fieldLink RX9 22 "EggThrones$Text" "faultNumber" "I", Cond.methodLink RX9 41 yX8_isLaid, Cond.instanceMethod yX8_isLaid, Cond.selects RX8 yX8_isLaid yX8_isLaid, Cond.initialized RX8, Cond.code yX8_isLaid cX8_isLaid 1 (some .boolean), Cond.fieldLink RX8 27 "EggThrones$Table" "places" "I", Cond.methodLink RX9 45 yX9_find, Cond.instanceMethod yX9_find, Cond.selects RX9 yX9_find yX9_find, Cond.initialized RX9, Cond.code yX9_find cX9_find 3 none, Cond.fieldLink RX9 25 "EggThrones$Text" "faultAt" "I", Cond.methodLink RX9 58 yX9_readNumber, Cond.instanceMethod yX9_readNumber, Cond.selects RX9 yX9_readNumber yX9_readNumber, Cond.code yX9_readNumber cX9_readNumber 7 (some .int), Cond.methodLink RX9 33 yX9_skipBlanks, Cond.instanceMethod yX9_skipBlanks, Cond.selects RX9 yX9_skipBlanks yX9_skipBlanks, Cond.code yX9_skipBlanks cX9_skipBlanks 1 (some .int), Cond.fieldLink RX9 15 "EggThrones$Text" "count" "I", Cond.methodLink RX9 85 yX9_letterAt]
def wsX9_readPan_r2 : List Cond := [Cond.instanceMethod yX9_letterAt, Cond.selects RX9 yX9_letterAt yX9_letterAt, Cond.code yX9_letterAt cX9_letterAt 2 (some .int), Cond.fieldLink RX9 9 "EggThrones$Text" "letters" "[I", Cond.methodLink RX9 81 yX9_isFigure, Cond.static yX9_isFigure, Cond.code yX9_isFigure cX9_isFigure 1 (some .boolean), Cond.static yX10_isWithin, Cond.initialized RX10, Cond.code yX10_isWithin cX10_isWithin 3 (some .boolean), Cond.methodLink RX9 62 yX9_readSemicolon, Cond.instanceMethod yX9_readSemicolon, Cond.selects RX9 yX9_readSemicolon yX9_readSemicolon, Cond.code yX9_readSemicolon cX9_readSemicolon 1 none, Cond.methodLink RX9 65 yX8_layPan, Cond.instanceMethod yX8_layPan, Cond.selects RX8 yX8_layPan yX8_layPan, Cond.code yX8_layPan cX8_layPan 4 none, Cond.fieldLink RX8 31 "EggThrones$Table" "toast" "I", Cond.fieldLink RX8 34 "EggThrones$Table" "limit" "I"]
def wsX9_readPan : List Cond := .code yX9_readPan cX9_readPan 5 none :: ((wsX9_readPan_r1 ++ wsX9_readPan_r2) ++ wsX90 ++ wsX80)
def wsX9_readEgg_r1 : List Cond := [Cond.fieldLink RX9 19 "EggThrones$Text" "at" "I", Cond.fieldLink RX9 22 "EggThrones$Text" "faultNumber" "I", Cond.methodLink RX9 45 yX9_find, Cond.instanceMethod yX9_find, Cond.selects RX9 yX9_find yX9_find, Cond.initialized RX9, Cond.code yX9_find cX9_find 3 none, Cond.fieldLink RX9 25 "EggThrones$Text" "faultAt" "I", Cond.methodLink RX9 58 yX9_readNumber, Cond.instanceMethod yX9_readNumber, Cond.selects RX9 yX9_readNumber yX9_readNumber, Cond.code yX9_readNumber cX9_readNumber 7 (some .int), Cond.methodLink RX9 33 yX9_skipBlanks, Cond.instanceMethod yX9_skipBlanks, Cond.selects RX9 yX9_skipBlanks yX9_skipBlanks, Cond.code yX9_skipBlanks cX9_skipBlanks 1 (some .int), Cond.fieldLink RX9 15 "EggThrones$Text" "count" "I", Cond.methodLink RX9 85 yX9_letterAt, Cond.instanceMethod yX9_letterAt, Cond.selects RX9 yX9_letterAt yX9_letterAt, Cond.code yX9_letterAt cX9_letterAt 2 (some .int), Cond.fieldLink RX9 9 "EggThrones$Text" "letters" "[I", Cond.methodLink RX9 81 yX9_isFigure, Cond.static yX9_isFigure]
def wsX9_readEgg_r2 : List Cond := [Cond.code yX9_isFigure cX9_isFigure 1 (some .boolean), Cond.static yX10_isWithin, Cond.initialized RX10, Cond.code yX10_isWithin cX10_isWithin 3 (some .boolean), Cond.methodLink RX9 62 yX9_readSemicolon, Cond.instanceMethod yX9_readSemicolon, Cond.selects RX9 yX9_readSemicolon yX9_readSemicolon, Cond.code yX9_readSemicolon cX9_readSemicolon 1 none, Cond.methodLink RX9 72 yX8_addEgg, Cond.instanceMethod yX8_addEgg, Cond.selects RX8 yX8_addEgg yX8_addEgg, Cond.initialized RX8, Cond.code yX8_addEgg cX8_addEgg 3 none, Cond.fieldLink RX8 37 "EggThrones$Table" "eggs" "I", Cond.fieldLink RX8 9 "EggThrones$Table" "ages" "[I", Cond.fieldLink RX8 15 "EggThrones$Table" "sizes" "[I", Cond.fieldLink RX8 18 "EggThrones$Table" "wishes" "[I"]
def wsX9_readEgg : List Cond := .code yX9_readEgg cX9_readEgg 4 none :: ((wsX9_readEgg_r1 ++ wsX9_readEgg_r2) ++ wsX80 ++ wsX90)
def wsX9_readEater_r1 : List Cond := [Cond.fieldLink RX9 19 "EggThrones$Text" "at" "I", Cond.fieldLink RX9 22 "EggThrones$Text" "faultNumber" "I", Cond.methodLink RX9 45 yX9_find, Cond.instanceMethod yX9_find, Cond.selects RX9 yX9_find yX9_find, Cond.initialized RX9, Cond.code yX9_find cX9_find 3 none, Cond.fieldLink RX9 25 "EggThrones$Text" "faultAt" "I", Cond.methodLink RX9 58 yX9_readNumber, Cond.instanceMethod yX9_readNumber, Cond.selects RX9 yX9_readNumber yX9_readNumber, Cond.code yX9_readNumber cX9_readNumber 7 (some .int), Cond.methodLink RX9 33 yX9_skipBlanks, Cond.instanceMethod yX9_skipBlanks, Cond.selects RX9 yX9_skipBlanks yX9_skipBlanks, Cond.code yX9_skipBlanks cX9_skipBlanks 1 (some .int), Cond.fieldLink RX9 15 "EggThrones$Text" "count" "I", Cond.methodLink RX9 85 yX9_letterAt, Cond.instanceMethod yX9_letterAt, Cond.selects RX9 yX9_letterAt yX9_letterAt, Cond.code yX9_letterAt cX9_letterAt 2 (some .int), Cond.fieldLink RX9 9 "EggThrones$Text" "letters" "[I", Cond.methodLink RX9 81 yX9_isFigure, Cond.static yX9_isFigure]
def wsX9_readEater_r2 : List Cond := [Cond.code yX9_isFigure cX9_isFigure 1 (some .boolean), Cond.static yX10_isWithin, Cond.initialized RX10, Cond.code yX10_isWithin cX10_isWithin 3 (some .boolean), Cond.methodLink RX9 62 yX9_readSemicolon, Cond.instanceMethod yX9_readSemicolon, Cond.selects RX9 yX9_readSemicolon yX9_readSemicolon, Cond.code yX9_readSemicolon cX9_readSemicolon 1 none, Cond.methodLink RX9 78 yX8_addEater, Cond.instanceMethod yX8_addEater, Cond.selects RX8 yX8_addEater yX8_addEater, Cond.initialized RX8, Cond.code yX8_addEater cX8_addEater 3 none, Cond.fieldLink RX8 40 "EggThrones$Table" "eaters" "I", Cond.fieldLink RX8 21 "EggThrones$Table" "softest" "[I", Cond.fieldLink RX8 24 "EggThrones$Table" "hardest" "[I"]
def wsX9_readEater : List Cond := .code yX9_readEater cX9_readEater 4 none :: ((wsX9_readEater_r1 ++ wsX9_readEater_r2) ++ wsX80 ++ wsX90)
def wsX9_readClause_r1 : List Cond := [Cond.fieldLink RX9 19 "EggThrones$Text" "at" "I", Cond.methodLink RX9 33 yX9_skipBlanks, Cond.instanceMethod yX9_skipBlanks, Cond.selects RX9 yX9_skipBlanks yX9_skipBlanks, Cond.initialized RX9, Cond.code yX9_skipBlanks cX9_skipBlanks 1 (some .int), Cond.fieldLink RX9 15 "EggThrones$Text" "count" "I", Cond.methodLink RX9 85 yX9_letterAt, Cond.instanceMethod yX9_letterAt, Cond.selects RX9 yX9_letterAt yX9_letterAt, Cond.code yX9_letterAt cX9_letterAt 2 (some .int), Cond.fieldLink RX9 9 "EggThrones$Text" "letters" "[I", Cond.methodLink RX9 41 yX8_isLaid, Cond.instanceMethod yX8_isLaid, Cond.selects RX8 yX8_isLaid yX8_isLaid, Cond.initialized RX8, Cond.code yX8_isLaid cX8_isLaid 1 (some .boolean), Cond.fieldLink RX8 27 "EggThrones$Table" "places" "I", Cond.methodLink RX9 45 yX9_find, Cond.instanceMethod yX9_find, Cond.selects RX9 yX9_find yX9_find, Cond.code yX9_find cX9_find 3 none, Cond.fieldLink RX9 22 "EggThrones$Text" "faultNumber" "I", Cond.fieldLink RX9 25 "EggThrones$Text" "faultAt" "I"]
def wsX9_readClause_r2 : List Cond := [Cond.methodLink RX9 49 yX9_readPan, Cond.instanceMethod yX9_readPan, Cond.selects RX9 yX9_readPan yX9_readPan, Cond.code yX9_readPan cX9_readPan 5 none, Cond.methodLink RX9 58 yX9_readNumber, Cond.instanceMethod yX9_readNumber, Cond.selects RX9 yX9_readNumber yX9_readNumber, Cond.code yX9_readNumber cX9_readNumber 7 (some .int), Cond.methodLink RX9 81 yX9_isFigure, Cond.static yX9_isFigure, Cond.code yX9_isFigure cX9_isFigure 1 (some .boolean), Cond.static yX10_isWithin, Cond.initialized RX10, Cond.code yX10_isWithin cX10_isWithin 3 (some .boolean), Cond.methodLink RX9 62 yX9_readSemicolon, Cond.instanceMethod yX9_readSemicolon, Cond.selects RX9 yX9_readSemicolon yX9_readSemicolon, Cond.code yX9_readSemicolon cX9_readSemicolon 1 none, Cond.methodLink RX9 65 yX8_layPan, Cond.instanceMethod yX8_layPan, Cond.selects RX8 yX8_layPan yX8_layPan, Cond.code yX8_layPan cX8_layPan 4 none, Cond.fieldLink RX8 31 "EggThrones$Table" "toast" "I", Cond.fieldLink RX8 34 "EggThrones$Table" "limit" "I"]
def wsX9_readClause_r3 : List Cond := [Cond.methodLink RX9 52 yX9_readEgg, Cond.instanceMethod yX9_readEgg, Cond.selects RX9 yX9_readEgg yX9_readEgg, Cond.code yX9_readEgg cX9_readEgg 4 none, Cond.methodLink RX9 72 yX8_addEgg, Cond.instanceMethod yX8_addEgg, Cond.selects RX8 yX8_addEgg yX8_addEgg, Cond.code yX8_addEgg cX8_addEgg 3 none, Cond.fieldLink RX8 37 "EggThrones$Table" "eggs" "I", Cond.fieldLink RX8 9 "EggThrones$Table" "ages" "[I", Cond.fieldLink RX8 15 "EggThrones$Table" "sizes" "[I", Cond.fieldLink RX8 18 "EggThrones$Table" "wishes" "[I", Cond.methodLink RX9 55 yX9_readEater, Cond.instanceMethod yX9_readEater, Cond.selects RX9 yX9_readEater yX9_readEater, Cond.code yX9_readEater cX9_readEater 4 none, Cond.methodLink RX9 78 yX8_addEater, Cond.instanceMethod yX8_addEater, Cond.selects RX8 yX8_addEater yX8_addEater, Cond.code yX8_addEater cX8_addEater 3 none, Cond.fieldLink RX8 40 "EggThrones$Table" "eaters" "I", Cond.fieldLink RX8 21 "EggThrones$Table" "softest" "[I", Cond.fieldLink RX8 24 "EggThrones$Table" "hardest" "[I"]
def wsX9_readClause : List Cond := .code yX9_readClause cX9_readClause 3 none :: ((wsX9_readClause_r1 ++ (wsX9_readClause_r2 ++ wsX9_readClause_r3)) ++ wsX90 ++ wsX80)
def wsX9_readInto_r1 : List Cond := [Cond.fieldLink RX9 19 "EggThrones$Text" "at" "I", Cond.fieldLink RX9 22 "EggThrones$Text" "faultNumber" "I", Cond.fieldLink RX9 25 "EggThrones$Text" "faultAt" "I", Cond.methodLink RX9 28 yX8_clear, Cond.instanceMethod yX8_clear, Cond.selects RX8 yX8_clear yX8_clear, Cond.initialized RX8, Cond.code yX8_clear cX8_clear 1 none, Cond.fieldLink RX8 27 "EggThrones$Table" "places" "I", Cond.fieldLink RX8 31 "EggThrones$Table" "toast" "I", Cond.fieldLink RX8 34 "EggThrones$Table" "limit" "I", Cond.fieldLink RX8 37 "EggThrones$Table" "eggs" "I", Cond.fieldLink RX8 40 "EggThrones$Table" "eaters" "I", Cond.methodLink RX9 33 yX9_skipBlanks, Cond.instanceMethod yX9_skipBlanks, Cond.selects RX9 yX9_skipBlanks yX9_skipBlanks, Cond.initialized RX9, Cond.code yX9_skipBlanks cX9_skipBlanks 1 (some .int), Cond.fieldLink RX9 15 "EggThrones$Text" "count" "I", Cond.methodLink RX9 85 yX9_letterAt, Cond.instanceMethod yX9_letterAt, Cond.selects RX9 yX9_letterAt yX9_letterAt, Cond.code yX9_letterAt cX9_letterAt 2 (some .int), Cond.fieldLink RX9 9 "EggThrones$Text" "letters" "[I"]
def wsX9_readInto_r2 : List Cond := [Cond.methodLink RX9 37 yX9_readClause, Cond.instanceMethod yX9_readClause, Cond.selects RX9 yX9_readClause yX9_readClause, Cond.code yX9_readClause cX9_readClause 3 none, Cond.methodLink RX9 41 yX8_isLaid, Cond.instanceMethod yX8_isLaid, Cond.selects RX8 yX8_isLaid yX8_isLaid, Cond.code yX8_isLaid cX8_isLaid 1 (some .boolean), Cond.methodLink RX9 45 yX9_find, Cond.instanceMethod yX9_find, Cond.selects RX9 yX9_find yX9_find, Cond.code yX9_find cX9_find 3 none, Cond.methodLink RX9 49 yX9_readPan, Cond.instanceMethod yX9_readPan, Cond.selects RX9 yX9_readPan yX9_readPan, Cond.code yX9_readPan cX9_readPan 5 none, Cond.methodLink RX9 58 yX9_readNumber, Cond.instanceMethod yX9_readNumber, Cond.selects RX9 yX9_readNumber yX9_readNumber, Cond.code yX9_readNumber cX9_readNumber 7 (some .int), Cond.methodLink RX9 81 yX9_isFigure, Cond.static yX9_isFigure, Cond.code yX9_isFigure cX9_isFigure 1 (some .boolean), Cond.static yX10_isWithin]
def wsX9_readInto_r3 : List Cond := [Cond.initialized RX10, Cond.code yX10_isWithin cX10_isWithin 3 (some .boolean), Cond.methodLink RX9 62 yX9_readSemicolon, Cond.instanceMethod yX9_readSemicolon, Cond.selects RX9 yX9_readSemicolon yX9_readSemicolon, Cond.code yX9_readSemicolon cX9_readSemicolon 1 none, Cond.methodLink RX9 65 yX8_layPan, Cond.instanceMethod yX8_layPan, Cond.selects RX8 yX8_layPan yX8_layPan, Cond.code yX8_layPan cX8_layPan 4 none, Cond.methodLink RX9 52 yX9_readEgg, Cond.instanceMethod yX9_readEgg, Cond.selects RX9 yX9_readEgg yX9_readEgg, Cond.code yX9_readEgg cX9_readEgg 4 none, Cond.methodLink RX9 72 yX8_addEgg, Cond.instanceMethod yX8_addEgg, Cond.selects RX8 yX8_addEgg yX8_addEgg, Cond.code yX8_addEgg cX8_addEgg 3 none, Cond.fieldLink RX8 9 "EggThrones$Table" "ages" "[I", Cond.fieldLink RX8 15 "EggThrones$Table" "sizes" "[I", Cond.fieldLink RX8 18 "EggThrones$Table" "wishes" "[I", Cond.methodLink RX9 55 yX9_readEater, Cond.instanceMethod yX9_readEater, Cond.selects RX9 yX9_readEater yX9_readEater]
def wsX9_readInto_r4 : List Cond := [Cond.code yX9_readEater cX9_readEater 4 none, Cond.methodLink RX9 78 yX8_addEater, Cond.instanceMethod yX8_addEater, Cond.selects RX8 yX8_addEater yX8_addEater, Cond.code yX8_addEater cX8_addEater 3 none, Cond.fieldLink RX8 21 "EggThrones$Table" "softest" "[I", Cond.fieldLink RX8 24 "EggThrones$Table" "hardest" "[I"]
def wsX9_readInto : List Cond := .code yX9_readInto cX9_readInto 3 (some .int) :: ((wsX9_readInto_r1 ++ (wsX9_readInto_r2 ++ (wsX9_readInto_r3 ++ wsX9_readInto_r4))) ++ wsX90 ++ wsX80)
def wsX10_init_r1 : List Cond := [Cond.methodLink RX10 1 objectInit, Cond.instanceMethod objectInit, Cond.code objectInit ⟨#[0xb1]⟩ 1 none, Cond.classLink RX10 7 RX8, Cond.instantiable RX8 10, Cond.initialized RX8, Cond.classLink RX10 10 RX9, Cond.instantiable RX9 5, Cond.initialized RX9, Cond.fieldLink RX10 13 "EggThrones" "text" "LEggThrones$Text;", Cond.fieldLink RX10 19 "EggThrones" "laid" "LEggThrones$Table;", Cond.fieldLink RX10 23 "EggThrones" "draft" "LEggThrones$Table;", Cond.classLink RX10 26 RX4, Cond.instantiable RX4 9, Cond.initialized RX4, Cond.fieldLink RX10 31 "EggThrones" "now" "LEggThrones$Morning;", Cond.classLink RX10 35 RX5, Cond.instantiable RX5 3, Cond.initialized RX5, Cond.fieldLink RX10 38 "EggThrones" "past" "LEggThrones$Past;", Cond.classLink RX10 42 RX3, Cond.instantiable RX3 3, Cond.initialized RX3, Cond.fieldLink RX10 45 "EggThrones" "images" "LEggThrones$Images;"]
def wsX10_init_r2 : List Cond := [Cond.classLink RX10 49 RX2, Cond.instantiable RX2 3, Cond.initialized RX2, Cond.fieldLink RX10 52 "EggThrones" "clues" "LEggThrones$Clues;", Cond.classLink RX10 56 RX1, Cond.instantiable RX1 3, Cond.initialized RX1, Cond.fieldLink RX10 59 "EggThrones" "book" "LEggThrones$Book;", Cond.classLink RX10 63 RX0, Cond.instantiable RX0 6, Cond.initialized RX0, Cond.fieldLink RX10 66 "EggThrones" "boiling" "LEggThrones$Boiling;", Cond.classLink RX10 70 RX7, Cond.instantiable RX7 3, Cond.initialized RX7, Cond.fieldLink RX10 73 "EggThrones" "succession" "LEggThrones$Succession;", Cond.classLink RX10 77 RX6, Cond.instantiable RX6 1, Cond.initialized RX6, Cond.fieldLink RX10 80 "EggThrones" "sharing" "LEggThrones$Sharing;", Cond.fieldLink RX10 84 "EggThrones" "latestFaultAt" "I", Cond.fieldLink RX10 88 "EggThrones" "drawSeed" "I", Cond.methodLink RX10 9 yX8_init, Cond.instanceMethod yX8_init]
def wsX10_init_r3 : List Cond := [Cond.code yX8_init cX8_init 1 none, Cond.methodLink RX8 3 objectInit, Cond.arrayClass .int, Cond.fieldLink RX8 9 "EggThrones$Table" "ages" "[I", Cond.fieldLink RX8 15 "EggThrones$Table" "sizes" "[I", Cond.fieldLink RX8 18 "EggThrones$Table" "wishes" "[I", Cond.fieldLink RX8 21 "EggThrones$Table" "softest" "[I", Cond.fieldLink RX8 24 "EggThrones$Table" "hardest" "[I", Cond.fieldLink RX8 27 "EggThrones$Table" "places" "I", Cond.fieldLink RX8 31 "EggThrones$Table" "toast" "I", Cond.fieldLink RX8 34 "EggThrones$Table" "limit" "I", Cond.fieldLink RX8 37 "EggThrones$Table" "eggs" "I", Cond.fieldLink RX8 40 "EggThrones$Table" "eaters" "I", Cond.methodLink RX10 12 yX9_init, Cond.instanceMethod yX9_init, Cond.code yX9_init cX9_init 1 none, Cond.methodLink RX9 3 objectInit, Cond.fieldLink RX9 9 "EggThrones$Text" "letters" "[I", Cond.fieldLink RX9 15 "EggThrones$Text" "count" "I", Cond.fieldLink RX9 19 "EggThrones$Text" "at" "I", Cond.fieldLink RX9 22 "EggThrones$Text" "faultNumber" "I", Cond.fieldLink RX9 25 "EggThrones$Text" "faultAt" "I", Cond.methodLink RX10 28 yX4_init, Cond.instanceMethod yX4_init]
def wsX10_init_r4 : List Cond := [Cond.code yX4_init cX4_init 2 none, Cond.methodLink RX4 3 objectInit, Cond.fieldLink RX4 9 "EggThrones$Morning" "table" "LEggThrones$Table;", Cond.fieldLink RX4 15 "EggThrones$Morning" "states" "[I", Cond.fieldLink RX4 19 "EggThrones$Morning" "boiled" "[I", Cond.fieldLink RX4 22 "EggThrones$Morning" "king" "I", Cond.fieldLink RX4 26 "EggThrones$Morning" "left" "I", Cond.fieldLink RX4 29 "EggThrones$Morning" "soldiers" "I", Cond.fieldLink RX4 32 "EggThrones$Morning" "minutes" "I", Cond.fieldLink RX4 35 "EggThrones$Morning" "reigned" "I", Cond.fieldLink RX4 38 "EggThrones$Morning" "scraped" "I", Cond.methodLink RX10 37 yX5_init, Cond.instanceMethod yX5_init, Cond.code yX5_init cX5_init 1 none, Cond.methodLink RX5 3 objectInit, Cond.fieldLink RX5 11 "EggThrones$Past" "rows" "[I", Cond.fieldLink RX5 17 "EggThrones$Past" "oldest" "I", Cond.fieldLink RX5 21 "EggThrones$Past" "count" "I", Cond.methodLink RX10 44 yX3_init, Cond.instanceMethod yX3_init, Cond.code yX3_init cX3_init 1 none, Cond.methodLink RX3 3 objectInit, Cond.fieldLink RX3 11 "EggThrones$Images" "rows" "[I", Cond.fieldLink RX3 17 "EggThrones$Images" "seeds" "[I"]
def wsX10_init_r5 : List Cond := [Cond.arrayClass .boolean, Cond.fieldLink RX3 20 "EggThrones$Images" "taken" "[Z", Cond.methodLink RX10 51 yX2_init, Cond.instanceMethod yX2_init, Cond.code yX2_init cX2_init 1 none, Cond.methodLink RX2 3 objectInit, Cond.fieldLink RX2 9 "EggThrones$Clues" "tests" "[I", Cond.fieldLink RX2 15 "EggThrones$Clues" "answers" "[I", Cond.fieldLink RX2 18 "EggThrones$Clues" "count" "I", Cond.methodLink RX10 58 yX1_init, Cond.instanceMethod yX1_init, Cond.code yX1_init cX1_init 1 none, Cond.methodLink RX1 3 objectInit, Cond.fieldLink RX1 9 "EggThrones$Book" "eggs" "[I", Cond.fieldLink RX1 15 "EggThrones$Book" "states" "[I", Cond.fieldLink RX1 18 "EggThrones$Book" "count" "I", Cond.methodLink RX10 65 yX0_init, Cond.instanceMethod yX0_init, Cond.code yX0_init cX0_init 1 none, Cond.methodLink RX0 3 objectInit, Cond.fieldLink RX0 9 "EggThrones$Boiling" "times" "[I", Cond.fieldLink RX0 15 "EggThrones$Boiling" "loads" "[I", Cond.fieldLink RX0 18 "EggThrones$Boiling" "way" "[I", Cond.fieldLink RX0 21 "EggThrones$Boiling" "bestWay" "[I"]
def wsX10_init_r6 : List Cond := [Cond.fieldLink RX0 24 "EggThrones$Boiling" "places" "I", Cond.fieldLink RX0 28 "EggThrones$Boiling" "least" "I", Cond.methodLink RX10 72 yX7_init, Cond.instanceMethod yX7_init, Cond.code yX7_init cX7_init 1 none, Cond.methodLink RX7 3 objectInit, Cond.fieldLink RX7 9 "EggThrones$Succession" "kings" "I", Cond.fieldLink RX7 15 "EggThrones$Succession" "minutes" "I", Cond.fieldLink RX7 18 "EggThrones$Succession" "set" "I", Cond.methodLink RX10 79 yX6_init, Cond.instanceMethod yX6_init, Cond.code yX6_init cX6_init 1 none, Cond.methodLink RX6 3 objectInit, Cond.fieldLink RX6 9 "EggThrones$Sharing" "likings" "[I"]
def wsX10_init : List Cond := .code yX10_init cX10_init 2 none :: ((wsX10_init_r1 ++ (wsX10_init_r2 ++ (wsX10_init_r3 ++ (wsX10_init_r4 ++ (wsX10_init_r5 ++ wsX10_init_r6))))) ++ wsX80 ++ wsX90 ++ wsX100 ++ wsX40 ++ wsX50 ++ wsX30 ++ wsX20 ++ wsX10 ++ wsX00 ++ wsX70 ++ wsX60)
def wsX10_feed : List Cond := .code yX10_feed cX10_feed 2 (some .int) :: ([.constant RX10 95 (-1000000002), .fieldLink RX10 13 "EggThrones" "text" "LEggThrones$Text;", .constant RX10 104 (-1000000004), .methodLink RX10 91 yX10_isWithin, .static yX10_isWithin, .initialized RX10, .code yX10_isWithin cX10_isWithin 3 (some .boolean), .methodLink RX10 96 yX9_add, .instanceMethod yX9_add, .selects RX9 yX9_add yX9_add, .initialized RX9, .code yX9_add cX9_add 2 (some .boolean), .fieldLink RX9 15 "EggThrones$Text" "count" "I", .fieldLink RX9 9 "EggThrones$Text" "letters" "[I", .methodLink RX10 100 yX9_length, .instanceMethod yX9_length, .selects RX9 yX9_length yX9_length, .code yX9_length cX9_length 1 (some .int)] ++ wsX100 ++ wsX90)
def wsX10_table_r1 : List Cond := [Cond.fieldLink RX10 13 "EggThrones" "text" "LEggThrones$Text;", Cond.fieldLink RX10 23 "EggThrones" "draft" "LEggThrones$Table;", Cond.fieldLink RX10 84 "EggThrones" "latestFaultAt" "I", Cond.fieldLink RX10 19 "EggThrones" "laid" "LEggThrones$Table;", Cond.fieldLink RX10 31 "EggThrones" "now" "LEggThrones$Morning;", Cond.fieldLink RX10 38 "EggThrones" "past" "LEggThrones$Past;", Cond.fieldLink RX10 45 "EggThrones" "images" "LEggThrones$Images;", Cond.fieldLink RX10 52 "EggThrones" "clues" "LEggThrones$Clues;", Cond.fieldLink RX10 59 "EggThrones" "book" "LEggThrones$Book;", Cond.methodLink RX10 105 yX9_readInto, Cond.instanceMethod yX9_readInto, Cond.selects RX9 yX9_readInto yX9_readInto, Cond.initialized RX9, Cond.code yX9_readInto cX9_readInto 3 (some .int), Cond.fieldLink RX9 19 "EggThrones$Text" "at" "I", Cond.fieldLink RX9 22 "EggThrones$Text" "faultNumber" "I", Cond.fieldLink RX9 25 "EggThrones$Text" "faultAt" "I", Cond.methodLink RX9 28 yX8_clear, Cond.instanceMethod yX8_clear, Cond.selects RX8 yX8_clear yX8_clear, Cond.initialized RX8, Cond.code yX8_clear cX8_clear 1 none, Cond.fieldLink RX8 27 "EggThrones$Table" "places" "I", Cond.fieldLink RX8 31 "EggThrones$Table" "toast" "I"]
def wsX10_table_r2 : List Cond := [Cond.fieldLink RX8 34 "EggThrones$Table" "limit" "I", Cond.fieldLink RX8 37 "EggThrones$Table" "eggs" "I", Cond.fieldLink RX8 40 "EggThrones$Table" "eaters" "I", Cond.methodLink RX9 33 yX9_skipBlanks, Cond.instanceMethod yX9_skipBlanks, Cond.selects RX9 yX9_skipBlanks yX9_skipBlanks, Cond.code yX9_skipBlanks cX9_skipBlanks 1 (some .int), Cond.fieldLink RX9 15 "EggThrones$Text" "count" "I", Cond.methodLink RX9 85 yX9_letterAt, Cond.instanceMethod yX9_letterAt, Cond.selects RX9 yX9_letterAt yX9_letterAt, Cond.code yX9_letterAt cX9_letterAt 2 (some .int), Cond.fieldLink RX9 9 "EggThrones$Text" "letters" "[I", Cond.methodLink RX9 37 yX9_readClause, Cond.instanceMethod yX9_readClause, Cond.selects RX9 yX9_readClause yX9_readClause, Cond.code yX9_readClause cX9_readClause 3 none, Cond.methodLink RX9 41 yX8_isLaid, Cond.instanceMethod yX8_isLaid, Cond.selects RX8 yX8_isLaid yX8_isLaid, Cond.code yX8_isLaid cX8_isLaid 1 (some .boolean), Cond.methodLink RX9 45 yX9_find, Cond.instanceMethod yX9_find, Cond.selects RX9 yX9_find yX9_find]
def wsX10_table_r3 : List Cond := [Cond.code yX9_find cX9_find 3 none, Cond.methodLink RX9 49 yX9_readPan, Cond.instanceMethod yX9_readPan, Cond.selects RX9 yX9_readPan yX9_readPan, Cond.code yX9_readPan cX9_readPan 5 none, Cond.methodLink RX9 58 yX9_readNumber, Cond.instanceMethod yX9_readNumber, Cond.selects RX9 yX9_readNumber yX9_readNumber, Cond.code yX9_readNumber cX9_readNumber 7 (some .int), Cond.methodLink RX9 81 yX9_isFigure, Cond.static yX9_isFigure, Cond.code yX9_isFigure cX9_isFigure 1 (some .boolean), Cond.static yX10_isWithin, Cond.initialized RX10, Cond.code yX10_isWithin cX10_isWithin 3 (some .boolean), Cond.methodLink RX9 62 yX9_readSemicolon, Cond.instanceMethod yX9_readSemicolon, Cond.selects RX9 yX9_readSemicolon yX9_readSemicolon, Cond.code yX9_readSemicolon cX9_readSemicolon 1 none, Cond.methodLink RX9 65 yX8_layPan, Cond.instanceMethod yX8_layPan, Cond.selects RX8 yX8_layPan yX8_layPan, Cond.code yX8_layPan cX8_layPan 4 none, Cond.methodLink RX9 52 yX9_readEgg]
def wsX10_table_r4 : List Cond := [Cond.instanceMethod yX9_readEgg, Cond.selects RX9 yX9_readEgg yX9_readEgg, Cond.code yX9_readEgg cX9_readEgg 4 none, Cond.methodLink RX9 72 yX8_addEgg, Cond.instanceMethod yX8_addEgg, Cond.selects RX8 yX8_addEgg yX8_addEgg, Cond.code yX8_addEgg cX8_addEgg 3 none, Cond.fieldLink RX8 9 "EggThrones$Table" "ages" "[I", Cond.fieldLink RX8 15 "EggThrones$Table" "sizes" "[I", Cond.fieldLink RX8 18 "EggThrones$Table" "wishes" "[I", Cond.methodLink RX9 55 yX9_readEater, Cond.instanceMethod yX9_readEater, Cond.selects RX9 yX9_readEater yX9_readEater, Cond.code yX9_readEater cX9_readEater 4 none, Cond.methodLink RX9 78 yX8_addEater, Cond.instanceMethod yX8_addEater, Cond.selects RX8 yX8_addEater yX8_addEater, Cond.code yX8_addEater cX8_addEater 3 none, Cond.fieldLink RX8 21 "EggThrones$Table" "softest" "[I", Cond.fieldLink RX8 24 "EggThrones$Table" "hardest" "[I", Cond.methodLink RX10 109 yX9_faultPlace, Cond.instanceMethod yX9_faultPlace, Cond.selects RX9 yX9_faultPlace yX9_faultPlace, Cond.code yX9_faultPlace cX9_faultPlace 1 (some .int)]
def wsX10_table_r5 : List Cond := [Cond.methodLink RX10 112 yX9_empty, Cond.instanceMethod yX9_empty, Cond.selects RX9 yX9_empty yX9_empty, Cond.code yX9_empty cX9_empty 1 none, Cond.methodLink RX10 115 yX8_become, Cond.instanceMethod yX8_become, Cond.selects RX8 yX8_become yX8_become, Cond.code yX8_become cX8_become 2 none, Cond.methodLink RX8 47 arraycopyName, Cond.native arraycopyName, Cond.static arraycopyName, Cond.initialized "java/lang/System", Cond.methodLink RX8 43 yX8_layPan, Cond.methodLink RX10 118 yX4_begin, Cond.instanceMethod yX4_begin, Cond.selects RX4 yX4_begin yX4_begin, Cond.initialized RX4, Cond.code yX4_begin cX4_begin 2 none, Cond.fieldLink RX4 15 "EggThrones$Morning" "states" "[I", Cond.fieldLink RX4 19 "EggThrones$Morning" "boiled" "[I", Cond.fieldLink RX4 22 "EggThrones$Morning" "king" "I", Cond.fieldLink RX4 26 "EggThrones$Morning" "left" "I", Cond.fieldLink RX4 9 "EggThrones$Morning" "table" "LEggThrones$Table;", Cond.fieldLink RX4 29 "EggThrones$Morning" "soldiers" "I"]
def wsX10_table_r6 : List Cond := [Cond.fieldLink RX4 32 "EggThrones$Morning" "minutes" "I", Cond.fieldLink RX4 35 "EggThrones$Morning" "reigned" "I", Cond.fieldLink RX4 38 "EggThrones$Morning" "scraped" "I", Cond.methodLink RX10 121 yX5_forget, Cond.instanceMethod yX5_forget, Cond.selects RX5 yX5_forget yX5_forget, Cond.initialized RX5, Cond.code yX5_forget cX5_forget 1 none, Cond.fieldLink RX5 17 "EggThrones$Past" "oldest" "I", Cond.fieldLink RX5 21 "EggThrones$Past" "count" "I", Cond.methodLink RX10 124 yX3_forget, Cond.instanceMethod yX3_forget, Cond.selects RX3 yX3_forget yX3_forget, Cond.initialized RX3, Cond.code yX3_forget cX3_forget 2 none, Cond.fieldLink RX3 20 "EggThrones$Images" "taken" "[Z", Cond.methodLink RX10 125 yX2_forget, Cond.instanceMethod yX2_forget, Cond.selects RX2 yX2_forget yX2_forget, Cond.initialized RX2, Cond.code yX2_forget cX2_forget 1 none, Cond.fieldLink RX2 18 "EggThrones$Clues" "count" "I", Cond.methodLink RX10 126 yX1_forget, Cond.instanceMethod yX1_forget]
def wsX10_table_r7 : List Cond := [Cond.selects RX1 yX1_forget yX1_forget, Cond.initialized RX1, Cond.code yX1_forget cX1_forget 1 none, Cond.fieldLink RX1 18 "EggThrones$Book" "count" "I"]
def wsX10_table : List Cond := .code yX10_table cX10_table 2 (some .int) :: ((wsX10_table_r1 ++ (wsX10_table_r2 ++ (wsX10_table_r3 ++ (wsX10_table_r4 ++ (wsX10_table_r5 ++ (wsX10_table_r6 ++ wsX10_table_r7)))))) ++ wsX100 ++ wsX80 ++ wsX90 ++ wsX40 ++ wsX50 ++ wsX30 ++ wsX20 ++ wsX10)
def wsX10_fault : List Cond := .code yX10_fault cX10_fault 1 (some .int) :: ([.fieldLink RX10 84 "EggThrones" "latestFaultAt" "I"] ++ wsX100)
def wsX10_told_r1 : List Cond := [Cond.fieldLink RX10 19 "EggThrones" "laid" "LEggThrones$Table;", Cond.fieldLink RX10 31 "EggThrones" "now" "LEggThrones$Morning;", Cond.fieldLink RX10 13 "EggThrones" "text" "LEggThrones$Text;", Cond.fieldLink RX10 52 "EggThrones" "clues" "LEggThrones$Clues;", Cond.fieldLink RX10 59 "EggThrones" "book" "LEggThrones$Book;", Cond.fieldLink RX10 38 "EggThrones" "past" "LEggThrones$Past;", Cond.constant RX10 95 (-1000000002), Cond.methodLink RX10 100 yX9_length, Cond.instanceMethod yX9_length, Cond.selects RX9 yX9_length yX9_length, Cond.initialized RX9, Cond.code yX9_length cX9_length 1 (some .int), Cond.fieldLink RX9 15 "EggThrones$Text" "count" "I", Cond.methodLink RX10 157 yX4_setThatIs, Cond.instanceMethod yX4_setThatIs, Cond.selects RX4 yX4_setThatIs yX4_setThatIs, Cond.initialized RX4, Cond.code yX4_setThatIs cX4_setThatIs 4 (some .int), Cond.methodLink RX4 61 yX4_stateOf, Cond.instanceMethod yX4_stateOf, Cond.selects RX4 yX4_stateOf yX4_stateOf, Cond.code yX4_stateOf cX4_stateOf 2 (some .int), Cond.fieldLink RX4 9 "EggThrones$Morning" "table" "LEggThrones$Table;", Cond.fieldLink RX4 15 "EggThrones$Morning" "states" "[I"]
def wsX10_told_r2 : List Cond := [Cond.methodLink RX4 46 yX8_hasEgg, Cond.instanceMethod yX8_hasEgg, Cond.selects RX8 yX8_hasEgg yX8_hasEgg, Cond.initialized RX8, Cond.code yX8_hasEgg cX8_hasEgg 2 (some .boolean), Cond.fieldLink RX8 37 "EggThrones$Table" "eggs" "I", Cond.methodLink RX10 161 yX4_pretenders, Cond.instanceMethod yX4_pretenders, Cond.selects RX4 yX4_pretenders yX4_pretenders, Cond.code yX4_pretenders cX4_pretenders 3 (some .int), Cond.methodLink RX4 72 yX4_hardnessOf, Cond.instanceMethod yX4_hardnessOf, Cond.selects RX4 yX4_hardnessOf yX4_hardnessOf, Cond.code yX4_hardnessOf cX4_hardnessOf 2 (some .int), Cond.methodLink RX4 50 yX4_boiledOf, Cond.instanceMethod yX4_boiledOf, Cond.selects RX4 yX4_boiledOf yX4_boiledOf, Cond.code yX4_boiledOf cX4_boiledOf 2 (some .int), Cond.fieldLink RX4 19 "EggThrones$Morning" "boiled" "[I", Cond.methodLink RX4 54 yX8_hardness, Cond.instanceMethod yX8_hardness, Cond.selects RX8 yX8_hardness yX8_hardness, Cond.code yX8_hardness cX8_hardness 4 (some .int), Cond.fieldLink RX8 15 "EggThrones$Table" "sizes" "[I"]
def wsX10_told_r3 : List Cond := [Cond.fieldLink RX8 9 "EggThrones$Table" "ages" "[I", Cond.methodLink RX8 53 Lib.Math.min.name, Cond.static Lib.Math.min.name, Cond.initialized "java/lang/Math", Cond.code Lib.Math.min.name Lib.Math.min.code 2 (some .int), Cond.methodLink RX8 66 Lib.Math.max.name, Cond.static Lib.Math.max.name, Cond.code Lib.Math.max.name Lib.Math.max.code 2 (some .int), Cond.methodLink RX8 59 yX8_hasEgg, Cond.methodLink RX10 164 yX4_heir, Cond.instanceMethod yX4_heir, Cond.selects RX4 yX4_heir yX4_heir, Cond.code yX4_heir cX4_heir 3 (some .int), Cond.methodLink RX4 75 yX4_reignOf, Cond.instanceMethod yX4_reignOf, Cond.selects RX4 yX4_reignOf yX4_reignOf, Cond.code yX4_reignOf cX4_reignOf 2 (some .int), Cond.methodLink RX4 58 yX8_reign, Cond.instanceMethod yX8_reign, Cond.selects RX8 yX8_reign yX8_reign, Cond.code yX8_reign cX8_reign 3 (some .int), Cond.methodLink RX8 69 yX8_hardness, Cond.methodLink RX8 72 yX8_sizeOf, Cond.instanceMethod yX8_sizeOf]
def wsX10_told_r4 : List Cond := [Cond.selects RX8 yX8_sizeOf yX8_sizeOf, Cond.code yX8_sizeOf cX8_sizeOf 2 (some .int)]
def wsX10_told : List Cond := .code yX10_told cX10_told 2 (some .int) :: ((wsX10_told_r1 ++ (wsX10_told_r2 ++ (wsX10_told_r3 ++ wsX10_told_r4))) ++ wsX100 ++ wsX80 ++ wsX40 ++ wsX20 ++ wsX10 ++ wsX50 ++ wsX90)
def wsX10_egg_r1 : List Cond := [Cond.fieldLink RX10 19 "EggThrones" "laid" "LEggThrones$Table;", Cond.constant RX10 175 (-1000000001), Cond.fieldLink RX10 31 "EggThrones" "now" "LEggThrones$Morning;", Cond.constant RX10 95 (-1000000002), Cond.methodLink RX10 172 yX8_hasEgg, Cond.instanceMethod yX8_hasEgg, Cond.selects RX8 yX8_hasEgg yX8_hasEgg, Cond.initialized RX8, Cond.code yX8_hasEgg cX8_hasEgg 2 (some .boolean), Cond.fieldLink RX8 37 "EggThrones$Table" "eggs" "I", Cond.methodLink RX10 176 yX8_ageOf, Cond.instanceMethod yX8_ageOf, Cond.selects RX8 yX8_ageOf yX8_ageOf, Cond.code yX8_ageOf cX8_ageOf 2 (some .int), Cond.fieldLink RX8 9 "EggThrones$Table" "ages" "[I", Cond.methodLink RX8 59 yX8_hasEgg, Cond.methodLink RX10 179 yX8_sizeOf, Cond.instanceMethod yX8_sizeOf, Cond.selects RX8 yX8_sizeOf yX8_sizeOf, Cond.code yX8_sizeOf cX8_sizeOf 2 (some .int), Cond.fieldLink RX8 15 "EggThrones$Table" "sizes" "[I", Cond.methodLink RX10 182 yX4_stateOf, Cond.instanceMethod yX4_stateOf, Cond.selects RX4 yX4_stateOf yX4_stateOf]
def wsX10_egg_r2 : List Cond := [Cond.initialized RX4, Cond.code yX4_stateOf cX4_stateOf 2 (some .int), Cond.fieldLink RX4 9 "EggThrones$Morning" "table" "LEggThrones$Table;", Cond.fieldLink RX4 15 "EggThrones$Morning" "states" "[I", Cond.methodLink RX4 46 yX8_hasEgg, Cond.methodLink RX10 185 yX4_boiledOf, Cond.instanceMethod yX4_boiledOf, Cond.selects RX4 yX4_boiledOf yX4_boiledOf, Cond.code yX4_boiledOf cX4_boiledOf 2 (some .int), Cond.fieldLink RX4 19 "EggThrones$Morning" "boiled" "[I", Cond.methodLink RX10 188 yX4_hardnessOf, Cond.instanceMethod yX4_hardnessOf, Cond.selects RX4 yX4_hardnessOf yX4_hardnessOf, Cond.code yX4_hardnessOf cX4_hardnessOf 2 (some .int), Cond.methodLink RX4 50 yX4_boiledOf, Cond.methodLink RX4 54 yX8_hardness, Cond.instanceMethod yX8_hardness, Cond.selects RX8 yX8_hardness yX8_hardness, Cond.code yX8_hardness cX8_hardness 4 (some .int), Cond.methodLink RX8 53 Lib.Math.min.name, Cond.static Lib.Math.min.name, Cond.initialized "java/lang/Math", Cond.code Lib.Math.min.name Lib.Math.min.code 2 (some .int), Cond.methodLink RX8 66 Lib.Math.max.name]
def wsX10_egg_r3 : List Cond := [Cond.static Lib.Math.max.name, Cond.code Lib.Math.max.name Lib.Math.max.code 2 (some .int), Cond.methodLink RX10 191 yX4_reignOf, Cond.instanceMethod yX4_reignOf, Cond.selects RX4 yX4_reignOf yX4_reignOf, Cond.code yX4_reignOf cX4_reignOf 2 (some .int), Cond.methodLink RX4 58 yX8_reign, Cond.instanceMethod yX8_reign, Cond.selects RX8 yX8_reign yX8_reign, Cond.code yX8_reign cX8_reign 3 (some .int), Cond.methodLink RX8 69 yX8_hardness, Cond.methodLink RX8 72 yX8_sizeOf, Cond.methodLink RX10 194 yX8_wishOf, Cond.instanceMethod yX8_wishOf, Cond.selects RX8 yX8_wishOf yX8_wishOf, Cond.code yX8_wishOf cX8_wishOf 2 (some .int), Cond.fieldLink RX8 18 "EggThrones$Table" "wishes" "[I"]
def wsX10_egg : List Cond := .code yX10_egg cX10_egg 3 (some .int) :: ((wsX10_egg_r1 ++ (wsX10_egg_r2 ++ wsX10_egg_r3)) ++ wsX100 ++ wsX80 ++ wsX40)
def wsX10_eater : List Cond := .code yX10_eater cX10_eater 3 (some .int) :: ([.fieldLink RX10 19 "EggThrones" "laid" "LEggThrones$Table;", .constant RX10 175 (-1000000001), .constant RX10 95 (-1000000002), .methodLink RX10 197 yX8_hasEater, .instanceMethod yX8_hasEater, .selects RX8 yX8_hasEater yX8_hasEater, .initialized RX8, .code yX8_hasEater cX8_hasEater 2 (some .boolean), .fieldLink RX8 40 "EggThrones$Table" "eaters" "I", .methodLink RX10 200 yX8_softestFor, .instanceMethod yX8_softestFor, .selects RX8 yX8_softestFor yX8_softestFor, .code yX8_softestFor cX8_softestFor 2 (some .int), .fieldLink RX8 21 "EggThrones$Table" "softest" "[I", .methodLink RX8 63 yX8_hasEater, .methodLink RX10 203 yX8_hardestFor, .instanceMethod yX8_hardestFor, .selects RX8 yX8_hardestFor yX8_hardestFor, .code yX8_hardestFor cX8_hardestFor 2 (some .int), .fieldLink RX8 24 "EggThrones$Table" "hardest" "[I"] ++ wsX100 ++ wsX80)
def wsX10_refusalOfMinutes : List Cond := .code yX10_refusalOfMinutes cX10_refusalOfMinutes 2 (some .int) :: ([.constant RX10 95 (-1000000002), .fieldLink RX10 19 "EggThrones" "laid" "LEggThrones$Table;", .constant RX10 219 (-1000000003), .fieldLink RX10 31 "EggThrones" "now" "LEggThrones$Morning;", .constant RX10 104 (-1000000004), .methodLink RX10 91 yX10_isWithin, .static yX10_isWithin, .initialized RX10, .code yX10_isWithin cX10_isWithin 3 (some .boolean), .methodLink RX10 239 yX8_isLaid, .instanceMethod yX8_isLaid, .selects RX8 yX8_isLaid yX8_isLaid, .initialized RX8, .code yX8_isLaid cX8_isLaid 1 (some .boolean), .fieldLink RX8 27 "EggThrones$Table" "places" "I"] ++ wsX100 ++ wsX40 ++ wsX80)
def wsX10_minute_r1 : List Cond := [Cond.fieldLink RX10 38 "EggThrones" "past" "LEggThrones$Past;", Cond.fieldLink RX10 31 "EggThrones" "now" "LEggThrones$Morning;", Cond.methodLink RX10 206 yX10_refusalOfMinutes, Cond.instanceMethod yX10_refusalOfMinutes, Cond.selects RX10 yX10_refusalOfMinutes yX10_refusalOfMinutes, Cond.initialized RX10, Cond.code yX10_refusalOfMinutes cX10_refusalOfMinutes 2 (some .int), Cond.constant RX10 95 (-1000000002), Cond.fieldLink RX10 19 "EggThrones" "laid" "LEggThrones$Table;", Cond.constant RX10 219 (-1000000003), Cond.constant RX10 104 (-1000000004), Cond.methodLink RX10 91 yX10_isWithin, Cond.static yX10_isWithin, Cond.code yX10_isWithin cX10_isWithin 3 (some .boolean), Cond.methodLink RX10 239 yX8_isLaid, Cond.instanceMethod yX8_isLaid, Cond.selects RX8 yX8_isLaid yX8_isLaid, Cond.initialized RX8, Cond.code yX8_isLaid cX8_isLaid 1 (some .boolean), Cond.fieldLink RX8 27 "EggThrones$Table" "places" "I", Cond.methodLink RX10 209 yX5_remember, Cond.instanceMethod yX5_remember, Cond.selects RX5 yX5_remember yX5_remember, Cond.initialized RX5]
def wsX10_minute_r2 : List Cond := [Cond.code yX5_remember cX5_remember 3 none, Cond.fieldLink RX5 17 "EggThrones$Past" "oldest" "I", Cond.fieldLink RX5 21 "EggThrones$Past" "count" "I", Cond.fieldLink RX5 11 "EggThrones$Past" "rows" "[I", Cond.methodLink RX5 24 yX4_saveTo, Cond.instanceMethod yX4_saveTo, Cond.selects RX4 yX4_saveTo yX4_saveTo, Cond.initialized RX4, Cond.code yX4_saveTo cX4_saveTo 4 none, Cond.fieldLink RX4 15 "EggThrones$Morning" "states" "[I", Cond.methodLink RX4 106 arraycopyName, Cond.native arraycopyName, Cond.static arraycopyName, Cond.initialized "java/lang/System", Cond.fieldLink RX4 19 "EggThrones$Morning" "boiled" "[I", Cond.fieldLink RX4 22 "EggThrones$Morning" "king" "I", Cond.fieldLink RX4 26 "EggThrones$Morning" "left" "I", Cond.fieldLink RX4 29 "EggThrones$Morning" "soldiers" "I", Cond.fieldLink RX4 32 "EggThrones$Morning" "minutes" "I", Cond.fieldLink RX4 35 "EggThrones$Morning" "reigned" "I", Cond.fieldLink RX4 38 "EggThrones$Morning" "scraped" "I", Cond.methodLink RX4 102 yX4_isRow, Cond.static yX4_isRow, Cond.code yX4_isRow cX4_isRow 2 (some .boolean)]
def wsX10_minute_r3 : List Cond := [Cond.methodLink RX10 213 yX4_passMinute, Cond.instanceMethod yX4_passMinute, Cond.selects RX4 yX4_passMinute yX4_passMinute, Cond.code yX4_passMinute cX4_passMinute 2 none, Cond.methodLink RX4 61 yX4_stateOf, Cond.instanceMethod yX4_stateOf, Cond.selects RX4 yX4_stateOf yX4_stateOf, Cond.code yX4_stateOf cX4_stateOf 2 (some .int), Cond.fieldLink RX4 9 "EggThrones$Morning" "table" "LEggThrones$Table;", Cond.methodLink RX4 46 yX8_hasEgg, Cond.instanceMethod yX8_hasEgg, Cond.selects RX8 yX8_hasEgg yX8_hasEgg, Cond.code yX8_hasEgg cX8_hasEgg 2 (some .boolean), Cond.fieldLink RX8 37 "EggThrones$Table" "eggs" "I", Cond.methodLink RX4 89 yX4_boilOneMore, Cond.instanceMethod yX4_boilOneMore, Cond.selects RX4 yX4_boilOneMore yX4_boilOneMore, Cond.code yX4_boilOneMore cX4_boilOneMore 2 none, Cond.methodLink RX4 93 yX4_passMinuteOfKing, Cond.instanceMethod yX4_passMinuteOfKing, Cond.selects RX4 yX4_passMinuteOfKing yX4_passMinuteOfKing, Cond.code yX4_passMinuteOfKing cX4_passMinuteOfKing 1 none, Cond.methodLink RX4 99 yX4_endReign, Cond.instanceMethod yX4_endReign]
def wsX10_minute_r4 : List Cond := [Cond.selects RX4 yX4_endReign yX4_endReign, Cond.code yX4_endReign cX4_endReign 2 none, Cond.methodLink RX4 85 yX4_setState, Cond.instanceMethod yX4_setState, Cond.selects RX4 yX4_setState yX4_setState, Cond.code yX4_setState cX4_setState 3 none]
def wsX10_minute : List Cond := .code yX10_minute cX10_minute 4 (some .int) :: ((wsX10_minute_r1 ++ (wsX10_minute_r2 ++ (wsX10_minute_r3 ++ wsX10_minute_r4))) ++ wsX100 ++ wsX40 ++ wsX80 ++ wsX50)
def wsX10_put_r1 : List Cond := [Cond.fieldLink RX10 19 "EggThrones" "laid" "LEggThrones$Table;", Cond.constant RX10 175 (-1000000001), Cond.fieldLink RX10 31 "EggThrones" "now" "LEggThrones$Morning;", Cond.constant RX10 219 (-1000000003), Cond.fieldLink RX10 38 "EggThrones" "past" "LEggThrones$Past;", Cond.methodLink RX10 172 yX8_hasEgg, Cond.instanceMethod yX8_hasEgg, Cond.selects RX8 yX8_hasEgg yX8_hasEgg, Cond.initialized RX8, Cond.code yX8_hasEgg cX8_hasEgg 2 (some .boolean), Cond.fieldLink RX8 37 "EggThrones$Table" "eggs" "I", Cond.methodLink RX10 216 yX4_canGoIn, Cond.instanceMethod yX4_canGoIn, Cond.selects RX4 yX4_canGoIn yX4_canGoIn, Cond.initialized RX4, Cond.code yX4_canGoIn cX4_canGoIn 3 (some .boolean), Cond.fieldLink RX4 9 "EggThrones$Morning" "table" "LEggThrones$Table;", Cond.methodLink RX4 61 yX4_stateOf, Cond.instanceMethod yX4_stateOf, Cond.selects RX4 yX4_stateOf yX4_stateOf, Cond.code yX4_stateOf cX4_stateOf 2 (some .int), Cond.fieldLink RX4 15 "EggThrones$Morning" "states" "[I", Cond.methodLink RX4 46 yX8_hasEgg, Cond.methodLink RX4 78 yX4_howManyInPan]
def wsX10_put_r2 : List Cond := [Cond.instanceMethod yX4_howManyInPan, Cond.selects RX4 yX4_howManyInPan yX4_howManyInPan, Cond.code yX4_howManyInPan cX4_howManyInPan 1 (some .int), Cond.methodLink RX4 64 yX4_setThatIs, Cond.instanceMethod yX4_setThatIs, Cond.selects RX4 yX4_setThatIs yX4_setThatIs, Cond.code yX4_setThatIs cX4_setThatIs 4 (some .int), Cond.methodLink RX4 67 yJ6_bitCount_0f7a4, Cond.static yJ6_bitCount_0f7a4, Cond.initialized RJ6, Cond.code yJ6_bitCount_0f7a4 cJ6_bitCount_0f7a4 1 (some .int), Cond.constant RJ6 265 (1431655765), Cond.constant RJ6 266 (858993459), Cond.constant RJ6 267 (252645135), Cond.methodLink RX10 209 yX5_remember, Cond.instanceMethod yX5_remember, Cond.selects RX5 yX5_remember yX5_remember, Cond.initialized RX5, Cond.code yX5_remember cX5_remember 3 none, Cond.fieldLink RX5 17 "EggThrones$Past" "oldest" "I", Cond.fieldLink RX5 21 "EggThrones$Past" "count" "I", Cond.fieldLink RX5 11 "EggThrones$Past" "rows" "[I", Cond.methodLink RX5 24 yX4_saveTo, Cond.instanceMethod yX4_saveTo]
def wsX10_put_r3 : List Cond := [Cond.selects RX4 yX4_saveTo yX4_saveTo, Cond.code yX4_saveTo cX4_saveTo 4 none, Cond.methodLink RX4 106 arraycopyName, Cond.native arraycopyName, Cond.static arraycopyName, Cond.initialized "java/lang/System", Cond.fieldLink RX4 19 "EggThrones$Morning" "boiled" "[I", Cond.fieldLink RX4 22 "EggThrones$Morning" "king" "I", Cond.fieldLink RX4 26 "EggThrones$Morning" "left" "I", Cond.fieldLink RX4 29 "EggThrones$Morning" "soldiers" "I", Cond.fieldLink RX4 32 "EggThrones$Morning" "minutes" "I", Cond.fieldLink RX4 35 "EggThrones$Morning" "reigned" "I", Cond.fieldLink RX4 38 "EggThrones$Morning" "scraped" "I", Cond.methodLink RX4 102 yX4_isRow, Cond.static yX4_isRow, Cond.code yX4_isRow cX4_isRow 2 (some .boolean), Cond.methodLink RX10 220 yX4_goIn, Cond.instanceMethod yX4_goIn, Cond.selects RX4 yX4_goIn yX4_goIn, Cond.code yX4_goIn cX4_goIn 2 none, Cond.methodLink RX4 85 yX4_setState, Cond.instanceMethod yX4_setState, Cond.selects RX4 yX4_setState yX4_setState, Cond.code yX4_setState cX4_setState 3 none]
def wsX10_put_r4 : List Cond := [Cond.methodLink RX10 224 yX4_howManyInPan]
def wsX10_put : List Cond := .code yX10_put cX10_put 2 (some .int) :: ((wsX10_put_r1 ++ (wsX10_put_r2 ++ (wsX10_put_r3 ++ wsX10_put_r4))) ++ wsX100 ++ wsX80 ++ wsX40 ++ wsX50)
def wsX10_takeOut_r1 : List Cond := [Cond.fieldLink RX10 19 "EggThrones" "laid" "LEggThrones$Table;", Cond.constant RX10 175 (-1000000001), Cond.fieldLink RX10 31 "EggThrones" "now" "LEggThrones$Morning;", Cond.constant RX10 219 (-1000000003), Cond.fieldLink RX10 38 "EggThrones" "past" "LEggThrones$Past;", Cond.methodLink RX10 172 yX8_hasEgg, Cond.instanceMethod yX8_hasEgg, Cond.selects RX8 yX8_hasEgg yX8_hasEgg, Cond.initialized RX8, Cond.code yX8_hasEgg cX8_hasEgg 2 (some .boolean), Cond.fieldLink RX8 37 "EggThrones$Table" "eggs" "I", Cond.methodLink RX10 227 yX4_canComeOut, Cond.instanceMethod yX4_canComeOut, Cond.selects RX4 yX4_canComeOut yX4_canComeOut, Cond.initialized RX4, Cond.code yX4_canComeOut cX4_canComeOut 2 (some .boolean), Cond.methodLink RX4 61 yX4_stateOf, Cond.instanceMethod yX4_stateOf, Cond.selects RX4 yX4_stateOf yX4_stateOf, Cond.code yX4_stateOf cX4_stateOf 2 (some .int), Cond.fieldLink RX4 9 "EggThrones$Morning" "table" "LEggThrones$Table;", Cond.fieldLink RX4 15 "EggThrones$Morning" "states" "[I", Cond.methodLink RX4 46 yX8_hasEgg, Cond.methodLink RX10 209 yX5_remember]
def wsX10_takeOut_r2 : List Cond := [Cond.instanceMethod yX5_remember, Cond.selects RX5 yX5_remember yX5_remember, Cond.initialized RX5, Cond.code yX5_remember cX5_remember 3 none, Cond.fieldLink RX5 17 "EggThrones$Past" "oldest" "I", Cond.fieldLink RX5 21 "EggThrones$Past" "count" "I", Cond.fieldLink RX5 11 "EggThrones$Past" "rows" "[I", Cond.methodLink RX5 24 yX4_saveTo, Cond.instanceMethod yX4_saveTo, Cond.selects RX4 yX4_saveTo yX4_saveTo, Cond.code yX4_saveTo cX4_saveTo 4 none, Cond.methodLink RX4 106 arraycopyName, Cond.native arraycopyName, Cond.static arraycopyName, Cond.initialized "java/lang/System", Cond.fieldLink RX4 19 "EggThrones$Morning" "boiled" "[I", Cond.fieldLink RX4 22 "EggThrones$Morning" "king" "I", Cond.fieldLink RX4 26 "EggThrones$Morning" "left" "I", Cond.fieldLink RX4 29 "EggThrones$Morning" "soldiers" "I", Cond.fieldLink RX4 32 "EggThrones$Morning" "minutes" "I", Cond.fieldLink RX4 35 "EggThrones$Morning" "reigned" "I", Cond.fieldLink RX4 38 "EggThrones$Morning" "scraped" "I", Cond.methodLink RX4 102 yX4_isRow, Cond.static yX4_isRow]
def wsX10_takeOut_r3 : List Cond := [Cond.code yX4_isRow cX4_isRow 2 (some .boolean), Cond.methodLink RX10 230 yX4_comeOut, Cond.instanceMethod yX4_comeOut, Cond.selects RX4 yX4_comeOut yX4_comeOut, Cond.code yX4_comeOut cX4_comeOut 2 none, Cond.methodLink RX4 85 yX4_setState, Cond.instanceMethod yX4_setState, Cond.selects RX4 yX4_setState yX4_setState, Cond.code yX4_setState cX4_setState 3 none, Cond.methodLink RX10 188 yX4_hardnessOf, Cond.instanceMethod yX4_hardnessOf, Cond.selects RX4 yX4_hardnessOf yX4_hardnessOf, Cond.code yX4_hardnessOf cX4_hardnessOf 2 (some .int), Cond.methodLink RX4 50 yX4_boiledOf, Cond.instanceMethod yX4_boiledOf, Cond.selects RX4 yX4_boiledOf yX4_boiledOf, Cond.code yX4_boiledOf cX4_boiledOf 2 (some .int), Cond.methodLink RX4 54 yX8_hardness, Cond.instanceMethod yX8_hardness, Cond.selects RX8 yX8_hardness yX8_hardness, Cond.code yX8_hardness cX8_hardness 4 (some .int), Cond.fieldLink RX8 15 "EggThrones$Table" "sizes" "[I", Cond.fieldLink RX8 9 "EggThrones$Table" "ages" "[I", Cond.methodLink RX8 53 Lib.Math.min.name]
def wsX10_takeOut_r4 : List Cond := [Cond.static Lib.Math.min.name, Cond.initialized "java/lang/Math", Cond.code Lib.Math.min.name Lib.Math.min.code 2 (some .int), Cond.methodLink RX8 66 Lib.Math.max.name, Cond.static Lib.Math.max.name, Cond.code Lib.Math.max.name Lib.Math.max.code 2 (some .int), Cond.methodLink RX8 59 yX8_hasEgg]
def wsX10_takeOut : List Cond := .code yX10_takeOut cX10_takeOut 2 (some .int) :: ((wsX10_takeOut_r1 ++ (wsX10_takeOut_r2 ++ (wsX10_takeOut_r3 ++ wsX10_takeOut_r4))) ++ wsX100 ++ wsX80 ++ wsX40 ++ wsX50)
def wsX10_crown_r1 : List Cond := [Cond.fieldLink RX10 19 "EggThrones" "laid" "LEggThrones$Table;", Cond.constant RX10 175 (-1000000001), Cond.fieldLink RX10 31 "EggThrones" "now" "LEggThrones$Morning;", Cond.constant RX10 219 (-1000000003), Cond.fieldLink RX10 38 "EggThrones" "past" "LEggThrones$Past;", Cond.methodLink RX10 172 yX8_hasEgg, Cond.instanceMethod yX8_hasEgg, Cond.selects RX8 yX8_hasEgg yX8_hasEgg, Cond.initialized RX8, Cond.code yX8_hasEgg cX8_hasEgg 2 (some .boolean), Cond.fieldLink RX8 37 "EggThrones$Table" "eggs" "I", Cond.methodLink RX10 233 yX4_canBeKing, Cond.instanceMethod yX4_canBeKing, Cond.selects RX4 yX4_canBeKing yX4_canBeKing, Cond.initialized RX4, Cond.code yX4_canBeKing cX4_canBeKing 2 (some .boolean), Cond.fieldLink RX4 22 "EggThrones$Morning" "king" "I", Cond.methodLink RX4 61 yX4_stateOf, Cond.instanceMethod yX4_stateOf, Cond.selects RX4 yX4_stateOf yX4_stateOf, Cond.code yX4_stateOf cX4_stateOf 2 (some .int), Cond.fieldLink RX4 9 "EggThrones$Morning" "table" "LEggThrones$Table;", Cond.fieldLink RX4 15 "EggThrones$Morning" "states" "[I", Cond.methodLink RX4 46 yX8_hasEgg]
def wsX10_crown_r2 : List Cond := [Cond.methodLink RX10 209 yX5_remember, Cond.instanceMethod yX5_remember, Cond.selects RX5 yX5_remember yX5_remember, Cond.initialized RX5, Cond.code yX5_remember cX5_remember 3 none, Cond.fieldLink RX5 17 "EggThrones$Past" "oldest" "I", Cond.fieldLink RX5 21 "EggThrones$Past" "count" "I", Cond.fieldLink RX5 11 "EggThrones$Past" "rows" "[I", Cond.methodLink RX5 24 yX4_saveTo, Cond.instanceMethod yX4_saveTo, Cond.selects RX4 yX4_saveTo yX4_saveTo, Cond.code yX4_saveTo cX4_saveTo 4 none, Cond.methodLink RX4 106 arraycopyName, Cond.native arraycopyName, Cond.static arraycopyName, Cond.initialized "java/lang/System", Cond.fieldLink RX4 19 "EggThrones$Morning" "boiled" "[I", Cond.fieldLink RX4 26 "EggThrones$Morning" "left" "I", Cond.fieldLink RX4 29 "EggThrones$Morning" "soldiers" "I", Cond.fieldLink RX4 32 "EggThrones$Morning" "minutes" "I", Cond.fieldLink RX4 35 "EggThrones$Morning" "reigned" "I", Cond.fieldLink RX4 38 "EggThrones$Morning" "scraped" "I", Cond.methodLink RX4 102 yX4_isRow, Cond.static yX4_isRow]
def wsX10_crown_r3 : List Cond := [Cond.code yX4_isRow cX4_isRow 2 (some .boolean), Cond.methodLink RX10 236 yX4_becomeKing, Cond.instanceMethod yX4_becomeKing, Cond.selects RX4 yX4_becomeKing yX4_becomeKing, Cond.code yX4_becomeKing cX4_becomeKing 2 none, Cond.methodLink RX4 85 yX4_setState, Cond.instanceMethod yX4_setState, Cond.selects RX4 yX4_setState yX4_setState, Cond.code yX4_setState cX4_setState 3 none, Cond.methodLink RX4 75 yX4_reignOf, Cond.instanceMethod yX4_reignOf, Cond.selects RX4 yX4_reignOf yX4_reignOf, Cond.code yX4_reignOf cX4_reignOf 2 (some .int), Cond.methodLink RX4 50 yX4_boiledOf, Cond.instanceMethod yX4_boiledOf, Cond.selects RX4 yX4_boiledOf yX4_boiledOf, Cond.code yX4_boiledOf cX4_boiledOf 2 (some .int), Cond.methodLink RX4 58 yX8_reign, Cond.instanceMethod yX8_reign, Cond.selects RX8 yX8_reign yX8_reign, Cond.code yX8_reign cX8_reign 3 (some .int), Cond.methodLink RX8 69 yX8_hardness, Cond.instanceMethod yX8_hardness, Cond.selects RX8 yX8_hardness yX8_hardness]
def wsX10_crown_r4 : List Cond := [Cond.code yX8_hardness cX8_hardness 4 (some .int), Cond.fieldLink RX8 15 "EggThrones$Table" "sizes" "[I", Cond.fieldLink RX8 9 "EggThrones$Table" "ages" "[I", Cond.methodLink RX8 53 Lib.Math.min.name, Cond.static Lib.Math.min.name, Cond.initialized "java/lang/Math", Cond.code Lib.Math.min.name Lib.Math.min.code 2 (some .int), Cond.methodLink RX8 66 Lib.Math.max.name, Cond.static Lib.Math.max.name, Cond.code Lib.Math.max.name Lib.Math.max.code 2 (some .int), Cond.methodLink RX8 59 yX8_hasEgg, Cond.methodLink RX8 72 yX8_sizeOf, Cond.instanceMethod yX8_sizeOf, Cond.selects RX8 yX8_sizeOf yX8_sizeOf, Cond.code yX8_sizeOf cX8_sizeOf 2 (some .int)]
def wsX10_crown : List Cond := .code yX10_crown cX10_crown 2 (some .int) :: ((wsX10_crown_r1 ++ (wsX10_crown_r2 ++ (wsX10_crown_r3 ++ wsX10_crown_r4))) ++ wsX100 ++ wsX40 ++ wsX80 ++ wsX50)
def wsX10_cutToast_r1 : List Cond := [Cond.constant RX10 95 (-1000000002), Cond.fieldLink RX10 19 "EggThrones" "laid" "LEggThrones$Table;", Cond.constant RX10 219 (-1000000003), Cond.fieldLink RX10 38 "EggThrones" "past" "LEggThrones$Past;", Cond.fieldLink RX10 31 "EggThrones" "now" "LEggThrones$Morning;", Cond.methodLink RX10 243 Lib.Math.min.name, Cond.static Lib.Math.min.name, Cond.initialized "java/lang/Math", Cond.code Lib.Math.min.name Lib.Math.min.code 2 (some .int), Cond.methodLink RX10 91 yX10_isWithin, Cond.static yX10_isWithin, Cond.initialized RX10, Cond.code yX10_isWithin cX10_isWithin 3 (some .boolean), Cond.methodLink RX10 239 yX8_isLaid, Cond.instanceMethod yX8_isLaid, Cond.selects RX8 yX8_isLaid yX8_isLaid, Cond.initialized RX8, Cond.code yX8_isLaid cX8_isLaid 1 (some .boolean), Cond.fieldLink RX8 27 "EggThrones$Table" "places" "I", Cond.methodLink RX10 209 yX5_remember, Cond.instanceMethod yX5_remember, Cond.selects RX5 yX5_remember yX5_remember, Cond.initialized RX5, Cond.code yX5_remember cX5_remember 3 none]
def wsX10_cutToast_r2 : List Cond := [Cond.fieldLink RX5 17 "EggThrones$Past" "oldest" "I", Cond.fieldLink RX5 21 "EggThrones$Past" "count" "I", Cond.fieldLink RX5 11 "EggThrones$Past" "rows" "[I", Cond.methodLink RX5 24 yX4_saveTo, Cond.instanceMethod yX4_saveTo, Cond.selects RX4 yX4_saveTo yX4_saveTo, Cond.initialized RX4, Cond.code yX4_saveTo cX4_saveTo 4 none, Cond.fieldLink RX4 15 "EggThrones$Morning" "states" "[I", Cond.methodLink RX4 106 arraycopyName, Cond.native arraycopyName, Cond.static arraycopyName, Cond.initialized "java/lang/System", Cond.fieldLink RX4 19 "EggThrones$Morning" "boiled" "[I", Cond.fieldLink RX4 22 "EggThrones$Morning" "king" "I", Cond.fieldLink RX4 26 "EggThrones$Morning" "left" "I", Cond.fieldLink RX4 29 "EggThrones$Morning" "soldiers" "I", Cond.fieldLink RX4 32 "EggThrones$Morning" "minutes" "I", Cond.fieldLink RX4 35 "EggThrones$Morning" "reigned" "I", Cond.fieldLink RX4 38 "EggThrones$Morning" "scraped" "I", Cond.methodLink RX4 102 yX4_isRow, Cond.static yX4_isRow, Cond.code yX4_isRow cX4_isRow 2 (some .boolean)]
def wsX10_cutToast : List Cond := .code yX10_cutToast cX10_cutToast 2 (some .int) :: ((wsX10_cutToast_r1 ++ wsX10_cutToast_r2) ++ wsX100 ++ wsX40 ++ wsX80 ++ wsX50)
def wsX10_draw : List Cond := .code yX10_draw cX10_draw 2 (some .int) :: ([.fieldLink RX10 88 "EggThrones" "drawSeed" "I", .constantLong RX10 330 (1103515245), .constantLong RX10 332 (12345), .constantLong RX10 334 (2147483647), .constant RX10 336 (65536)] ++ wsX100)
def wsX10_actByDraws_r1 : List Cond := [Cond.fieldLink RX10 19 "EggThrones" "laid" "LEggThrones$Table;", Cond.fieldLink RX10 31 "EggThrones" "now" "LEggThrones$Morning;", Cond.methodLink RX10 327 yX10_draw, Cond.instanceMethod yX10_draw, Cond.selects RX10 yX10_draw yX10_draw, Cond.initialized RX10, Cond.code yX10_draw cX10_draw 2 (some .int), Cond.fieldLink RX10 88 "EggThrones" "drawSeed" "I", Cond.constantLong RX10 330 (1103515245), Cond.constantLong RX10 332 (12345), Cond.constantLong RX10 334 (2147483647), Cond.constant RX10 336 (65536), Cond.methodLink RX10 216 yX4_canGoIn, Cond.instanceMethod yX4_canGoIn, Cond.selects RX4 yX4_canGoIn yX4_canGoIn, Cond.initialized RX4, Cond.code yX4_canGoIn cX4_canGoIn 3 (some .boolean), Cond.fieldLink RX4 9 "EggThrones$Morning" "table" "LEggThrones$Table;", Cond.methodLink RX4 61 yX4_stateOf, Cond.instanceMethod yX4_stateOf, Cond.selects RX4 yX4_stateOf yX4_stateOf, Cond.code yX4_stateOf cX4_stateOf 2 (some .int), Cond.fieldLink RX4 15 "EggThrones$Morning" "states" "[I", Cond.methodLink RX4 46 yX8_hasEgg]
def wsX10_actByDraws_r2 : List Cond := [Cond.instanceMethod yX8_hasEgg, Cond.selects RX8 yX8_hasEgg yX8_hasEgg, Cond.initialized RX8, Cond.code yX8_hasEgg cX8_hasEgg 2 (some .boolean), Cond.fieldLink RX8 37 "EggThrones$Table" "eggs" "I", Cond.methodLink RX4 78 yX4_howManyInPan, Cond.instanceMethod yX4_howManyInPan, Cond.selects RX4 yX4_howManyInPan yX4_howManyInPan, Cond.code yX4_howManyInPan cX4_howManyInPan 1 (some .int), Cond.methodLink RX4 64 yX4_setThatIs, Cond.instanceMethod yX4_setThatIs, Cond.selects RX4 yX4_setThatIs yX4_setThatIs, Cond.code yX4_setThatIs cX4_setThatIs 4 (some .int), Cond.methodLink RX4 67 yJ6_bitCount_0f7a4, Cond.static yJ6_bitCount_0f7a4, Cond.initialized RJ6, Cond.code yJ6_bitCount_0f7a4 cJ6_bitCount_0f7a4 1 (some .int), Cond.constant RJ6 265 (1431655765), Cond.constant RJ6 266 (858993459), Cond.constant RJ6 267 (252645135), Cond.methodLink RX10 220 yX4_goIn, Cond.instanceMethod yX4_goIn, Cond.selects RX4 yX4_goIn yX4_goIn, Cond.code yX4_goIn cX4_goIn 2 none]
def wsX10_actByDraws_r3 : List Cond := [Cond.methodLink RX4 85 yX4_setState, Cond.instanceMethod yX4_setState, Cond.selects RX4 yX4_setState yX4_setState, Cond.code yX4_setState cX4_setState 3 none, Cond.methodLink RX10 227 yX4_canComeOut, Cond.instanceMethod yX4_canComeOut, Cond.selects RX4 yX4_canComeOut yX4_canComeOut, Cond.code yX4_canComeOut cX4_canComeOut 2 (some .boolean), Cond.methodLink RX10 230 yX4_comeOut, Cond.instanceMethod yX4_comeOut, Cond.selects RX4 yX4_comeOut yX4_comeOut, Cond.code yX4_comeOut cX4_comeOut 2 none, Cond.methodLink RX10 233 yX4_canBeKing, Cond.instanceMethod yX4_canBeKing, Cond.selects RX4 yX4_canBeKing yX4_canBeKing, Cond.code yX4_canBeKing cX4_canBeKing 2 (some .boolean), Cond.fieldLink RX4 22 "EggThrones$Morning" "king" "I", Cond.methodLink RX10 236 yX4_becomeKing, Cond.instanceMethod yX4_becomeKing, Cond.selects RX4 yX4_becomeKing yX4_becomeKing, Cond.code yX4_becomeKing cX4_becomeKing 2 none, Cond.fieldLink RX4 26 "EggThrones$Morning" "left" "I", Cond.methodLink RX4 75 yX4_reignOf, Cond.instanceMethod yX4_reignOf]
def wsX10_actByDraws_r4 : List Cond := [Cond.selects RX4 yX4_reignOf yX4_reignOf, Cond.code yX4_reignOf cX4_reignOf 2 (some .int), Cond.methodLink RX4 50 yX4_boiledOf, Cond.instanceMethod yX4_boiledOf, Cond.selects RX4 yX4_boiledOf yX4_boiledOf, Cond.code yX4_boiledOf cX4_boiledOf 2 (some .int), Cond.fieldLink RX4 19 "EggThrones$Morning" "boiled" "[I", Cond.methodLink RX4 58 yX8_reign, Cond.instanceMethod yX8_reign, Cond.selects RX8 yX8_reign yX8_reign, Cond.code yX8_reign cX8_reign 3 (some .int), Cond.methodLink RX8 69 yX8_hardness, Cond.instanceMethod yX8_hardness, Cond.selects RX8 yX8_hardness yX8_hardness, Cond.code yX8_hardness cX8_hardness 4 (some .int), Cond.fieldLink RX8 15 "EggThrones$Table" "sizes" "[I", Cond.fieldLink RX8 9 "EggThrones$Table" "ages" "[I", Cond.methodLink RX8 53 Lib.Math.min.name, Cond.static Lib.Math.min.name, Cond.initialized "java/lang/Math", Cond.code Lib.Math.min.name Lib.Math.min.code 2 (some .int), Cond.methodLink RX8 66 Lib.Math.max.name, Cond.static Lib.Math.max.name, Cond.code Lib.Math.max.name Lib.Math.max.code 2 (some .int)]
def wsX10_actByDraws_r5 : List Cond := [Cond.methodLink RX8 59 yX8_hasEgg, Cond.methodLink RX8 72 yX8_sizeOf, Cond.instanceMethod yX8_sizeOf, Cond.selects RX8 yX8_sizeOf yX8_sizeOf, Cond.code yX8_sizeOf cX8_sizeOf 2 (some .int)]
def wsX10_actByDraws : List Cond := .code yX10_actByDraws cX10_actByDraws 3 none :: ((wsX10_actByDraws_r1 ++ (wsX10_actByDraws_r2 ++ (wsX10_actByDraws_r3 ++ (wsX10_actByDraws_r4 ++ wsX10_actByDraws_r5)))) ++ wsX100 ++ wsX80 ++ wsX40)
def wsX10_drift_r1 : List Cond := [Cond.fieldLink RX10 38 "EggThrones" "past" "LEggThrones$Past;", Cond.fieldLink RX10 31 "EggThrones" "now" "LEggThrones$Morning;", Cond.methodLink RX10 206 yX10_refusalOfMinutes, Cond.instanceMethod yX10_refusalOfMinutes, Cond.selects RX10 yX10_refusalOfMinutes yX10_refusalOfMinutes, Cond.initialized RX10, Cond.code yX10_refusalOfMinutes cX10_refusalOfMinutes 2 (some .int), Cond.constant RX10 95 (-1000000002), Cond.fieldLink RX10 19 "EggThrones" "laid" "LEggThrones$Table;", Cond.constant RX10 219 (-1000000003), Cond.constant RX10 104 (-1000000004), Cond.methodLink RX10 91 yX10_isWithin, Cond.static yX10_isWithin, Cond.code yX10_isWithin cX10_isWithin 3 (some .boolean), Cond.methodLink RX10 239 yX8_isLaid, Cond.instanceMethod yX8_isLaid, Cond.selects RX8 yX8_isLaid yX8_isLaid, Cond.initialized RX8, Cond.code yX8_isLaid cX8_isLaid 1 (some .boolean), Cond.fieldLink RX8 27 "EggThrones$Table" "places" "I", Cond.methodLink RX10 209 yX5_remember, Cond.instanceMethod yX5_remember, Cond.selects RX5 yX5_remember yX5_remember, Cond.initialized RX5]
def wsX10_drift_r2 : List Cond := [Cond.code yX5_remember cX5_remember 3 none, Cond.fieldLink RX5 17 "EggThrones$Past" "oldest" "I", Cond.fieldLink RX5 21 "EggThrones$Past" "count" "I", Cond.fieldLink RX5 11 "EggThrones$Past" "rows" "[I", Cond.methodLink RX5 24 yX4_saveTo, Cond.instanceMethod yX4_saveTo, Cond.selects RX4 yX4_saveTo yX4_saveTo, Cond.initialized RX4, Cond.code yX4_saveTo cX4_saveTo 4 none, Cond.fieldLink RX4 15 "EggThrones$Morning" "states" "[I", Cond.methodLink RX4 106 arraycopyName, Cond.native arraycopyName, Cond.static arraycopyName, Cond.initialized "java/lang/System", Cond.fieldLink RX4 19 "EggThrones$Morning" "boiled" "[I", Cond.fieldLink RX4 22 "EggThrones$Morning" "king" "I", Cond.fieldLink RX4 26 "EggThrones$Morning" "left" "I", Cond.fieldLink RX4 29 "EggThrones$Morning" "soldiers" "I", Cond.fieldLink RX4 32 "EggThrones$Morning" "minutes" "I", Cond.fieldLink RX4 35 "EggThrones$Morning" "reigned" "I", Cond.fieldLink RX4 38 "EggThrones$Morning" "scraped" "I", Cond.methodLink RX4 102 yX4_isRow, Cond.static yX4_isRow, Cond.code yX4_isRow cX4_isRow 2 (some .boolean)]
def wsX10_drift_r3 : List Cond := [Cond.methodLink RX10 249 yX10_actByDraws, Cond.instanceMethod yX10_actByDraws, Cond.selects RX10 yX10_actByDraws yX10_actByDraws, Cond.code yX10_actByDraws cX10_actByDraws 3 none, Cond.methodLink RX10 327 yX10_draw, Cond.instanceMethod yX10_draw, Cond.selects RX10 yX10_draw yX10_draw, Cond.code yX10_draw cX10_draw 2 (some .int), Cond.fieldLink RX10 88 "EggThrones" "drawSeed" "I", Cond.constantLong RX10 330 (1103515245), Cond.constantLong RX10 332 (12345), Cond.constantLong RX10 334 (2147483647), Cond.constant RX10 336 (65536), Cond.methodLink RX10 216 yX4_canGoIn, Cond.instanceMethod yX4_canGoIn, Cond.selects RX4 yX4_canGoIn yX4_canGoIn, Cond.code yX4_canGoIn cX4_canGoIn 3 (some .boolean), Cond.fieldLink RX4 9 "EggThrones$Morning" "table" "LEggThrones$Table;", Cond.methodLink RX4 61 yX4_stateOf, Cond.instanceMethod yX4_stateOf, Cond.selects RX4 yX4_stateOf yX4_stateOf, Cond.code yX4_stateOf cX4_stateOf 2 (some .int), Cond.methodLink RX4 46 yX8_hasEgg, Cond.instanceMethod yX8_hasEgg]
def wsX10_drift_r4 : List Cond := [Cond.selects RX8 yX8_hasEgg yX8_hasEgg, Cond.code yX8_hasEgg cX8_hasEgg 2 (some .boolean), Cond.fieldLink RX8 37 "EggThrones$Table" "eggs" "I", Cond.methodLink RX4 78 yX4_howManyInPan, Cond.instanceMethod yX4_howManyInPan, Cond.selects RX4 yX4_howManyInPan yX4_howManyInPan, Cond.code yX4_howManyInPan cX4_howManyInPan 1 (some .int), Cond.methodLink RX4 64 yX4_setThatIs, Cond.instanceMethod yX4_setThatIs, Cond.selects RX4 yX4_setThatIs yX4_setThatIs, Cond.code yX4_setThatIs cX4_setThatIs 4 (some .int), Cond.methodLink RX4 67 yJ6_bitCount_0f7a4, Cond.static yJ6_bitCount_0f7a4, Cond.initialized RJ6, Cond.code yJ6_bitCount_0f7a4 cJ6_bitCount_0f7a4 1 (some .int), Cond.constant RJ6 265 (1431655765), Cond.constant RJ6 266 (858993459), Cond.constant RJ6 267 (252645135), Cond.methodLink RX10 220 yX4_goIn, Cond.instanceMethod yX4_goIn, Cond.selects RX4 yX4_goIn yX4_goIn, Cond.code yX4_goIn cX4_goIn 2 none, Cond.methodLink RX4 85 yX4_setState, Cond.instanceMethod yX4_setState]
def wsX10_drift_r5 : List Cond := [Cond.selects RX4 yX4_setState yX4_setState, Cond.code yX4_setState cX4_setState 3 none, Cond.methodLink RX10 227 yX4_canComeOut, Cond.instanceMethod yX4_canComeOut, Cond.selects RX4 yX4_canComeOut yX4_canComeOut, Cond.code yX4_canComeOut cX4_canComeOut 2 (some .boolean), Cond.methodLink RX10 230 yX4_comeOut, Cond.instanceMethod yX4_comeOut, Cond.selects RX4 yX4_comeOut yX4_comeOut, Cond.code yX4_comeOut cX4_comeOut 2 none, Cond.methodLink RX10 233 yX4_canBeKing, Cond.instanceMethod yX4_canBeKing, Cond.selects RX4 yX4_canBeKing yX4_canBeKing, Cond.code yX4_canBeKing cX4_canBeKing 2 (some .boolean), Cond.methodLink RX10 236 yX4_becomeKing, Cond.instanceMethod yX4_becomeKing, Cond.selects RX4 yX4_becomeKing yX4_becomeKing, Cond.code yX4_becomeKing cX4_becomeKing 2 none, Cond.methodLink RX4 75 yX4_reignOf, Cond.instanceMethod yX4_reignOf, Cond.selects RX4 yX4_reignOf yX4_reignOf, Cond.code yX4_reignOf cX4_reignOf 2 (some .int), Cond.methodLink RX4 50 yX4_boiledOf, Cond.instanceMethod yX4_boiledOf]
def wsX10_drift_r6 : List Cond := [Cond.selects RX4 yX4_boiledOf yX4_boiledOf, Cond.code yX4_boiledOf cX4_boiledOf 2 (some .int), Cond.methodLink RX4 58 yX8_reign, Cond.instanceMethod yX8_reign, Cond.selects RX8 yX8_reign yX8_reign, Cond.code yX8_reign cX8_reign 3 (some .int), Cond.methodLink RX8 69 yX8_hardness, Cond.instanceMethod yX8_hardness, Cond.selects RX8 yX8_hardness yX8_hardness, Cond.code yX8_hardness cX8_hardness 4 (some .int), Cond.fieldLink RX8 15 "EggThrones$Table" "sizes" "[I", Cond.fieldLink RX8 9 "EggThrones$Table" "ages" "[I", Cond.methodLink RX8 53 Lib.Math.min.name, Cond.static Lib.Math.min.name, Cond.initialized "java/lang/Math", Cond.code Lib.Math.min.name Lib.Math.min.code 2 (some .int), Cond.methodLink RX8 66 Lib.Math.max.name, Cond.static Lib.Math.max.name, Cond.code Lib.Math.max.name Lib.Math.max.code 2 (some .int), Cond.methodLink RX8 59 yX8_hasEgg, Cond.methodLink RX8 72 yX8_sizeOf, Cond.instanceMethod yX8_sizeOf, Cond.selects RX8 yX8_sizeOf yX8_sizeOf, Cond.code yX8_sizeOf cX8_sizeOf 2 (some .int)]
def wsX10_drift_r7 : List Cond := [Cond.methodLink RX10 213 yX4_passMinute, Cond.instanceMethod yX4_passMinute, Cond.selects RX4 yX4_passMinute yX4_passMinute, Cond.code yX4_passMinute cX4_passMinute 2 none, Cond.methodLink RX4 89 yX4_boilOneMore, Cond.instanceMethod yX4_boilOneMore, Cond.selects RX4 yX4_boilOneMore yX4_boilOneMore, Cond.code yX4_boilOneMore cX4_boilOneMore 2 none, Cond.methodLink RX4 93 yX4_passMinuteOfKing, Cond.instanceMethod yX4_passMinuteOfKing, Cond.selects RX4 yX4_passMinuteOfKing yX4_passMinuteOfKing, Cond.code yX4_passMinuteOfKing cX4_passMinuteOfKing 1 none, Cond.methodLink RX4 99 yX4_endReign, Cond.instanceMethod yX4_endReign, Cond.selects RX4 yX4_endReign yX4_endReign, Cond.code yX4_endReign cX4_endReign 2 none]
def wsX10_drift : List Cond := .code yX10_drift cX10_drift 4 (some .int) :: ((wsX10_drift_r1 ++ (wsX10_drift_r2 ++ (wsX10_drift_r3 ++ (wsX10_drift_r4 ++ (wsX10_drift_r5 ++ (wsX10_drift_r6 ++ wsX10_drift_r7)))))) ++ wsX100 ++ wsX40 ++ wsX80 ++ wsX50)
def wsX10_undo_r1 : List Cond := [Cond.fieldLink RX10 38 "EggThrones" "past" "LEggThrones$Past;", Cond.fieldLink RX10 31 "EggThrones" "now" "LEggThrones$Morning;", Cond.constant RX10 219 (-1000000003), Cond.methodLink RX10 252 yX5_bringBack, Cond.instanceMethod yX5_bringBack, Cond.selects RX5 yX5_bringBack yX5_bringBack, Cond.initialized RX5, Cond.code yX5_bringBack cX5_bringBack 3 (some .boolean), Cond.fieldLink RX5 21 "EggThrones$Past" "count" "I", Cond.fieldLink RX5 17 "EggThrones$Past" "oldest" "I", Cond.fieldLink RX5 11 "EggThrones$Past" "rows" "[I", Cond.methodLink RX5 28 yX4_loadFrom, Cond.instanceMethod yX4_loadFrom, Cond.selects RX4 yX4_loadFrom yX4_loadFrom, Cond.initialized RX4, Cond.code yX4_loadFrom cX4_loadFrom 4 none, Cond.fieldLink RX4 15 "EggThrones$Morning" "states" "[I", Cond.methodLink RX4 106 arraycopyName, Cond.native arraycopyName, Cond.static arraycopyName, Cond.initialized "java/lang/System", Cond.fieldLink RX4 19 "EggThrones$Morning" "boiled" "[I", Cond.fieldLink RX4 22 "EggThrones$Morning" "king" "I", Cond.fieldLink RX4 26 "EggThrones$Morning" "left" "I"]
def wsX10_undo_r2 : List Cond := [Cond.fieldLink RX4 29 "EggThrones$Morning" "soldiers" "I", Cond.fieldLink RX4 32 "EggThrones$Morning" "minutes" "I", Cond.fieldLink RX4 35 "EggThrones$Morning" "reigned" "I", Cond.fieldLink RX4 38 "EggThrones$Morning" "scraped" "I", Cond.methodLink RX4 102 yX4_isRow, Cond.static yX4_isRow, Cond.code yX4_isRow cX4_isRow 2 (some .boolean)]
def wsX10_undo : List Cond := .code yX10_undo cX10_undo 1 (some .int) :: ((wsX10_undo_r1 ++ wsX10_undo_r2) ++ wsX100 ++ wsX50 ++ wsX40)
def wsX10_wish : List Cond := .code yX10_wish cX10_wish 4 (some .int) :: ([.fieldLink RX10 19 "EggThrones" "laid" "LEggThrones$Table;", .constant RX10 175 (-1000000001), .constant RX10 95 (-1000000002), .methodLink RX10 172 yX8_hasEgg, .instanceMethod yX8_hasEgg, .selects RX8 yX8_hasEgg yX8_hasEgg, .initialized RX8, .code yX8_hasEgg cX8_hasEgg 2 (some .boolean), .fieldLink RX8 37 "EggThrones$Table" "eggs" "I", .methodLink RX10 91 yX10_isWithin, .static yX10_isWithin, .initialized RX10, .code yX10_isWithin cX10_isWithin 3 (some .boolean), .methodLink RX10 194 yX8_wishOf, .instanceMethod yX8_wishOf, .selects RX8 yX8_wishOf yX8_wishOf, .code yX8_wishOf cX8_wishOf 2 (some .int), .fieldLink RX8 18 "EggThrones$Table" "wishes" "[I", .methodLink RX8 59 yX8_hasEgg, .methodLink RX10 256 yX8_setWish, .instanceMethod yX8_setWish, .selects RX8 yX8_setWish yX8_setWish, .code yX8_setWish cX8_setWish 3 none] ++ wsX100 ++ wsX80)
def wsX10_needs_r1 : List Cond := [Cond.fieldLink RX10 19 "EggThrones" "laid" "LEggThrones$Table;", Cond.constant RX10 175 (-1000000001), Cond.constant RX10 95 (-1000000002), Cond.methodLink RX10 172 yX8_hasEgg, Cond.instanceMethod yX8_hasEgg, Cond.selects RX8 yX8_hasEgg yX8_hasEgg, Cond.initialized RX8, Cond.code yX8_hasEgg cX8_hasEgg 2 (some .boolean), Cond.fieldLink RX8 37 "EggThrones$Table" "eggs" "I", Cond.methodLink RX10 91 yX10_isWithin, Cond.static yX10_isWithin, Cond.initialized RX10, Cond.code yX10_isWithin cX10_isWithin 3 (some .boolean), Cond.methodLink RX10 260 yX8_reign, Cond.instanceMethod yX8_reign, Cond.selects RX8 yX8_reign yX8_reign, Cond.code yX8_reign cX8_reign 3 (some .int), Cond.methodLink RX8 69 yX8_hardness, Cond.instanceMethod yX8_hardness, Cond.selects RX8 yX8_hardness yX8_hardness, Cond.code yX8_hardness cX8_hardness 4 (some .int), Cond.fieldLink RX8 15 "EggThrones$Table" "sizes" "[I", Cond.fieldLink RX8 9 "EggThrones$Table" "ages" "[I", Cond.methodLink RX8 53 Lib.Math.min.name]
def wsX10_needs_r2 : List Cond := [Cond.static Lib.Math.min.name, Cond.initialized "java/lang/Math", Cond.code Lib.Math.min.name Lib.Math.min.code 2 (some .int), Cond.methodLink RX8 66 Lib.Math.max.name, Cond.static Lib.Math.max.name, Cond.code Lib.Math.max.name Lib.Math.max.code 2 (some .int), Cond.methodLink RX8 59 yX8_hasEgg, Cond.methodLink RX8 72 yX8_sizeOf, Cond.instanceMethod yX8_sizeOf, Cond.selects RX8 yX8_sizeOf yX8_sizeOf, Cond.code yX8_sizeOf cX8_sizeOf 2 (some .int)]
def wsX10_needs : List Cond := .code yX10_needs cX10_needs 4 (some .int) :: ((wsX10_needs_r1 ++ wsX10_needs_r2) ++ wsX100 ++ wsX80)
def wsX10_allBoiled_r1 : List Cond := [Cond.fieldLink RX10 19 "EggThrones" "laid" "LEggThrones$Table;", Cond.constant RX10 175 (-1000000001), Cond.constant RX10 219 (-1000000003), Cond.fieldLink RX10 66 "EggThrones" "boiling" "LEggThrones$Boiling;", Cond.methodLink RX10 263 yX8_hasEggs, Cond.instanceMethod yX8_hasEggs, Cond.selects RX8 yX8_hasEggs yX8_hasEggs, Cond.initialized RX8, Cond.code yX8_hasEggs cX8_hasEggs 2 (some .boolean), Cond.fieldLink RX8 37 "EggThrones$Table" "eggs" "I", Cond.methodLink RX8 53 Lib.Math.min.name, Cond.static Lib.Math.min.name, Cond.initialized "java/lang/Math", Cond.code Lib.Math.min.name Lib.Math.min.code 2 (some .int), Cond.methodLink RX10 172 yX8_hasEgg, Cond.instanceMethod yX8_hasEgg, Cond.selects RX8 yX8_hasEgg yX8_hasEgg, Cond.code yX8_hasEgg cX8_hasEgg 2 (some .boolean), Cond.methodLink RX10 239 yX8_isLaid, Cond.instanceMethod yX8_isLaid, Cond.selects RX8 yX8_isLaid yX8_isLaid, Cond.code yX8_isLaid cX8_isLaid 1 (some .boolean), Cond.fieldLink RX8 27 "EggThrones$Table" "places" "I", Cond.methodLink RX10 266 yX0_tryAll]
def wsX10_allBoiled_r2 : List Cond := [Cond.instanceMethod yX0_tryAll, Cond.selects RX0 yX0_tryAll yX0_tryAll, Cond.initialized RX0, Cond.code yX0_tryAll cX0_tryAll 4 none, Cond.methodLink RX0 34 Lib.Math.min.name, Cond.fieldLink RX0 24 "EggThrones$Boiling" "places" "I", Cond.constant RX0 40 (1000000), Cond.fieldLink RX0 28 "EggThrones$Boiling" "least" "I", Cond.fieldLink RX0 9 "EggThrones$Boiling" "times" "[I", Cond.fieldLink RX0 18 "EggThrones$Boiling" "way" "[I", Cond.fieldLink RX0 15 "EggThrones$Boiling" "loads" "[I", Cond.methodLink RX0 41 yX8_wishOf, Cond.instanceMethod yX8_wishOf, Cond.selects RX8 yX8_wishOf yX8_wishOf, Cond.code yX8_wishOf cX8_wishOf 2 (some .int), Cond.fieldLink RX8 18 "EggThrones$Table" "wishes" "[I", Cond.methodLink RX8 59 yX8_hasEgg, Cond.methodLink RX0 45 yX0_tryFrom, Cond.static yX0_tryFrom, Cond.code yX0_tryFrom cX0_tryFrom 4 none, Cond.methodLink RX0 49 yX0_takeOver, Cond.instanceMethod yX0_takeOver, Cond.selects RX0 yX0_takeOver yX0_takeOver, Cond.code yX0_takeOver cX0_takeOver 3 none]
def wsX10_allBoiled_r3 : List Cond := [Cond.methodLink RX0 52 Lib.Math.max.name, Cond.static Lib.Math.max.name, Cond.code Lib.Math.max.name Lib.Math.max.code 2 (some .int), Cond.fieldLink RX0 21 "EggThrones$Boiling" "bestWay" "[I", Cond.methodLink RX0 55 arraycopyName, Cond.native arraycopyName, Cond.static arraycopyName, Cond.initialized "java/lang/System", Cond.methodLink RX10 270 yX0_fewest, Cond.instanceMethod yX0_fewest, Cond.selects RX0 yX0_fewest yX0_fewest, Cond.code yX0_fewest cX0_fewest 1 (some .int), Cond.methodLink RX10 273 yX0_placeOf, Cond.instanceMethod yX0_placeOf, Cond.selects RX0 yX0_placeOf yX0_placeOf, Cond.code yX0_placeOf cX0_placeOf 2 (some .int)]
def wsX10_allBoiled : List Cond := .code yX10_allBoiled cX10_allBoiled 4 (some .int) :: ((wsX10_allBoiled_r1 ++ (wsX10_allBoiled_r2 ++ wsX10_allBoiled_r3)) ++ wsX100 ++ wsX80 ++ wsX00)
def wsX10_dynasty_r1 : List Cond := [Cond.constant RX10 95 (-1000000002), Cond.fieldLink RX10 73 "EggThrones" "succession" "LEggThrones$Succession;", Cond.fieldLink RX10 31 "EggThrones" "now" "LEggThrones$Morning;", Cond.methodLink RX10 91 yX10_isWithin, Cond.static yX10_isWithin, Cond.initialized RX10, Cond.code yX10_isWithin cX10_isWithin 3 (some .boolean), Cond.methodLink RX10 276 yX7_tryAll, Cond.instanceMethod yX7_tryAll, Cond.selects RX7 yX7_tryAll yX7_tryAll, Cond.initialized RX7, Cond.code yX7_tryAll cX7_tryAll 4 none, Cond.fieldLink RX7 9 "EggThrones$Succession" "kings" "I", Cond.fieldLink RX7 15 "EggThrones$Succession" "minutes" "I", Cond.fieldLink RX7 18 "EggThrones$Succession" "set" "I", Cond.methodLink RX7 21 yX4_setThatIs, Cond.instanceMethod yX4_setThatIs, Cond.selects RX4 yX4_setThatIs yX4_setThatIs, Cond.initialized RX4, Cond.code yX4_setThatIs cX4_setThatIs 4 (some .int), Cond.methodLink RX4 61 yX4_stateOf, Cond.instanceMethod yX4_stateOf, Cond.selects RX4 yX4_stateOf yX4_stateOf, Cond.code yX4_stateOf cX4_stateOf 2 (some .int)]
def wsX10_dynasty_r2 : List Cond := [Cond.fieldLink RX4 9 "EggThrones$Morning" "table" "LEggThrones$Table;", Cond.fieldLink RX4 15 "EggThrones$Morning" "states" "[I", Cond.methodLink RX4 46 yX8_hasEgg, Cond.instanceMethod yX8_hasEgg, Cond.selects RX8 yX8_hasEgg yX8_hasEgg, Cond.initialized RX8, Cond.code yX8_hasEgg cX8_hasEgg 2 (some .boolean), Cond.fieldLink RX8 37 "EggThrones$Table" "eggs" "I", Cond.methodLink RX7 27 yX7_weigh, Cond.instanceMethod yX7_weigh, Cond.selects RX7 yX7_weigh yX7_weigh, Cond.code yX7_weigh cX7_weigh 6 none, Cond.methodLink RX7 31 yJ6_bitCount_0f7a4, Cond.static yJ6_bitCount_0f7a4, Cond.initialized RJ6, Cond.code yJ6_bitCount_0f7a4 cJ6_bitCount_0f7a4 1 (some .int), Cond.constant RJ6 265 (1431655765), Cond.constant RJ6 266 (858993459), Cond.constant RJ6 267 (252645135), Cond.methodLink RX7 36 yX4_reignOf, Cond.instanceMethod yX4_reignOf, Cond.selects RX4 yX4_reignOf yX4_reignOf, Cond.code yX4_reignOf cX4_reignOf 2 (some .int), Cond.methodLink RX4 50 yX4_boiledOf]
def wsX10_dynasty_r3 : List Cond := [Cond.instanceMethod yX4_boiledOf, Cond.selects RX4 yX4_boiledOf yX4_boiledOf, Cond.code yX4_boiledOf cX4_boiledOf 2 (some .int), Cond.fieldLink RX4 19 "EggThrones$Morning" "boiled" "[I", Cond.methodLink RX4 58 yX8_reign, Cond.instanceMethod yX8_reign, Cond.selects RX8 yX8_reign yX8_reign, Cond.code yX8_reign cX8_reign 3 (some .int), Cond.methodLink RX8 69 yX8_hardness, Cond.instanceMethod yX8_hardness, Cond.selects RX8 yX8_hardness yX8_hardness, Cond.code yX8_hardness cX8_hardness 4 (some .int), Cond.fieldLink RX8 15 "EggThrones$Table" "sizes" "[I", Cond.fieldLink RX8 9 "EggThrones$Table" "ages" "[I", Cond.methodLink RX8 53 Lib.Math.min.name, Cond.static Lib.Math.min.name, Cond.initialized "java/lang/Math", Cond.code Lib.Math.min.name Lib.Math.min.code 2 (some .int), Cond.methodLink RX8 66 Lib.Math.max.name, Cond.static Lib.Math.max.name, Cond.code Lib.Math.max.name Lib.Math.max.code 2 (some .int), Cond.methodLink RX8 59 yX8_hasEgg, Cond.methodLink RX8 72 yX8_sizeOf, Cond.instanceMethod yX8_sizeOf]
def wsX10_dynasty_r4 : List Cond := [Cond.selects RX8 yX8_sizeOf yX8_sizeOf, Cond.code yX8_sizeOf cX8_sizeOf 2 (some .int)]
def wsX10_dynasty : List Cond := .code yX10_dynasty cX10_dynasty 2 (some .int) :: ((wsX10_dynasty_r1 ++ (wsX10_dynasty_r2 ++ (wsX10_dynasty_r3 ++ wsX10_dynasty_r4))) ++ wsX100 ++ wsX70 ++ wsX40 ++ wsX80)
def wsX10_liked_r1 : List Cond := [Cond.fieldLink RX10 19 "EggThrones" "laid" "LEggThrones$Table;", Cond.constant RX10 175 (-1000000001), Cond.fieldLink RX10 80 "EggThrones" "sharing" "LEggThrones$Sharing;", Cond.fieldLink RX10 31 "EggThrones" "now" "LEggThrones$Morning;", Cond.methodLink RX10 197 yX8_hasEater, Cond.instanceMethod yX8_hasEater, Cond.selects RX8 yX8_hasEater yX8_hasEater, Cond.initialized RX8, Cond.code yX8_hasEater cX8_hasEater 2 (some .boolean), Cond.fieldLink RX8 40 "EggThrones$Table" "eaters" "I", Cond.methodLink RX10 285 yX6_ask, Cond.instanceMethod yX6_ask, Cond.selects RX6 yX6_ask yX6_ask, Cond.initialized RX6, Cond.code yX6_ask cX6_ask 4 none, Cond.fieldLink RX6 9 "EggThrones$Sharing" "likings" "[I", Cond.methodLink RX6 15 yX8_hasEater, Cond.methodLink RX6 21 yX6_liking, Cond.static yX6_liking, Cond.code yX6_liking cX6_liking 6 (some .int), Cond.methodLink RX6 25 yX4_stateOf, Cond.instanceMethod yX4_stateOf, Cond.selects RX4 yX4_stateOf yX4_stateOf, Cond.initialized RX4]
def wsX10_liked_r2 : List Cond := [Cond.code yX4_stateOf cX4_stateOf 2 (some .int), Cond.fieldLink RX4 9 "EggThrones$Morning" "table" "LEggThrones$Table;", Cond.fieldLink RX4 15 "EggThrones$Morning" "states" "[I", Cond.methodLink RX4 46 yX8_hasEgg, Cond.instanceMethod yX8_hasEgg, Cond.selects RX8 yX8_hasEgg yX8_hasEgg, Cond.code yX8_hasEgg cX8_hasEgg 2 (some .boolean), Cond.fieldLink RX8 37 "EggThrones$Table" "eggs" "I", Cond.methodLink RX6 31 yX4_hardnessOf, Cond.instanceMethod yX4_hardnessOf, Cond.selects RX4 yX4_hardnessOf yX4_hardnessOf, Cond.code yX4_hardnessOf cX4_hardnessOf 2 (some .int), Cond.methodLink RX4 50 yX4_boiledOf, Cond.instanceMethod yX4_boiledOf, Cond.selects RX4 yX4_boiledOf yX4_boiledOf, Cond.code yX4_boiledOf cX4_boiledOf 2 (some .int), Cond.fieldLink RX4 19 "EggThrones$Morning" "boiled" "[I", Cond.methodLink RX4 54 yX8_hardness, Cond.instanceMethod yX8_hardness, Cond.selects RX8 yX8_hardness yX8_hardness, Cond.code yX8_hardness cX8_hardness 4 (some .int), Cond.fieldLink RX8 15 "EggThrones$Table" "sizes" "[I", Cond.fieldLink RX8 9 "EggThrones$Table" "ages" "[I", Cond.methodLink RX8 53 Lib.Math.min.name]
def wsX10_liked_r3 : List Cond := [Cond.static Lib.Math.min.name, Cond.initialized "java/lang/Math", Cond.code Lib.Math.min.name Lib.Math.min.code 2 (some .int), Cond.methodLink RX8 66 Lib.Math.max.name, Cond.static Lib.Math.max.name, Cond.code Lib.Math.max.name Lib.Math.max.code 2 (some .int), Cond.methodLink RX8 59 yX8_hasEgg, Cond.methodLink RX6 34 yX8_softestFor, Cond.instanceMethod yX8_softestFor, Cond.selects RX8 yX8_softestFor yX8_softestFor, Cond.code yX8_softestFor cX8_softestFor 2 (some .int), Cond.fieldLink RX8 21 "EggThrones$Table" "softest" "[I", Cond.methodLink RX8 63 yX8_hasEater, Cond.methodLink RX6 37 yX8_hardestFor, Cond.instanceMethod yX8_hardestFor, Cond.selects RX8 yX8_hardestFor yX8_hardestFor, Cond.code yX8_hardestFor cX8_hardestFor 2 (some .int), Cond.fieldLink RX8 24 "EggThrones$Table" "hardest" "[I", Cond.static yX10_isWithin, Cond.initialized RX10, Cond.code yX10_isWithin cX10_isWithin 3 (some .boolean), Cond.methodLink RX10 289 yX6_most, Cond.instanceMethod yX6_most, Cond.selects RX6 yX6_most yX6_most]
def wsX10_liked_r4 : List Cond := [Cond.code yX6_most cX6_most 1 (some .int), Cond.methodLink RX6 44 yX6_mostPairs, Cond.static yX6_mostPairs, Cond.code yX6_mostPairs cX6_mostPairs 7 (some .int), Cond.methodLink RX6 61 Lib.Math.min.name, Cond.methodLink RX6 67 Lib.Math.max.name, Cond.methodLink RX6 56 yJ6_bitCount_0f7a4, Cond.static yJ6_bitCount_0f7a4, Cond.initialized RJ6, Cond.code yJ6_bitCount_0f7a4 cJ6_bitCount_0f7a4 1 (some .int), Cond.constant RJ6 265 (1431655765), Cond.constant RJ6 266 (858993459), Cond.constant RJ6 267 (252645135), Cond.methodLink RX10 292 yX6_eggFor, Cond.instanceMethod yX6_eggFor, Cond.selects RX6 yX6_eggFor yX6_eggFor, Cond.code yX6_eggFor cX6_eggFor 6 (some .int), Cond.methodLink RX6 48 yX6_most, Cond.methodLink RX6 52 yX6_firstEgg, Cond.instanceMethod yX6_firstEgg, Cond.selects RX6 yX6_firstEgg yX6_firstEgg, Cond.code yX6_firstEgg cX6_firstEgg 7 (some .int)]
def wsX10_liked : List Cond := .code yX10_liked cX10_liked 3 (some .int) :: ((wsX10_liked_r1 ++ (wsX10_liked_r2 ++ (wsX10_liked_r3 ++ wsX10_liked_r4))) ++ wsX100 ++ wsX80 ++ wsX60 ++ wsX40)
def wsX10_goose : List Cond := .code yX10_goose cX10_goose 4 (some .int) :: ([.fieldLink RX10 19 "EggThrones" "laid" "LEggThrones$Table;", .constant RX10 175 (-1000000001), .constant RX10 95 (-1000000002), .methodLink RX10 197 yX8_hasEater, .instanceMethod yX8_hasEater, .selects RX8 yX8_hasEater yX8_hasEater, .initialized RX8, .code yX8_hasEater cX8_hasEater 2 (some .boolean), .fieldLink RX8 40 "EggThrones$Table" "eaters" "I", .methodLink RX10 91 yX10_isWithin, .static yX10_isWithin, .initialized RX10, .code yX10_isWithin cX10_isWithin 3 (some .boolean)] ++ wsX100 ++ wsX80)
def wsX10_whole : List Cond := .code yX10_whole cX10_whole 6 (some .int) :: ([.constant RX10 95 (-1000000002), .constantLong RX10 295 (1000000000), .constantLong RX10 297 (100), .methodLink RX10 91 yX10_isWithin, .static yX10_isWithin, .initialized RX10, .code yX10_isWithin cX10_isWithin 3 (some .boolean)])
def wsX10_see : List Cond := .code yX10_see cX10_see 3 (some .int) :: ([.constant RX10 95 (-1000000002), .fieldLink RX10 52 "EggThrones" "clues" "LEggThrones$Clues;", .constant RX10 104 (-1000000004), .methodLink RX10 91 yX10_isWithin, .static yX10_isWithin, .initialized RX10, .code yX10_isWithin cX10_isWithin 3 (some .boolean), .methodLink RX10 299 yX2_add, .instanceMethod yX2_add, .selects RX2 yX2_add yX2_add, .initialized RX2, .code yX2_add cX2_add 3 (some .boolean), .fieldLink RX2 18 "EggThrones$Clues" "count" "I", .fieldLink RX2 9 "EggThrones$Clues" "tests" "[I", .fieldLink RX2 15 "EggThrones$Clues" "answers" "[I"] ++ wsX100 ++ wsX20)
def wsX10_ages : List Cond := .code yX10_ages cX10_ages 1 (some .int) :: ([.fieldLink RX10 52 "EggThrones" "clues" "LEggThrones$Clues;", .methodLink RX10 302 yX2_fittingAges, .instanceMethod yX2_fittingAges, .selects RX2 yX2_fittingAges yX2_fittingAges, .initialized RX2, .code yX2_fittingAges cX2_fittingAges 3 (some .int), .methodLink RX2 22 yX2_fits, .instanceMethod yX2_fits, .selects RX2 yX2_fits yX2_fits, .code yX2_fits cX2_fits 3 (some .boolean), .fieldLink RX2 18 "EggThrones$Clues" "count" "I", .fieldLink RX2 9 "EggThrones$Clues" "tests" "[I", .fieldLink RX2 15 "EggThrones$Clues" "answers" "[I"] ++ wsX100 ++ wsX20)
def wsX10_testNext_r1 : List Cond := [Cond.fieldLink RX10 52 "EggThrones" "clues" "LEggThrones$Clues;", Cond.methodLink RX10 305 yX2_bestTest, Cond.instanceMethod yX2_bestTest, Cond.selects RX2 yX2_bestTest yX2_bestTest, Cond.initialized RX2, Cond.code yX2_bestTest cX2_bestTest 6 (some .int), Cond.methodLink RX2 26 yX2_fittingAges, Cond.instanceMethod yX2_fittingAges, Cond.selects RX2 yX2_fittingAges yX2_fittingAges, Cond.code yX2_fittingAges cX2_fittingAges 3 (some .int), Cond.methodLink RX2 22 yX2_fits, Cond.instanceMethod yX2_fits, Cond.selects RX2 yX2_fits yX2_fits, Cond.code yX2_fits cX2_fits 3 (some .boolean), Cond.fieldLink RX2 18 "EggThrones$Clues" "count" "I", Cond.fieldLink RX2 9 "EggThrones$Clues" "tests" "[I", Cond.fieldLink RX2 15 "EggThrones$Clues" "answers" "[I", Cond.methodLink RX2 30 yJ6_bitCount_0f7a4, Cond.static yJ6_bitCount_0f7a4, Cond.initialized RJ6, Cond.code yJ6_bitCount_0f7a4 cJ6_bitCount_0f7a4 1 (some .int), Cond.constant RJ6 265 (1431655765), Cond.constant RJ6 266 (858993459), Cond.constant RJ6 267 (252645135)]
def wsX10_testNext_r2 : List Cond := [Cond.methodLink RX2 36 yX2_greatestPart, Cond.static yX2_greatestPart, Cond.code yX2_greatestPart cX2_greatestPart 5 (some .int), Cond.methodLink RX2 40 Lib.Math.max.name, Cond.static Lib.Math.max.name, Cond.initialized "java/lang/Math", Cond.code Lib.Math.max.name Lib.Math.max.code 2 (some .int)]
def wsX10_testNext : List Cond := .code yX10_testNext cX10_testNext 1 (some .int) :: ((wsX10_testNext_r1 ++ wsX10_testNext_r2) ++ wsX100 ++ wsX20)
def wsX10_write : List Cond := .code yX10_write cX10_write 3 (some .int) :: ([.fieldLink RX10 19 "EggThrones" "laid" "LEggThrones$Table;", .constant RX10 175 (-1000000001), .constant RX10 95 (-1000000002), .fieldLink RX10 59 "EggThrones" "book" "LEggThrones$Book;", .constant RX10 104 (-1000000004), .methodLink RX10 172 yX8_hasEgg, .instanceMethod yX8_hasEgg, .selects RX8 yX8_hasEgg yX8_hasEgg, .initialized RX8, .code yX8_hasEgg cX8_hasEgg 2 (some .boolean), .fieldLink RX8 37 "EggThrones$Table" "eggs" "I", .methodLink RX10 91 yX10_isWithin, .static yX10_isWithin, .initialized RX10, .code yX10_isWithin cX10_isWithin 3 (some .boolean), .methodLink RX10 308 yX1_add, .instanceMethod yX1_add, .selects RX1 yX1_add yX1_add, .initialized RX1, .code yX1_add cX1_add 3 (some .boolean), .fieldLink RX1 18 "EggThrones$Book" "count" "I", .fieldLink RX1 9 "EggThrones$Book" "eggs" "[I", .fieldLink RX1 15 "EggThrones$Book" "states" "[I"] ++ wsX100 ++ wsX10 ++ wsX80)
def wsX10_tear : List Cond := .code yX10_tear cX10_tear 2 (some .int) :: ([.fieldLink RX10 52 "EggThrones" "clues" "LEggThrones$Clues;", .fieldLink RX10 59 "EggThrones" "book" "LEggThrones$Book;", .methodLink RX10 125 yX2_forget, .instanceMethod yX2_forget, .selects RX2 yX2_forget yX2_forget, .initialized RX2, .code yX2_forget cX2_forget 1 none, .fieldLink RX2 18 "EggThrones$Clues" "count" "I", .methodLink RX10 126 yX1_forget, .instanceMethod yX1_forget, .selects RX1 yX1_forget yX1_forget, .initialized RX1, .code yX1_forget cX1_forget 1 none, .fieldLink RX1 18 "EggThrones$Book" "count" "I"] ++ wsX100 ++ wsX20 ++ wsX10)
def wsX10_judge : List Cond := .code yX10_judge cX10_judge 1 (some .int) :: ([.fieldLink RX10 59 "EggThrones" "book" "LEggThrones$Book;", .fieldLink RX10 31 "EggThrones" "now" "LEggThrones$Morning;", .methodLink RX10 309 yX1_firstWrong, .instanceMethod yX1_firstWrong, .selects RX1 yX1_firstWrong yX1_firstWrong, .initialized RX1, .code yX1_firstWrong cX1_firstWrong 3 (some .int), .fieldLink RX1 18 "EggThrones$Book" "count" "I", .fieldLink RX1 9 "EggThrones$Book" "eggs" "[I", .fieldLink RX1 15 "EggThrones$Book" "states" "[I", .methodLink RX1 22 yX4_stateOf, .instanceMethod yX4_stateOf, .selects RX4 yX4_stateOf yX4_stateOf, .initialized RX4, .code yX4_stateOf cX4_stateOf 2 (some .int), .fieldLink RX4 9 "EggThrones$Morning" "table" "LEggThrones$Table;", .fieldLink RX4 15 "EggThrones$Morning" "states" "[I", .methodLink RX4 46 yX8_hasEgg, .instanceMethod yX8_hasEgg, .selects RX8 yX8_hasEgg yX8_hasEgg, .initialized RX8, .code yX8_hasEgg cX8_hasEgg 2 (some .boolean), .fieldLink RX8 37 "EggThrones$Table" "eggs" "I"] ++ wsX100 ++ wsX10 ++ wsX40 ++ wsX80)
def wsX10_seed : List Cond := .code yX10_seed cX10_seed 3 (some .int) :: ([.constant RX10 95 (-1000000002), .fieldLink RX10 88 "EggThrones" "drawSeed" "I"] ++ wsX100)
def wsX10_keep_r1 : List Cond := [Cond.constant RX10 175 (-1000000001), Cond.fieldLink RX10 45 "EggThrones" "images" "LEggThrones$Images;", Cond.fieldLink RX10 31 "EggThrones" "now" "LEggThrones$Morning;", Cond.fieldLink RX10 88 "EggThrones" "drawSeed" "I", Cond.fieldLink RX10 38 "EggThrones" "past" "LEggThrones$Past;", Cond.methodLink RX10 91 yX10_isWithin, Cond.static yX10_isWithin, Cond.initialized RX10, Cond.code yX10_isWithin cX10_isWithin 3 (some .boolean), Cond.methodLink RX10 313 yX3_take, Cond.instanceMethod yX3_take, Cond.selects RX3 yX3_take yX3_take, Cond.initialized RX3, Cond.code yX3_take cX3_take 4 none, Cond.fieldLink RX3 11 "EggThrones$Images" "rows" "[I", Cond.fieldLink RX3 17 "EggThrones$Images" "seeds" "[I", Cond.fieldLink RX3 20 "EggThrones$Images" "taken" "[Z", Cond.methodLink RX3 24 yX4_saveTo, Cond.instanceMethod yX4_saveTo, Cond.selects RX4 yX4_saveTo yX4_saveTo, Cond.initialized RX4, Cond.code yX4_saveTo cX4_saveTo 4 none, Cond.fieldLink RX4 15 "EggThrones$Morning" "states" "[I", Cond.methodLink RX4 106 arraycopyName]
def wsX10_keep_r2 : List Cond := [Cond.native arraycopyName, Cond.static arraycopyName, Cond.initialized "java/lang/System", Cond.fieldLink RX4 19 "EggThrones$Morning" "boiled" "[I", Cond.fieldLink RX4 22 "EggThrones$Morning" "king" "I", Cond.fieldLink RX4 26 "EggThrones$Morning" "left" "I", Cond.fieldLink RX4 29 "EggThrones$Morning" "soldiers" "I", Cond.fieldLink RX4 32 "EggThrones$Morning" "minutes" "I", Cond.fieldLink RX4 35 "EggThrones$Morning" "reigned" "I", Cond.fieldLink RX4 38 "EggThrones$Morning" "scraped" "I", Cond.methodLink RX4 102 yX4_isRow, Cond.static yX4_isRow, Cond.code yX4_isRow cX4_isRow 2 (some .boolean), Cond.methodLink RX10 121 yX5_forget, Cond.instanceMethod yX5_forget, Cond.selects RX5 yX5_forget yX5_forget, Cond.initialized RX5, Cond.code yX5_forget cX5_forget 1 none, Cond.fieldLink RX5 17 "EggThrones$Past" "oldest" "I", Cond.fieldLink RX5 21 "EggThrones$Past" "count" "I"]
def wsX10_keep : List Cond := .code yX10_keep cX10_keep 2 (some .int) :: ((wsX10_keep_r1 ++ wsX10_keep_r2) ++ wsX100 ++ wsX30 ++ wsX40 ++ wsX50)
def wsX10_goBack_r1 : List Cond := [Cond.constant RX10 175 (-1000000001), Cond.fieldLink RX10 45 "EggThrones" "images" "LEggThrones$Images;", Cond.constant RX10 219 (-1000000003), Cond.fieldLink RX10 31 "EggThrones" "now" "LEggThrones$Morning;", Cond.fieldLink RX10 88 "EggThrones" "drawSeed" "I", Cond.fieldLink RX10 38 "EggThrones" "past" "LEggThrones$Past;", Cond.methodLink RX10 91 yX10_isWithin, Cond.static yX10_isWithin, Cond.initialized RX10, Cond.code yX10_isWithin cX10_isWithin 3 (some .boolean), Cond.methodLink RX10 317 yX3_has, Cond.instanceMethod yX3_has, Cond.selects RX3 yX3_has yX3_has, Cond.initialized RX3, Cond.code yX3_has cX3_has 2 (some .boolean), Cond.fieldLink RX3 20 "EggThrones$Images" "taken" "[Z", Cond.methodLink RX10 320 yX3_show, Cond.instanceMethod yX3_show, Cond.selects RX3 yX3_show yX3_show, Cond.code yX3_show cX3_show 3 none, Cond.fieldLink RX3 11 "EggThrones$Images" "rows" "[I", Cond.methodLink RX3 28 yX3_has, Cond.methodLink RX3 32 yX4_loadFrom, Cond.instanceMethod yX4_loadFrom]
def wsX10_goBack_r2 : List Cond := [Cond.selects RX4 yX4_loadFrom yX4_loadFrom, Cond.initialized RX4, Cond.code yX4_loadFrom cX4_loadFrom 4 none, Cond.fieldLink RX4 15 "EggThrones$Morning" "states" "[I", Cond.methodLink RX4 106 arraycopyName, Cond.native arraycopyName, Cond.static arraycopyName, Cond.initialized "java/lang/System", Cond.fieldLink RX4 19 "EggThrones$Morning" "boiled" "[I", Cond.fieldLink RX4 22 "EggThrones$Morning" "king" "I", Cond.fieldLink RX4 26 "EggThrones$Morning" "left" "I", Cond.fieldLink RX4 29 "EggThrones$Morning" "soldiers" "I", Cond.fieldLink RX4 32 "EggThrones$Morning" "minutes" "I", Cond.fieldLink RX4 35 "EggThrones$Morning" "reigned" "I", Cond.fieldLink RX4 38 "EggThrones$Morning" "scraped" "I", Cond.methodLink RX4 102 yX4_isRow, Cond.static yX4_isRow, Cond.code yX4_isRow cX4_isRow 2 (some .boolean), Cond.methodLink RX10 324 yX3_seedOf, Cond.instanceMethod yX3_seedOf, Cond.selects RX3 yX3_seedOf yX3_seedOf, Cond.code yX3_seedOf cX3_seedOf 2 (some .int), Cond.fieldLink RX3 17 "EggThrones$Images" "seeds" "[I", Cond.methodLink RX10 121 yX5_forget]
def wsX10_goBack_r3 : List Cond := [Cond.instanceMethod yX5_forget, Cond.selects RX5 yX5_forget yX5_forget, Cond.initialized RX5, Cond.code yX5_forget cX5_forget 1 none, Cond.fieldLink RX5 17 "EggThrones$Past" "oldest" "I", Cond.fieldLink RX5 21 "EggThrones$Past" "count" "I"]
def wsX10_goBack : List Cond := .code yX10_goBack cX10_goBack 2 (some .int) :: ((wsX10_goBack_r1 ++ (wsX10_goBack_r2 ++ wsX10_goBack_r3)) ++ wsX100 ++ wsX30 ++ wsX40 ++ wsX50)
def wsX11_init_r1 : List Cond := [Cond.methodLink RX11 1 objectInit, Cond.instanceMethod objectInit, Cond.code objectInit ⟨#[0xb1]⟩ 1 none, Cond.arrayClass .int, Cond.fieldLink RX11 7 "EggThronesModel" "age" "[I", Cond.fieldLink RX11 13 "EggThronesModel" "size" "[I", Cond.fieldLink RX11 16 "EggThronesModel" "likesLeast" "[I", Cond.fieldLink RX11 19 "EggThronesModel" "likesMost" "[I", Cond.fieldLink RX11 22 "EggThronesModel" "wishes" "[I", Cond.fieldLink RX11 25 "EggThronesModel" "now" "[I", Cond.fieldLink RX11 28 "EggThronesModel" "text" "[I", Cond.fieldLink RX11 31 "EggThronesModel" "faultPlace" "I", Cond.fieldLink RX11 35 "EggThronesModel" "readPan" "[I", Cond.fieldLink RX11 38 "EggThronesModel" "readAge" "[I", Cond.fieldLink RX11 41 "EggThronesModel" "readSize" "[I", Cond.fieldLink RX11 44 "EggThronesModel" "readLeast" "[I", Cond.fieldLink RX11 47 "EggThronesModel" "readMost" "[I", Cond.fieldLink RX11 50 "EggThronesModel" "past" "[I", Cond.fieldLink RX11 53 "EggThronesModel" "places" "[I", Cond.fieldLink RX11 56 "EggThronesModel" "bestPlaces" "[I", Cond.fieldLink RX11 59 "EggThronesModel" "loads" "[I", Cond.fieldLink RX11 62 "EggThronesModel" "given" "[I", Cond.fieldLink RX11 65 "EggThronesModel" "bestGiven" "[I", Cond.fieldLink RX11 68 "EggThronesModel" "seenBy" "[I"]
def wsX11_init_r2 : List Cond := [Cond.fieldLink RX11 71 "EggThronesModel" "seenIs" "[I", Cond.fieldLink RX11 74 "EggThronesModel" "parts" "[I", Cond.fieldLink RX11 77 "EggThronesModel" "bookOf" "[I", Cond.fieldLink RX11 80 "EggThronesModel" "bookIs" "[I", Cond.fieldLink RX11 83 "EggThronesModel" "images" "[I", Cond.arrayClass .boolean, Cond.fieldLink RX11 86 "EggThronesModel" "isKept" "[Z", Cond.fieldLink RX11 90 "EggThronesModel" "holds" "I"]
def wsX11_init : List Cond := .code yX11_init cX11_init 1 none :: ((wsX11_init_r1 ++ wsX11_init_r2) ++ wsX110)
def wsX11_in : List Cond := .code yX11_in cX11_in 6 (some .boolean) :: ([])
def wsX11_has : List Cond := .code yX11_has cX11_has 2 (some .boolean) :: ([])
def wsX11_isEgg : List Cond := .code yX11_isEgg cX11_isEgg 2 (some .boolean) :: ([.fieldLink RX11 93 "EggThronesModel" "eggs" "I", .methodLink RX11 96 yX11_in, .static yX11_in, .initialized RX11, .code yX11_in cX11_in 6 (some .boolean)] ++ wsX110)
def wsX11_isEater : List Cond := .code yX11_isEater cX11_isEater 2 (some .boolean) :: ([.fieldLink RX11 100 "EggThronesModel" "eaters" "I", .methodLink RX11 96 yX11_in, .static yX11_in, .initialized RX11, .code yX11_in cX11_in 6 (some .boolean)] ++ wsX110)
def wsX11_feed : List Cond := .code yX11_feed cX11_feed 2 (some .int) :: ([.constantLong RX11 103 (255), .constant RX11 105 (-1000000002), .fieldLink RX11 106 "EggThronesModel" "texted" "I", .constant RX11 109 (-1000000004), .fieldLink RX11 28 "EggThronesModel" "text" "[I", .methodLink RX11 96 yX11_in, .static yX11_in, .initialized RX11, .code yX11_in cX11_in 6 (some .boolean)] ++ wsX110)
def wsX11_here : List Cond := .code yX11_here cX11_here 1 (some .int) :: ([.fieldLink RX11 110 "EggThronesModel" "at0" "I", .fieldLink RX11 106 "EggThronesModel" "texted" "I", .fieldLink RX11 28 "EggThronesModel" "text" "[I"] ++ wsX110)
def wsX11_fails : List Cond := .code yX11_fails cX11_fails 3 (some .int) :: ([.fieldLink RX11 31 "EggThronesModel" "faultPlace" "I"] ++ wsX110)
def wsX11_takeNumber : List Cond := .code yX11_takeNumber cX11_takeNumber 4 (some .int) :: ([.constantLong RX11 117 (48), .constantLong RX11 119 (57), .fieldLink RX11 110 "EggThronesModel" "at0" "I", .fieldLink RX11 125 "EggThronesModel" "numberAt" "I", .fieldLink RX11 128 "EggThronesModel" "number" "I", .fieldLink RX11 106 "EggThronesModel" "texted" "I", .fieldLink RX11 28 "EggThronesModel" "text" "[I", .methodLink RX11 113 yX11_here, .instanceMethod yX11_here, .selects RX11 yX11_here yX11_here, .initialized RX11, .code yX11_here cX11_here 1 (some .int), .methodLink RX11 96 yX11_in, .static yX11_in, .code yX11_in cX11_in 6 (some .boolean), .methodLink RX11 121 yX11_fails, .instanceMethod yX11_fails, .selects RX11 yX11_fails yX11_fails, .code yX11_fails cX11_fails 3 (some .int), .fieldLink RX11 31 "EggThronesModel" "faultPlace" "I"] ++ wsX110)
def wsX11_into : List Cond := .code yX11_into cX11_into 6 (some .int) :: ([.fieldLink RX11 128 "EggThronesModel" "number" "I", .methodLink RX11 131 yX11_takeNumber, .instanceMethod yX11_takeNumber, .selects RX11 yX11_takeNumber yX11_takeNumber, .initialized RX11, .code yX11_takeNumber cX11_takeNumber 4 (some .int), .constantLong RX11 117 (48), .constantLong RX11 119 (57), .fieldLink RX11 110 "EggThronesModel" "at0" "I", .fieldLink RX11 125 "EggThronesModel" "numberAt" "I", .fieldLink RX11 106 "EggThronesModel" "texted" "I", .fieldLink RX11 28 "EggThronesModel" "text" "[I", .methodLink RX11 113 yX11_here, .instanceMethod yX11_here, .selects RX11 yX11_here yX11_here, .code yX11_here cX11_here 1 (some .int), .methodLink RX11 96 yX11_in, .static yX11_in, .code yX11_in cX11_in 6 (some .boolean), .methodLink RX11 121 yX11_fails, .instanceMethod yX11_fails, .selects RX11 yX11_fails yX11_fails, .code yX11_fails cX11_fails 3 (some .int), .fieldLink RX11 31 "EggThronesModel" "faultPlace" "I"] ++ wsX110)
def wsX11_takePan_r1 : List Cond := [Cond.fieldLink RX11 35 "EggThronesModel" "readPan" "[I", Cond.methodLink RX11 134 yX11_into, Cond.instanceMethod yX11_into, Cond.selects RX11 yX11_into yX11_into, Cond.initialized RX11, Cond.code yX11_into cX11_into 6 (some .int), Cond.fieldLink RX11 128 "EggThronesModel" "number" "I", Cond.methodLink RX11 131 yX11_takeNumber, Cond.instanceMethod yX11_takeNumber, Cond.selects RX11 yX11_takeNumber yX11_takeNumber, Cond.code yX11_takeNumber cX11_takeNumber 4 (some .int), Cond.constantLong RX11 117 (48), Cond.constantLong RX11 119 (57), Cond.fieldLink RX11 110 "EggThronesModel" "at0" "I", Cond.fieldLink RX11 125 "EggThronesModel" "numberAt" "I", Cond.fieldLink RX11 106 "EggThronesModel" "texted" "I", Cond.fieldLink RX11 28 "EggThronesModel" "text" "[I", Cond.methodLink RX11 113 yX11_here, Cond.instanceMethod yX11_here, Cond.selects RX11 yX11_here yX11_here, Cond.code yX11_here cX11_here 1 (some .int), Cond.methodLink RX11 96 yX11_in, Cond.static yX11_in, Cond.code yX11_in cX11_in 6 (some .boolean)]
def wsX11_takePan_r2 : List Cond := [Cond.methodLink RX11 121 yX11_fails, Cond.instanceMethod yX11_fails, Cond.selects RX11 yX11_fails yX11_fails, Cond.code yX11_fails cX11_fails 3 (some .int), Cond.fieldLink RX11 31 "EggThronesModel" "faultPlace" "I"]
def wsX11_takePan : List Cond := .code yX11_takePan cX11_takePan 2 (some .int) :: ((wsX11_takePan_r1 ++ wsX11_takePan_r2) ++ wsX110)
def wsX11_takeEgg_r1 : List Cond := [Cond.fieldLink RX11 138 "EggThronesModel" "readEggs" "I", Cond.fieldLink RX11 38 "EggThronesModel" "readAge" "[I", Cond.fieldLink RX11 41 "EggThronesModel" "readSize" "[I", Cond.methodLink RX11 134 yX11_into, Cond.instanceMethod yX11_into, Cond.selects RX11 yX11_into yX11_into, Cond.initialized RX11, Cond.code yX11_into cX11_into 6 (some .int), Cond.fieldLink RX11 128 "EggThronesModel" "number" "I", Cond.methodLink RX11 131 yX11_takeNumber, Cond.instanceMethod yX11_takeNumber, Cond.selects RX11 yX11_takeNumber yX11_takeNumber, Cond.code yX11_takeNumber cX11_takeNumber 4 (some .int), Cond.constantLong RX11 117 (48), Cond.constantLong RX11 119 (57), Cond.fieldLink RX11 110 "EggThronesModel" "at0" "I", Cond.fieldLink RX11 125 "EggThronesModel" "numberAt" "I", Cond.fieldLink RX11 106 "EggThronesModel" "texted" "I", Cond.fieldLink RX11 28 "EggThronesModel" "text" "[I", Cond.methodLink RX11 113 yX11_here, Cond.instanceMethod yX11_here, Cond.selects RX11 yX11_here yX11_here, Cond.code yX11_here cX11_here 1 (some .int), Cond.methodLink RX11 96 yX11_in]
def wsX11_takeEgg_r2 : List Cond := [Cond.static yX11_in, Cond.code yX11_in cX11_in 6 (some .boolean), Cond.methodLink RX11 121 yX11_fails, Cond.instanceMethod yX11_fails, Cond.selects RX11 yX11_fails yX11_fails, Cond.code yX11_fails cX11_fails 3 (some .int), Cond.fieldLink RX11 31 "EggThronesModel" "faultPlace" "I"]
def wsX11_takeEgg : List Cond := .code yX11_takeEgg cX11_takeEgg 3 (some .int) :: ((wsX11_takeEgg_r1 ++ wsX11_takeEgg_r2) ++ wsX110)
def wsX11_takeEater_r1 : List Cond := [Cond.fieldLink RX11 141 "EggThronesModel" "readEaters" "I", Cond.fieldLink RX11 44 "EggThronesModel" "readLeast" "[I", Cond.fieldLink RX11 47 "EggThronesModel" "readMost" "[I", Cond.methodLink RX11 134 yX11_into, Cond.instanceMethod yX11_into, Cond.selects RX11 yX11_into yX11_into, Cond.initialized RX11, Cond.code yX11_into cX11_into 6 (some .int), Cond.fieldLink RX11 128 "EggThronesModel" "number" "I", Cond.methodLink RX11 131 yX11_takeNumber, Cond.instanceMethod yX11_takeNumber, Cond.selects RX11 yX11_takeNumber yX11_takeNumber, Cond.code yX11_takeNumber cX11_takeNumber 4 (some .int), Cond.constantLong RX11 117 (48), Cond.constantLong RX11 119 (57), Cond.fieldLink RX11 110 "EggThronesModel" "at0" "I", Cond.fieldLink RX11 125 "EggThronesModel" "numberAt" "I", Cond.fieldLink RX11 106 "EggThronesModel" "texted" "I", Cond.fieldLink RX11 28 "EggThronesModel" "text" "[I", Cond.methodLink RX11 113 yX11_here, Cond.instanceMethod yX11_here, Cond.selects RX11 yX11_here yX11_here, Cond.code yX11_here cX11_here 1 (some .int), Cond.methodLink RX11 96 yX11_in]
def wsX11_takeEater_r2 : List Cond := [Cond.static yX11_in, Cond.code yX11_in cX11_in 6 (some .boolean), Cond.methodLink RX11 121 yX11_fails, Cond.instanceMethod yX11_fails, Cond.selects RX11 yX11_fails yX11_fails, Cond.code yX11_fails cX11_fails 3 (some .int), Cond.fieldLink RX11 31 "EggThronesModel" "faultPlace" "I"]
def wsX11_takeEater : List Cond := .code yX11_takeEater cX11_takeEater 3 (some .int) :: ((wsX11_takeEater_r1 ++ wsX11_takeEater_r2) ++ wsX110)
def wsX11_takeClause_r1 : List Cond := [Cond.fieldLink RX11 35 "EggThronesModel" "readPan" "[I", Cond.fieldLink RX11 110 "EggThronesModel" "at0" "I", Cond.fieldLink RX11 138 "EggThronesModel" "readEggs" "I", Cond.fieldLink RX11 141 "EggThronesModel" "readEaters" "I", Cond.methodLink RX11 113 yX11_here, Cond.instanceMethod yX11_here, Cond.selects RX11 yX11_here yX11_here, Cond.initialized RX11, Cond.code yX11_here cX11_here 1 (some .int), Cond.fieldLink RX11 106 "EggThronesModel" "texted" "I", Cond.fieldLink RX11 28 "EggThronesModel" "text" "[I", Cond.methodLink RX11 121 yX11_fails, Cond.instanceMethod yX11_fails, Cond.selects RX11 yX11_fails yX11_fails, Cond.code yX11_fails cX11_fails 3 (some .int), Cond.fieldLink RX11 31 "EggThronesModel" "faultPlace" "I", Cond.methodLink RX11 144 yX11_takePan, Cond.instanceMethod yX11_takePan, Cond.selects RX11 yX11_takePan yX11_takePan, Cond.code yX11_takePan cX11_takePan 2 (some .int), Cond.methodLink RX11 134 yX11_into, Cond.instanceMethod yX11_into, Cond.selects RX11 yX11_into yX11_into, Cond.code yX11_into cX11_into 6 (some .int)]
def wsX11_takeClause_r2 : List Cond := [Cond.fieldLink RX11 128 "EggThronesModel" "number" "I", Cond.methodLink RX11 131 yX11_takeNumber, Cond.instanceMethod yX11_takeNumber, Cond.selects RX11 yX11_takeNumber yX11_takeNumber, Cond.code yX11_takeNumber cX11_takeNumber 4 (some .int), Cond.constantLong RX11 117 (48), Cond.constantLong RX11 119 (57), Cond.fieldLink RX11 125 "EggThronesModel" "numberAt" "I", Cond.methodLink RX11 96 yX11_in, Cond.static yX11_in, Cond.code yX11_in cX11_in 6 (some .boolean), Cond.methodLink RX11 147 yX11_takeEgg, Cond.instanceMethod yX11_takeEgg, Cond.selects RX11 yX11_takeEgg yX11_takeEgg, Cond.code yX11_takeEgg cX11_takeEgg 3 (some .int), Cond.fieldLink RX11 38 "EggThronesModel" "readAge" "[I", Cond.fieldLink RX11 41 "EggThronesModel" "readSize" "[I", Cond.methodLink RX11 150 yX11_takeEater, Cond.instanceMethod yX11_takeEater, Cond.selects RX11 yX11_takeEater yX11_takeEater, Cond.code yX11_takeEater cX11_takeEater 3 (some .int), Cond.fieldLink RX11 44 "EggThronesModel" "readLeast" "[I", Cond.fieldLink RX11 47 "EggThronesModel" "readMost" "[I"]
def wsX11_takeClause : List Cond := .code yX11_takeClause cX11_takeClause 5 (some .int) :: ((wsX11_takeClause_r1 ++ wsX11_takeClause_r2) ++ wsX110)
def wsX11_takeRead : List Cond := .code yX11_takeRead cX11_takeRead 2 none :: ([.fieldLink RX11 35 "EggThronesModel" "readPan" "[I", .fieldLink RX11 90 "EggThronesModel" "holds" "I", .fieldLink RX11 153 "EggThronesModel" "bears" "I", .fieldLink RX11 138 "EggThronesModel" "readEggs" "I", .fieldLink RX11 93 "EggThronesModel" "eggs" "I", .fieldLink RX11 141 "EggThronesModel" "readEaters" "I", .fieldLink RX11 100 "EggThronesModel" "eaters" "I", .fieldLink RX11 25 "EggThronesModel" "now" "[I", .fieldLink RX11 7 "EggThronesModel" "age" "[I", .fieldLink RX11 38 "EggThronesModel" "readAge" "[I", .fieldLink RX11 13 "EggThronesModel" "size" "[I", .fieldLink RX11 41 "EggThronesModel" "readSize" "[I", .fieldLink RX11 22 "EggThronesModel" "wishes" "[I", .fieldLink RX11 16 "EggThronesModel" "likesLeast" "[I", .fieldLink RX11 44 "EggThronesModel" "readLeast" "[I", .fieldLink RX11 19 "EggThronesModel" "likesMost" "[I", .fieldLink RX11 47 "EggThronesModel" "readMost" "[I"] ++ wsX110)
def wsX11_table_r1 : List Cond := [Cond.fieldLink RX11 31 "EggThronesModel" "faultPlace" "I", Cond.fieldLink RX11 110 "EggThronesModel" "at0" "I", Cond.fieldLink RX11 35 "EggThronesModel" "readPan" "[I", Cond.fieldLink RX11 138 "EggThronesModel" "readEggs" "I", Cond.fieldLink RX11 141 "EggThronesModel" "readEaters" "I", Cond.fieldLink RX11 106 "EggThronesModel" "texted" "I", Cond.fieldLink RX11 162 "EggThronesModel" "seen" "I", Cond.fieldLink RX11 165 "EggThronesModel" "booked" "I", Cond.fieldLink RX11 168 "EggThronesModel" "undos" "I", Cond.fieldLink RX11 86 "EggThronesModel" "isKept" "[Z", Cond.fieldLink RX11 93 "EggThronesModel" "eggs" "I", Cond.methodLink RX11 113 yX11_here, Cond.instanceMethod yX11_here, Cond.selects RX11 yX11_here yX11_here, Cond.initialized RX11, Cond.code yX11_here cX11_here 1 (some .int), Cond.fieldLink RX11 28 "EggThronesModel" "text" "[I", Cond.methodLink RX11 156 yX11_takeClause, Cond.instanceMethod yX11_takeClause, Cond.selects RX11 yX11_takeClause yX11_takeClause, Cond.code yX11_takeClause cX11_takeClause 5 (some .int), Cond.methodLink RX11 121 yX11_fails, Cond.instanceMethod yX11_fails, Cond.selects RX11 yX11_fails yX11_fails]
def wsX11_table_r2 : List Cond := [Cond.code yX11_fails cX11_fails 3 (some .int), Cond.methodLink RX11 144 yX11_takePan, Cond.instanceMethod yX11_takePan, Cond.selects RX11 yX11_takePan yX11_takePan, Cond.code yX11_takePan cX11_takePan 2 (some .int), Cond.methodLink RX11 134 yX11_into, Cond.instanceMethod yX11_into, Cond.selects RX11 yX11_into yX11_into, Cond.code yX11_into cX11_into 6 (some .int), Cond.fieldLink RX11 128 "EggThronesModel" "number" "I", Cond.methodLink RX11 131 yX11_takeNumber, Cond.instanceMethod yX11_takeNumber, Cond.selects RX11 yX11_takeNumber yX11_takeNumber, Cond.code yX11_takeNumber cX11_takeNumber 4 (some .int), Cond.constantLong RX11 117 (48), Cond.constantLong RX11 119 (57), Cond.fieldLink RX11 125 "EggThronesModel" "numberAt" "I", Cond.methodLink RX11 96 yX11_in, Cond.static yX11_in, Cond.code yX11_in cX11_in 6 (some .boolean), Cond.methodLink RX11 147 yX11_takeEgg, Cond.instanceMethod yX11_takeEgg, Cond.selects RX11 yX11_takeEgg yX11_takeEgg, Cond.code yX11_takeEgg cX11_takeEgg 3 (some .int)]
def wsX11_table_r3 : List Cond := [Cond.fieldLink RX11 38 "EggThronesModel" "readAge" "[I", Cond.fieldLink RX11 41 "EggThronesModel" "readSize" "[I", Cond.methodLink RX11 150 yX11_takeEater, Cond.instanceMethod yX11_takeEater, Cond.selects RX11 yX11_takeEater yX11_takeEater, Cond.code yX11_takeEater cX11_takeEater 3 (some .int), Cond.fieldLink RX11 44 "EggThronesModel" "readLeast" "[I", Cond.fieldLink RX11 47 "EggThronesModel" "readMost" "[I", Cond.methodLink RX11 159 yX11_takeRead, Cond.instanceMethod yX11_takeRead, Cond.selects RX11 yX11_takeRead yX11_takeRead, Cond.code yX11_takeRead cX11_takeRead 2 none, Cond.fieldLink RX11 90 "EggThronesModel" "holds" "I", Cond.fieldLink RX11 153 "EggThronesModel" "bears" "I", Cond.fieldLink RX11 100 "EggThronesModel" "eaters" "I", Cond.fieldLink RX11 25 "EggThronesModel" "now" "[I", Cond.fieldLink RX11 7 "EggThronesModel" "age" "[I", Cond.fieldLink RX11 13 "EggThronesModel" "size" "[I", Cond.fieldLink RX11 22 "EggThronesModel" "wishes" "[I", Cond.fieldLink RX11 16 "EggThronesModel" "likesLeast" "[I", Cond.fieldLink RX11 19 "EggThronesModel" "likesMost" "[I"]
def wsX11_table : List Cond := .code yX11_table cX11_table 2 (some .int) :: ((wsX11_table_r1 ++ (wsX11_table_r2 ++ wsX11_table_r3)) ++ wsX110)
def wsX11_fault : List Cond := .code yX11_fault cX11_fault 1 (some .int) :: ([.fieldLink RX11 31 "EggThronesModel" "faultPlace" "I"] ++ wsX110)
def wsX11_hardBy : List Cond := .code yX11_hardBy cX11_hardBy 4 (some .int) :: ([.fieldLink RX11 13 "EggThronesModel" "size" "[I", .fieldLink RX11 7 "EggThronesModel" "age" "[I"] ++ wsX110)
def wsX11_hard : List Cond := .code yX11_hard cX11_hard 2 (some .int) :: ([.fieldLink RX11 25 "EggThronesModel" "now" "[I", .methodLink RX11 171 yX11_hardBy, .instanceMethod yX11_hardBy, .selects RX11 yX11_hardBy yX11_hardBy, .initialized RX11, .code yX11_hardBy cX11_hardBy 4 (some .int), .fieldLink RX11 13 "EggThronesModel" "size" "[I", .fieldLink RX11 7 "EggThronesModel" "age" "[I"] ++ wsX110)
def wsX11_reignBy : List Cond := .code yX11_reignBy cX11_reignBy 3 (some .int) :: ([.fieldLink RX11 13 "EggThronesModel" "size" "[I", .methodLink RX11 171 yX11_hardBy, .instanceMethod yX11_hardBy, .selects RX11 yX11_hardBy yX11_hardBy, .initialized RX11, .code yX11_hardBy cX11_hardBy 4 (some .int), .fieldLink RX11 7 "EggThronesModel" "age" "[I"] ++ wsX110)
def wsX11_reign : List Cond := .code yX11_reign cX11_reign 2 (some .int) :: ([.fieldLink RX11 25 "EggThronesModel" "now" "[I", .methodLink RX11 174 yX11_reignBy, .instanceMethod yX11_reignBy, .selects RX11 yX11_reignBy yX11_reignBy, .initialized RX11, .code yX11_reignBy cX11_reignBy 3 (some .int), .fieldLink RX11 13 "EggThronesModel" "size" "[I", .methodLink RX11 171 yX11_hardBy, .instanceMethod yX11_hardBy, .selects RX11 yX11_hardBy yX11_hardBy, .code yX11_hardBy cX11_hardBy 4 (some .int), .fieldLink RX11 7 "EggThronesModel" "age" "[I"] ++ wsX110)
def wsX11_allThat : List Cond := .code yX11_allThat cX11_allThat 4 (some .int) :: ([.fieldLink RX11 93 "EggThronesModel" "eggs" "I", .fieldLink RX11 25 "EggThronesModel" "now" "[I"] ++ wsX110)
def wsX11_king : List Cond := .code yX11_king cX11_king 2 (some .int) :: ([.fieldLink RX11 93 "EggThronesModel" "eggs" "I", .fieldLink RX11 25 "EggThronesModel" "now" "[I"] ++ wsX110)
def wsX11_inPan : List Cond := .code yX11_inPan cX11_inPan 3 (some .int) :: ([.fieldLink RX11 93 "EggThronesModel" "eggs" "I", .fieldLink RX11 25 "EggThronesModel" "now" "[I"] ++ wsX110)
def wsX11_pretenders : List Cond := .code yX11_pretenders cX11_pretenders 3 (some .int) :: ([.fieldLink RX11 93 "EggThronesModel" "eggs" "I", .fieldLink RX11 25 "EggThronesModel" "now" "[I", .methodLink RX11 177 yX11_hard, .instanceMethod yX11_hard, .selects RX11 yX11_hard yX11_hard, .initialized RX11, .code yX11_hard cX11_hard 2 (some .int), .methodLink RX11 171 yX11_hardBy, .instanceMethod yX11_hardBy, .selects RX11 yX11_hardBy yX11_hardBy, .code yX11_hardBy cX11_hardBy 4 (some .int), .fieldLink RX11 13 "EggThronesModel" "size" "[I", .fieldLink RX11 7 "EggThronesModel" "age" "[I"] ++ wsX110)
def wsX11_heir : List Cond := .code yX11_heir cX11_heir 4 (some .int) :: ([.fieldLink RX11 93 "EggThronesModel" "eggs" "I", .fieldLink RX11 25 "EggThronesModel" "now" "[I", .methodLink RX11 181 yX11_reign, .instanceMethod yX11_reign, .selects RX11 yX11_reign yX11_reign, .initialized RX11, .code yX11_reign cX11_reign 2 (some .int), .methodLink RX11 174 yX11_reignBy, .instanceMethod yX11_reignBy, .selects RX11 yX11_reignBy yX11_reignBy, .code yX11_reignBy cX11_reignBy 3 (some .int), .fieldLink RX11 13 "EggThronesModel" "size" "[I", .methodLink RX11 171 yX11_hardBy, .instanceMethod yX11_hardBy, .selects RX11 yX11_hardBy yX11_hardBy, .code yX11_hardBy cX11_hardBy 4 (some .int), .fieldLink RX11 7 "EggThronesModel" "age" "[I"] ++ wsX110)
def wsX11_told_r1 : List Cond := [Cond.fieldLink RX11 90 "EggThronesModel" "holds" "I", Cond.fieldLink RX11 25 "EggThronesModel" "now" "[I", Cond.fieldLink RX11 153 "EggThronesModel" "bears" "I", Cond.fieldLink RX11 93 "EggThronesModel" "eggs" "I", Cond.fieldLink RX11 100 "EggThronesModel" "eaters" "I", Cond.fieldLink RX11 106 "EggThronesModel" "texted" "I", Cond.fieldLink RX11 162 "EggThronesModel" "seen" "I", Cond.fieldLink RX11 165 "EggThronesModel" "booked" "I", Cond.fieldLink RX11 168 "EggThronesModel" "undos" "I", Cond.constant RX11 105 (-1000000002), Cond.methodLink RX11 184 yX11_king, Cond.instanceMethod yX11_king, Cond.selects RX11 yX11_king yX11_king, Cond.initialized RX11, Cond.code yX11_king cX11_king 2 (some .int), Cond.methodLink RX11 187 yX11_allThat, Cond.instanceMethod yX11_allThat, Cond.selects RX11 yX11_allThat yX11_allThat, Cond.code yX11_allThat cX11_allThat 4 (some .int), Cond.methodLink RX11 190 yX11_pretenders, Cond.instanceMethod yX11_pretenders, Cond.selects RX11 yX11_pretenders yX11_pretenders, Cond.code yX11_pretenders cX11_pretenders 3 (some .int), Cond.methodLink RX11 177 yX11_hard]
def wsX11_told_r2 : List Cond := [Cond.instanceMethod yX11_hard, Cond.selects RX11 yX11_hard yX11_hard, Cond.code yX11_hard cX11_hard 2 (some .int), Cond.methodLink RX11 171 yX11_hardBy, Cond.instanceMethod yX11_hardBy, Cond.selects RX11 yX11_hardBy yX11_hardBy, Cond.code yX11_hardBy cX11_hardBy 4 (some .int), Cond.fieldLink RX11 13 "EggThronesModel" "size" "[I", Cond.fieldLink RX11 7 "EggThronesModel" "age" "[I", Cond.methodLink RX11 193 yX11_heir, Cond.instanceMethod yX11_heir, Cond.selects RX11 yX11_heir yX11_heir, Cond.code yX11_heir cX11_heir 4 (some .int), Cond.methodLink RX11 181 yX11_reign, Cond.instanceMethod yX11_reign, Cond.selects RX11 yX11_reign yX11_reign, Cond.code yX11_reign cX11_reign 2 (some .int), Cond.methodLink RX11 174 yX11_reignBy, Cond.instanceMethod yX11_reignBy, Cond.selects RX11 yX11_reignBy yX11_reignBy, Cond.code yX11_reignBy cX11_reignBy 3 (some .int)]
def wsX11_told : List Cond := .code yX11_told cX11_told 2 (some .int) :: ((wsX11_told_r1 ++ wsX11_told_r2) ++ wsX110)
def wsX11_egg_r1 : List Cond := [Cond.constant RX11 200 (-1000000001), Cond.fieldLink RX11 7 "EggThronesModel" "age" "[I", Cond.fieldLink RX11 13 "EggThronesModel" "size" "[I", Cond.fieldLink RX11 25 "EggThronesModel" "now" "[I", Cond.fieldLink RX11 22 "EggThronesModel" "wishes" "[I", Cond.constant RX11 105 (-1000000002), Cond.methodLink RX11 196 yX11_isEgg, Cond.instanceMethod yX11_isEgg, Cond.selects RX11 yX11_isEgg yX11_isEgg, Cond.initialized RX11, Cond.code yX11_isEgg cX11_isEgg 2 (some .boolean), Cond.fieldLink RX11 93 "EggThronesModel" "eggs" "I", Cond.methodLink RX11 96 yX11_in, Cond.static yX11_in, Cond.code yX11_in cX11_in 6 (some .boolean), Cond.methodLink RX11 177 yX11_hard, Cond.instanceMethod yX11_hard, Cond.selects RX11 yX11_hard yX11_hard, Cond.code yX11_hard cX11_hard 2 (some .int), Cond.methodLink RX11 171 yX11_hardBy, Cond.instanceMethod yX11_hardBy, Cond.selects RX11 yX11_hardBy yX11_hardBy, Cond.code yX11_hardBy cX11_hardBy 4 (some .int), Cond.methodLink RX11 181 yX11_reign]
def wsX11_egg_r2 : List Cond := [Cond.instanceMethod yX11_reign, Cond.selects RX11 yX11_reign yX11_reign, Cond.code yX11_reign cX11_reign 2 (some .int), Cond.methodLink RX11 174 yX11_reignBy, Cond.instanceMethod yX11_reignBy, Cond.selects RX11 yX11_reignBy yX11_reignBy, Cond.code yX11_reignBy cX11_reignBy 3 (some .int)]
def wsX11_egg : List Cond := .code yX11_egg cX11_egg 3 (some .int) :: ((wsX11_egg_r1 ++ wsX11_egg_r2) ++ wsX110)
def wsX11_eater : List Cond := .code yX11_eater cX11_eater 3 (some .int) :: ([.constant RX11 200 (-1000000001), .fieldLink RX11 16 "EggThronesModel" "likesLeast" "[I", .fieldLink RX11 19 "EggThronesModel" "likesMost" "[I", .constant RX11 105 (-1000000002), .methodLink RX11 201 yX11_isEater, .instanceMethod yX11_isEater, .selects RX11 yX11_isEater yX11_isEater, .initialized RX11, .code yX11_isEater cX11_isEater 2 (some .boolean), .fieldLink RX11 100 "EggThronesModel" "eaters" "I", .methodLink RX11 96 yX11_in, .static yX11_in, .code yX11_in cX11_in 6 (some .boolean)] ++ wsX110)
def wsX11_remember : List Cond := .code yX11_remember cX11_remember 2 none :: ([.fieldLink RX11 168 "EggThronesModel" "undos" "I", .fieldLink RX11 50 "EggThronesModel" "past" "[I", .fieldLink RX11 25 "EggThronesModel" "now" "[I"] ++ wsX110)
def wsX11_pass : List Cond := .code yX11_pass cX11_pass 2 none :: ([.fieldLink RX11 93 "EggThronesModel" "eggs" "I", .fieldLink RX11 25 "EggThronesModel" "now" "[I", .fieldLink RX11 153 "EggThronesModel" "bears" "I", .methodLink RX11 184 yX11_king, .instanceMethod yX11_king, .selects RX11 yX11_king yX11_king, .initialized RX11, .code yX11_king cX11_king 2 (some .int)] ++ wsX110)
def wsX11_minutesRefused : List Cond := .code yX11_minutesRefused cX11_minutesRefused 2 (some .int) :: ([.constantLong RX11 204 (60), .constant RX11 105 (-1000000002), .fieldLink RX11 90 "EggThronesModel" "holds" "I", .constant RX11 206 (-1000000003), .fieldLink RX11 25 "EggThronesModel" "now" "[I", .constant RX11 109 (-1000000004), .methodLink RX11 96 yX11_in, .static yX11_in, .initialized RX11, .code yX11_in cX11_in 6 (some .boolean)] ++ wsX110)
def wsX11_minute_r1 : List Cond := [Cond.fieldLink RX11 25 "EggThronesModel" "now" "[I", Cond.methodLink RX11 207 yX11_minutesRefused, Cond.instanceMethod yX11_minutesRefused, Cond.selects RX11 yX11_minutesRefused yX11_minutesRefused, Cond.initialized RX11, Cond.code yX11_minutesRefused cX11_minutesRefused 2 (some .int), Cond.constantLong RX11 204 (60), Cond.constant RX11 105 (-1000000002), Cond.fieldLink RX11 90 "EggThronesModel" "holds" "I", Cond.constant RX11 206 (-1000000003), Cond.constant RX11 109 (-1000000004), Cond.methodLink RX11 96 yX11_in, Cond.static yX11_in, Cond.code yX11_in cX11_in 6 (some .boolean), Cond.methodLink RX11 210 yX11_remember, Cond.instanceMethod yX11_remember, Cond.selects RX11 yX11_remember yX11_remember, Cond.code yX11_remember cX11_remember 2 none, Cond.fieldLink RX11 168 "EggThronesModel" "undos" "I", Cond.fieldLink RX11 50 "EggThronesModel" "past" "[I", Cond.methodLink RX11 213 yX11_pass, Cond.instanceMethod yX11_pass, Cond.selects RX11 yX11_pass yX11_pass, Cond.code yX11_pass cX11_pass 2 none]
def wsX11_minute_r2 : List Cond := [Cond.fieldLink RX11 93 "EggThronesModel" "eggs" "I", Cond.fieldLink RX11 153 "EggThronesModel" "bears" "I", Cond.methodLink RX11 184 yX11_king, Cond.instanceMethod yX11_king, Cond.selects RX11 yX11_king yX11_king, Cond.code yX11_king cX11_king 2 (some .int)]
def wsX11_minute : List Cond := .code yX11_minute cX11_minute 4 (some .int) :: ((wsX11_minute_r1 ++ wsX11_minute_r2) ++ wsX110)
def wsX11_canPut : List Cond := .code yX11_canPut cX11_canPut 2 (some .boolean) :: ([.fieldLink RX11 25 "EggThronesModel" "now" "[I", .fieldLink RX11 90 "EggThronesModel" "holds" "I", .methodLink RX11 216 yX11_inPan, .instanceMethod yX11_inPan, .selects RX11 yX11_inPan yX11_inPan, .initialized RX11, .code yX11_inPan cX11_inPan 3 (some .int), .fieldLink RX11 93 "EggThronesModel" "eggs" "I"] ++ wsX110)
def wsX11_canCrown : List Cond := .code yX11_canCrown cX11_canCrown 2 (some .boolean) :: ([.fieldLink RX11 25 "EggThronesModel" "now" "[I", .methodLink RX11 184 yX11_king, .instanceMethod yX11_king, .selects RX11 yX11_king yX11_king, .initialized RX11, .code yX11_king cX11_king 2 (some .int), .fieldLink RX11 93 "EggThronesModel" "eggs" "I"] ++ wsX110)
def wsX11_crownNow : List Cond := .code yX11_crownNow cX11_crownNow 2 none :: ([.fieldLink RX11 25 "EggThronesModel" "now" "[I", .methodLink RX11 181 yX11_reign, .instanceMethod yX11_reign, .selects RX11 yX11_reign yX11_reign, .initialized RX11, .code yX11_reign cX11_reign 2 (some .int), .methodLink RX11 174 yX11_reignBy, .instanceMethod yX11_reignBy, .selects RX11 yX11_reignBy yX11_reignBy, .code yX11_reignBy cX11_reignBy 3 (some .int), .fieldLink RX11 13 "EggThronesModel" "size" "[I", .methodLink RX11 171 yX11_hardBy, .instanceMethod yX11_hardBy, .selects RX11 yX11_hardBy yX11_hardBy, .code yX11_hardBy cX11_hardBy 4 (some .int), .fieldLink RX11 7 "EggThronesModel" "age" "[I"] ++ wsX110)
def wsX11_put_r1 : List Cond := [Cond.constant RX11 200 (-1000000001), Cond.constant RX11 206 (-1000000003), Cond.fieldLink RX11 25 "EggThronesModel" "now" "[I", Cond.methodLink RX11 196 yX11_isEgg, Cond.instanceMethod yX11_isEgg, Cond.selects RX11 yX11_isEgg yX11_isEgg, Cond.initialized RX11, Cond.code yX11_isEgg cX11_isEgg 2 (some .boolean), Cond.fieldLink RX11 93 "EggThronesModel" "eggs" "I", Cond.methodLink RX11 96 yX11_in, Cond.static yX11_in, Cond.code yX11_in cX11_in 6 (some .boolean), Cond.methodLink RX11 219 yX11_canPut, Cond.instanceMethod yX11_canPut, Cond.selects RX11 yX11_canPut yX11_canPut, Cond.code yX11_canPut cX11_canPut 2 (some .boolean), Cond.fieldLink RX11 90 "EggThronesModel" "holds" "I", Cond.methodLink RX11 216 yX11_inPan, Cond.instanceMethod yX11_inPan, Cond.selects RX11 yX11_inPan yX11_inPan, Cond.code yX11_inPan cX11_inPan 3 (some .int), Cond.methodLink RX11 210 yX11_remember, Cond.instanceMethod yX11_remember, Cond.selects RX11 yX11_remember yX11_remember]
def wsX11_put_r2 : List Cond := [Cond.code yX11_remember cX11_remember 2 none, Cond.fieldLink RX11 168 "EggThronesModel" "undos" "I", Cond.fieldLink RX11 50 "EggThronesModel" "past" "[I"]
def wsX11_put : List Cond := .code yX11_put cX11_put 2 (some .int) :: ((wsX11_put_r1 ++ wsX11_put_r2) ++ wsX110)
def wsX11_takeOut_r1 : List Cond := [Cond.constant RX11 200 (-1000000001), Cond.fieldLink RX11 25 "EggThronesModel" "now" "[I", Cond.constant RX11 206 (-1000000003), Cond.methodLink RX11 196 yX11_isEgg, Cond.instanceMethod yX11_isEgg, Cond.selects RX11 yX11_isEgg yX11_isEgg, Cond.initialized RX11, Cond.code yX11_isEgg cX11_isEgg 2 (some .boolean), Cond.fieldLink RX11 93 "EggThronesModel" "eggs" "I", Cond.methodLink RX11 96 yX11_in, Cond.static yX11_in, Cond.code yX11_in cX11_in 6 (some .boolean), Cond.methodLink RX11 210 yX11_remember, Cond.instanceMethod yX11_remember, Cond.selects RX11 yX11_remember yX11_remember, Cond.code yX11_remember cX11_remember 2 none, Cond.fieldLink RX11 168 "EggThronesModel" "undos" "I", Cond.fieldLink RX11 50 "EggThronesModel" "past" "[I", Cond.methodLink RX11 177 yX11_hard, Cond.instanceMethod yX11_hard, Cond.selects RX11 yX11_hard yX11_hard, Cond.code yX11_hard cX11_hard 2 (some .int), Cond.methodLink RX11 171 yX11_hardBy, Cond.instanceMethod yX11_hardBy]
def wsX11_takeOut_r2 : List Cond := [Cond.selects RX11 yX11_hardBy yX11_hardBy, Cond.code yX11_hardBy cX11_hardBy 4 (some .int), Cond.fieldLink RX11 13 "EggThronesModel" "size" "[I", Cond.fieldLink RX11 7 "EggThronesModel" "age" "[I"]
def wsX11_takeOut : List Cond := .code yX11_takeOut cX11_takeOut 2 (some .int) :: ((wsX11_takeOut_r1 ++ wsX11_takeOut_r2) ++ wsX110)
def wsX11_crown_r1 : List Cond := [Cond.constant RX11 200 (-1000000001), Cond.constant RX11 206 (-1000000003), Cond.fieldLink RX11 25 "EggThronesModel" "now" "[I", Cond.methodLink RX11 196 yX11_isEgg, Cond.instanceMethod yX11_isEgg, Cond.selects RX11 yX11_isEgg yX11_isEgg, Cond.initialized RX11, Cond.code yX11_isEgg cX11_isEgg 2 (some .boolean), Cond.fieldLink RX11 93 "EggThronesModel" "eggs" "I", Cond.methodLink RX11 96 yX11_in, Cond.static yX11_in, Cond.code yX11_in cX11_in 6 (some .boolean), Cond.methodLink RX11 222 yX11_canCrown, Cond.instanceMethod yX11_canCrown, Cond.selects RX11 yX11_canCrown yX11_canCrown, Cond.code yX11_canCrown cX11_canCrown 2 (some .boolean), Cond.methodLink RX11 184 yX11_king, Cond.instanceMethod yX11_king, Cond.selects RX11 yX11_king yX11_king, Cond.code yX11_king cX11_king 2 (some .int), Cond.methodLink RX11 210 yX11_remember, Cond.instanceMethod yX11_remember, Cond.selects RX11 yX11_remember yX11_remember, Cond.code yX11_remember cX11_remember 2 none]
def wsX11_crown_r2 : List Cond := [Cond.fieldLink RX11 168 "EggThronesModel" "undos" "I", Cond.fieldLink RX11 50 "EggThronesModel" "past" "[I", Cond.methodLink RX11 225 yX11_crownNow, Cond.instanceMethod yX11_crownNow, Cond.selects RX11 yX11_crownNow yX11_crownNow, Cond.code yX11_crownNow cX11_crownNow 2 none, Cond.methodLink RX11 181 yX11_reign, Cond.instanceMethod yX11_reign, Cond.selects RX11 yX11_reign yX11_reign, Cond.code yX11_reign cX11_reign 2 (some .int), Cond.methodLink RX11 174 yX11_reignBy, Cond.instanceMethod yX11_reignBy, Cond.selects RX11 yX11_reignBy yX11_reignBy, Cond.code yX11_reignBy cX11_reignBy 3 (some .int), Cond.fieldLink RX11 13 "EggThronesModel" "size" "[I", Cond.methodLink RX11 171 yX11_hardBy, Cond.instanceMethod yX11_hardBy, Cond.selects RX11 yX11_hardBy yX11_hardBy, Cond.code yX11_hardBy cX11_hardBy 4 (some .int), Cond.fieldLink RX11 7 "EggThronesModel" "age" "[I"]
def wsX11_crown : List Cond := .code yX11_crown cX11_crown 2 (some .int) :: ((wsX11_crown_r1 ++ wsX11_crown_r2) ++ wsX110)
def wsX11_cutToast : List Cond := .code yX11_cutToast cX11_cutToast 2 (some .int) :: ([.constantLong RX11 229 (99), .constant RX11 105 (-1000000002), .fieldLink RX11 90 "EggThronesModel" "holds" "I", .constant RX11 206 (-1000000003), .fieldLink RX11 25 "EggThronesModel" "now" "[I", .methodLink RX11 96 yX11_in, .static yX11_in, .initialized RX11, .code yX11_in cX11_in 6 (some .boolean), .methodLink RX11 210 yX11_remember, .instanceMethod yX11_remember, .selects RX11 yX11_remember yX11_remember, .code yX11_remember cX11_remember 2 none, .fieldLink RX11 168 "EggThronesModel" "undos" "I", .fieldLink RX11 50 "EggThronesModel" "past" "[I"] ++ wsX110)
def wsX11_draw : List Cond := .code yX11_draw cX11_draw 2 (some .int) :: ([.fieldLink RX11 231 "EggThronesModel" "seed" "I", .constantLong RX11 234 (1103515245), .constantLong RX11 236 (12345), .constantLong RX11 238 (2147483648), .constant RX11 240 (65536)] ++ wsX110)
def wsX11_chance_r1 : List Cond := [Cond.fieldLink RX11 93 "EggThronesModel" "eggs" "I", Cond.fieldLink RX11 25 "EggThronesModel" "now" "[I", Cond.methodLink RX11 241 yX11_draw, Cond.instanceMethod yX11_draw, Cond.selects RX11 yX11_draw yX11_draw, Cond.initialized RX11, Cond.code yX11_draw cX11_draw 2 (some .int), Cond.fieldLink RX11 231 "EggThronesModel" "seed" "I", Cond.constantLong RX11 234 (1103515245), Cond.constantLong RX11 236 (12345), Cond.constantLong RX11 238 (2147483648), Cond.constant RX11 240 (65536), Cond.methodLink RX11 219 yX11_canPut, Cond.instanceMethod yX11_canPut, Cond.selects RX11 yX11_canPut yX11_canPut, Cond.code yX11_canPut cX11_canPut 2 (some .boolean), Cond.fieldLink RX11 90 "EggThronesModel" "holds" "I", Cond.methodLink RX11 216 yX11_inPan, Cond.instanceMethod yX11_inPan, Cond.selects RX11 yX11_inPan yX11_inPan, Cond.code yX11_inPan cX11_inPan 3 (some .int), Cond.methodLink RX11 222 yX11_canCrown, Cond.instanceMethod yX11_canCrown, Cond.selects RX11 yX11_canCrown yX11_canCrown]
def wsX11_chance_r2 : List Cond := [Cond.code yX11_canCrown cX11_canCrown 2 (some .boolean), Cond.methodLink RX11 184 yX11_king, Cond.instanceMethod yX11_king, Cond.selects RX11 yX11_king yX11_king, Cond.code yX11_king cX11_king 2 (some .int), Cond.methodLink RX11 225 yX11_crownNow, Cond.instanceMethod yX11_crownNow, Cond.selects RX11 yX11_crownNow yX11_crownNow, Cond.code yX11_crownNow cX11_crownNow 2 none, Cond.methodLink RX11 181 yX11_reign, Cond.instanceMethod yX11_reign, Cond.selects RX11 yX11_reign yX11_reign, Cond.code yX11_reign cX11_reign 2 (some .int), Cond.methodLink RX11 174 yX11_reignBy, Cond.instanceMethod yX11_reignBy, Cond.selects RX11 yX11_reignBy yX11_reignBy, Cond.code yX11_reignBy cX11_reignBy 3 (some .int), Cond.fieldLink RX11 13 "EggThronesModel" "size" "[I", Cond.methodLink RX11 171 yX11_hardBy, Cond.instanceMethod yX11_hardBy, Cond.selects RX11 yX11_hardBy yX11_hardBy, Cond.code yX11_hardBy cX11_hardBy 4 (some .int), Cond.fieldLink RX11 7 "EggThronesModel" "age" "[I"]
def wsX11_chance : List Cond := .code yX11_chance cX11_chance 3 none :: ((wsX11_chance_r1 ++ wsX11_chance_r2) ++ wsX110)
def wsX11_drift_r1 : List Cond := [Cond.fieldLink RX11 93 "EggThronesModel" "eggs" "I", Cond.fieldLink RX11 25 "EggThronesModel" "now" "[I", Cond.methodLink RX11 207 yX11_minutesRefused, Cond.instanceMethod yX11_minutesRefused, Cond.selects RX11 yX11_minutesRefused yX11_minutesRefused, Cond.initialized RX11, Cond.code yX11_minutesRefused cX11_minutesRefused 2 (some .int), Cond.constantLong RX11 204 (60), Cond.constant RX11 105 (-1000000002), Cond.fieldLink RX11 90 "EggThronesModel" "holds" "I", Cond.constant RX11 206 (-1000000003), Cond.constant RX11 109 (-1000000004), Cond.methodLink RX11 96 yX11_in, Cond.static yX11_in, Cond.code yX11_in cX11_in 6 (some .boolean), Cond.methodLink RX11 210 yX11_remember, Cond.instanceMethod yX11_remember, Cond.selects RX11 yX11_remember yX11_remember, Cond.code yX11_remember cX11_remember 2 none, Cond.fieldLink RX11 168 "EggThronesModel" "undos" "I", Cond.fieldLink RX11 50 "EggThronesModel" "past" "[I", Cond.methodLink RX11 244 yX11_chance, Cond.instanceMethod yX11_chance, Cond.selects RX11 yX11_chance yX11_chance]
def wsX11_drift_r2 : List Cond := [Cond.code yX11_chance cX11_chance 3 none, Cond.methodLink RX11 241 yX11_draw, Cond.instanceMethod yX11_draw, Cond.selects RX11 yX11_draw yX11_draw, Cond.code yX11_draw cX11_draw 2 (some .int), Cond.fieldLink RX11 231 "EggThronesModel" "seed" "I", Cond.constantLong RX11 234 (1103515245), Cond.constantLong RX11 236 (12345), Cond.constantLong RX11 238 (2147483648), Cond.constant RX11 240 (65536), Cond.methodLink RX11 219 yX11_canPut, Cond.instanceMethod yX11_canPut, Cond.selects RX11 yX11_canPut yX11_canPut, Cond.code yX11_canPut cX11_canPut 2 (some .boolean), Cond.methodLink RX11 216 yX11_inPan, Cond.instanceMethod yX11_inPan, Cond.selects RX11 yX11_inPan yX11_inPan, Cond.code yX11_inPan cX11_inPan 3 (some .int), Cond.methodLink RX11 222 yX11_canCrown, Cond.instanceMethod yX11_canCrown, Cond.selects RX11 yX11_canCrown yX11_canCrown, Cond.code yX11_canCrown cX11_canCrown 2 (some .boolean), Cond.methodLink RX11 184 yX11_king, Cond.instanceMethod yX11_king]
def wsX11_drift_r3 : List Cond := [Cond.selects RX11 yX11_king yX11_king, Cond.code yX11_king cX11_king 2 (some .int), Cond.methodLink RX11 225 yX11_crownNow, Cond.instanceMethod yX11_crownNow, Cond.selects RX11 yX11_crownNow yX11_crownNow, Cond.code yX11_crownNow cX11_crownNow 2 none, Cond.methodLink RX11 181 yX11_reign, Cond.instanceMethod yX11_reign, Cond.selects RX11 yX11_reign yX11_reign, Cond.code yX11_reign cX11_reign 2 (some .int), Cond.methodLink RX11 174 yX11_reignBy, Cond.instanceMethod yX11_reignBy, Cond.selects RX11 yX11_reignBy yX11_reignBy, Cond.code yX11_reignBy cX11_reignBy 3 (some .int), Cond.fieldLink RX11 13 "EggThronesModel" "size" "[I", Cond.methodLink RX11 171 yX11_hardBy, Cond.instanceMethod yX11_hardBy, Cond.selects RX11 yX11_hardBy yX11_hardBy, Cond.code yX11_hardBy cX11_hardBy 4 (some .int), Cond.fieldLink RX11 7 "EggThronesModel" "age" "[I", Cond.methodLink RX11 213 yX11_pass, Cond.instanceMethod yX11_pass, Cond.selects RX11 yX11_pass yX11_pass, Cond.code yX11_pass cX11_pass 2 none]
def wsX11_drift_r4 : List Cond := [Cond.fieldLink RX11 153 "EggThronesModel" "bears" "I"]
def wsX11_drift : List Cond := .code yX11_drift cX11_drift 4 (some .int) :: ((wsX11_drift_r1 ++ (wsX11_drift_r2 ++ (wsX11_drift_r3 ++ wsX11_drift_r4))) ++ wsX110)
def wsX11_undo : List Cond := .code yX11_undo cX11_undo 2 (some .int) :: ([.fieldLink RX11 168 "EggThronesModel" "undos" "I", .constant RX11 206 (-1000000003), .fieldLink RX11 25 "EggThronesModel" "now" "[I", .fieldLink RX11 50 "EggThronesModel" "past" "[I"] ++ wsX110)
def wsX11_wish : List Cond := .code yX11_wish cX11_wish 4 (some .int) :: ([.constant RX11 200 (-1000000001), .fieldLink RX11 153 "EggThronesModel" "bears" "I", .constant RX11 105 (-1000000002), .fieldLink RX11 22 "EggThronesModel" "wishes" "[I", .methodLink RX11 196 yX11_isEgg, .instanceMethod yX11_isEgg, .selects RX11 yX11_isEgg yX11_isEgg, .initialized RX11, .code yX11_isEgg cX11_isEgg 2 (some .boolean), .fieldLink RX11 93 "EggThronesModel" "eggs" "I", .methodLink RX11 96 yX11_in, .static yX11_in, .code yX11_in cX11_in 6 (some .boolean)] ++ wsX110)
def wsX11_needs : List Cond := .code yX11_needs cX11_needs 4 (some .int) :: ([.constant RX11 200 (-1000000001), .constantLong RX11 229 (99), .constant RX11 105 (-1000000002), .fieldLink RX11 153 "EggThronesModel" "bears" "I", .methodLink RX11 196 yX11_isEgg, .instanceMethod yX11_isEgg, .selects RX11 yX11_isEgg yX11_isEgg, .initialized RX11, .code yX11_isEgg cX11_isEgg 2 (some .boolean), .fieldLink RX11 93 "EggThronesModel" "eggs" "I", .methodLink RX11 96 yX11_in, .static yX11_in, .code yX11_in cX11_in 6 (some .boolean), .methodLink RX11 174 yX11_reignBy, .instanceMethod yX11_reignBy, .selects RX11 yX11_reignBy yX11_reignBy, .code yX11_reignBy cX11_reignBy 3 (some .int), .fieldLink RX11 13 "EggThronesModel" "size" "[I", .methodLink RX11 171 yX11_hardBy, .instanceMethod yX11_hardBy, .selects RX11 yX11_hardBy yX11_hardBy, .code yX11_hardBy cX11_hardBy 4 (some .int), .fieldLink RX11 7 "EggThronesModel" "age" "[I"] ++ wsX110)
def wsX11_placeBy : List Cond := .code yX11_placeBy cX11_placeBy 6 (some .int) :: ([.fieldLink RX11 59 "EggThronesModel" "loads" "[I", .fieldLink RX11 93 "EggThronesModel" "eggs" "I", .fieldLink RX11 53 "EggThronesModel" "places" "[I", .fieldLink RX11 90 "EggThronesModel" "holds" "I", .constant RX11 251 (100000), .fieldLink RX11 22 "EggThronesModel" "wishes" "[I", .methodLink RX11 247 yX11_has, .static yX11_has, .initialized RX11, .code yX11_has cX11_has 2 (some .boolean)] ++ wsX110)
def wsX11_allBoiled : List Cond := .code yX11_allBoiled cX11_allBoiled 8 (some .int) :: ([.fieldLink RX11 93 "EggThronesModel" "eggs" "I", .constant RX11 200 (-1000000001), .fieldLink RX11 90 "EggThronesModel" "holds" "I", .constant RX11 206 (-1000000003), .constant RX11 251 (100000), .fieldLink RX11 56 "EggThronesModel" "bestPlaces" "[I", .fieldLink RX11 53 "EggThronesModel" "places" "[I", .methodLink RX11 96 yX11_in, .static yX11_in, .initialized RX11, .code yX11_in cX11_in 6 (some .boolean), .methodLink RX11 196 yX11_isEgg, .instanceMethod yX11_isEgg, .selects RX11 yX11_isEgg yX11_isEgg, .code yX11_isEgg cX11_isEgg 2 (some .boolean), .methodLink RX11 252 yX11_placeBy, .instanceMethod yX11_placeBy, .selects RX11 yX11_placeBy yX11_placeBy, .code yX11_placeBy cX11_placeBy 6 (some .int), .fieldLink RX11 59 "EggThronesModel" "loads" "[I", .fieldLink RX11 22 "EggThronesModel" "wishes" "[I", .methodLink RX11 247 yX11_has, .static yX11_has, .code yX11_has cX11_has 2 (some .boolean)] ++ wsX110)
def wsX11_minutesOf : List Cond := .code yX11_minutesOf cX11_minutesOf 4 (some .int) :: ([.fieldLink RX11 93 "EggThronesModel" "eggs" "I", .methodLink RX11 247 yX11_has, .static yX11_has, .initialized RX11, .code yX11_has cX11_has 2 (some .boolean), .methodLink RX11 181 yX11_reign, .instanceMethod yX11_reign, .selects RX11 yX11_reign yX11_reign, .code yX11_reign cX11_reign 2 (some .int), .fieldLink RX11 25 "EggThronesModel" "now" "[I", .methodLink RX11 174 yX11_reignBy, .instanceMethod yX11_reignBy, .selects RX11 yX11_reignBy yX11_reignBy, .code yX11_reignBy cX11_reignBy 3 (some .int), .fieldLink RX11 13 "EggThronesModel" "size" "[I", .methodLink RX11 171 yX11_hardBy, .instanceMethod yX11_hardBy, .selects RX11 yX11_hardBy yX11_hardBy, .code yX11_hardBy cX11_hardBy 4 (some .int), .fieldLink RX11 7 "EggThronesModel" "age" "[I"] ++ wsX110)
def wsX11_bits : List Cond := .code yX11_bits cX11_bits 3 (some .int) :: ([])
def wsX11_dynastySet_r1 : List Cond := [Cond.fieldLink RX11 93 "EggThronesModel" "eggs" "I", Cond.fieldLink RX11 25 "EggThronesModel" "now" "[I", Cond.methodLink RX11 187 yX11_allThat, Cond.instanceMethod yX11_allThat, Cond.selects RX11 yX11_allThat yX11_allThat, Cond.initialized RX11, Cond.code yX11_allThat cX11_allThat 4 (some .int), Cond.methodLink RX11 255 yX11_minutesOf, Cond.instanceMethod yX11_minutesOf, Cond.selects RX11 yX11_minutesOf yX11_minutesOf, Cond.code yX11_minutesOf cX11_minutesOf 4 (some .int), Cond.methodLink RX11 247 yX11_has, Cond.static yX11_has, Cond.code yX11_has cX11_has 2 (some .boolean), Cond.methodLink RX11 181 yX11_reign, Cond.instanceMethod yX11_reign, Cond.selects RX11 yX11_reign yX11_reign, Cond.code yX11_reign cX11_reign 2 (some .int), Cond.methodLink RX11 174 yX11_reignBy, Cond.instanceMethod yX11_reignBy, Cond.selects RX11 yX11_reignBy yX11_reignBy, Cond.code yX11_reignBy cX11_reignBy 3 (some .int), Cond.fieldLink RX11 13 "EggThronesModel" "size" "[I", Cond.methodLink RX11 171 yX11_hardBy]
def wsX11_dynastySet_r2 : List Cond := [Cond.instanceMethod yX11_hardBy, Cond.selects RX11 yX11_hardBy yX11_hardBy, Cond.code yX11_hardBy cX11_hardBy 4 (some .int), Cond.fieldLink RX11 7 "EggThronesModel" "age" "[I", Cond.methodLink RX11 258 yX11_bits, Cond.static yX11_bits, Cond.code yX11_bits cX11_bits 3 (some .int)]
def wsX11_dynastySet : List Cond := .code yX11_dynastySet cX11_dynastySet 7 (some .int) :: ((wsX11_dynastySet_r1 ++ wsX11_dynastySet_r2) ++ wsX110)
def wsX11_dynasty_r1 : List Cond := [Cond.constantLong RX11 261 (2), Cond.constant RX11 105 (-1000000002), Cond.methodLink RX11 96 yX11_in, Cond.static yX11_in, Cond.initialized RX11, Cond.code yX11_in cX11_in 6 (some .boolean), Cond.methodLink RX11 263 yX11_dynastySet, Cond.instanceMethod yX11_dynastySet, Cond.selects RX11 yX11_dynastySet yX11_dynastySet, Cond.code yX11_dynastySet cX11_dynastySet 7 (some .int), Cond.fieldLink RX11 93 "EggThronesModel" "eggs" "I", Cond.fieldLink RX11 25 "EggThronesModel" "now" "[I", Cond.methodLink RX11 187 yX11_allThat, Cond.instanceMethod yX11_allThat, Cond.selects RX11 yX11_allThat yX11_allThat, Cond.code yX11_allThat cX11_allThat 4 (some .int), Cond.methodLink RX11 255 yX11_minutesOf, Cond.instanceMethod yX11_minutesOf, Cond.selects RX11 yX11_minutesOf yX11_minutesOf, Cond.code yX11_minutesOf cX11_minutesOf 4 (some .int), Cond.methodLink RX11 247 yX11_has, Cond.static yX11_has, Cond.code yX11_has cX11_has 2 (some .boolean), Cond.methodLink RX11 181 yX11_reign]
def wsX11_dynasty_r2 : List Cond := [Cond.instanceMethod yX11_reign, Cond.selects RX11 yX11_reign yX11_reign, Cond.code yX11_reign cX11_reign 2 (some .int), Cond.methodLink RX11 174 yX11_reignBy, Cond.instanceMethod yX11_reignBy, Cond.selects RX11 yX11_reignBy yX11_reignBy, Cond.code yX11_reignBy cX11_reignBy 3 (some .int), Cond.fieldLink RX11 13 "EggThronesModel" "size" "[I", Cond.methodLink RX11 171 yX11_hardBy, Cond.instanceMethod yX11_hardBy, Cond.selects RX11 yX11_hardBy yX11_hardBy, Cond.code yX11_hardBy cX11_hardBy 4 (some .int), Cond.fieldLink RX11 7 "EggThronesModel" "age" "[I", Cond.methodLink RX11 258 yX11_bits, Cond.static yX11_bits, Cond.code yX11_bits cX11_bits 3 (some .int)]
def wsX11_dynasty : List Cond := .code yX11_dynasty cX11_dynasty 3 (some .int) :: ((wsX11_dynasty_r1 ++ wsX11_dynasty_r2) ++ wsX110)
def wsX11_likes : List Cond := .code yX11_likes cX11_likes 3 (some .boolean) :: ([.fieldLink RX11 93 "EggThronesModel" "eggs" "I", .fieldLink RX11 25 "EggThronesModel" "now" "[I", .fieldLink RX11 16 "EggThronesModel" "likesLeast" "[I", .fieldLink RX11 19 "EggThronesModel" "likesMost" "[I", .methodLink RX11 177 yX11_hard, .instanceMethod yX11_hard, .selects RX11 yX11_hard yX11_hard, .initialized RX11, .code yX11_hard cX11_hard 2 (some .int), .methodLink RX11 171 yX11_hardBy, .instanceMethod yX11_hardBy, .selects RX11 yX11_hardBy yX11_hardBy, .code yX11_hardBy cX11_hardBy 4 (some .int), .fieldLink RX11 13 "EggThronesModel" "size" "[I", .fieldLink RX11 7 "EggThronesModel" "age" "[I", .methodLink RX11 96 yX11_in, .static yX11_in, .code yX11_in cX11_in 6 (some .boolean)] ++ wsX110)
def wsX11_giveBy_r1 : List Cond := [Cond.fieldLink RX11 100 "EggThronesModel" "eaters" "I", Cond.fieldLink RX11 62 "EggThronesModel" "given" "[I", Cond.methodLink RX11 266 yX11_likes, Cond.instanceMethod yX11_likes, Cond.selects RX11 yX11_likes yX11_likes, Cond.initialized RX11, Cond.code yX11_likes cX11_likes 3 (some .boolean), Cond.fieldLink RX11 93 "EggThronesModel" "eggs" "I", Cond.fieldLink RX11 25 "EggThronesModel" "now" "[I", Cond.fieldLink RX11 16 "EggThronesModel" "likesLeast" "[I", Cond.fieldLink RX11 19 "EggThronesModel" "likesMost" "[I", Cond.methodLink RX11 177 yX11_hard, Cond.instanceMethod yX11_hard, Cond.selects RX11 yX11_hard yX11_hard, Cond.code yX11_hard cX11_hard 2 (some .int), Cond.methodLink RX11 171 yX11_hardBy, Cond.instanceMethod yX11_hardBy, Cond.selects RX11 yX11_hardBy yX11_hardBy, Cond.code yX11_hardBy cX11_hardBy 4 (some .int), Cond.fieldLink RX11 13 "EggThronesModel" "size" "[I", Cond.fieldLink RX11 7 "EggThronesModel" "age" "[I", Cond.methodLink RX11 96 yX11_in, Cond.static yX11_in, Cond.code yX11_in cX11_in 6 (some .boolean)]
def wsX11_giveBy_r2 : List Cond := [Cond.methodLink RX11 247 yX11_has, Cond.static yX11_has, Cond.code yX11_has cX11_has 2 (some .boolean)]
def wsX11_giveBy : List Cond := .code yX11_giveBy cX11_giveBy 6 (some .int) :: ((wsX11_giveBy_r1 ++ wsX11_giveBy_r2) ++ wsX110)
def wsX11_liked_r1 : List Cond := [Cond.constant RX11 200 (-1000000001), Cond.fieldLink RX11 100 "EggThronesModel" "eaters" "I", Cond.fieldLink RX11 65 "EggThronesModel" "bestGiven" "[I", Cond.fieldLink RX11 62 "EggThronesModel" "given" "[I", Cond.methodLink RX11 201 yX11_isEater, Cond.instanceMethod yX11_isEater, Cond.selects RX11 yX11_isEater yX11_isEater, Cond.initialized RX11, Cond.code yX11_isEater cX11_isEater 2 (some .boolean), Cond.methodLink RX11 96 yX11_in, Cond.static yX11_in, Cond.code yX11_in cX11_in 6 (some .boolean), Cond.methodLink RX11 269 yX11_giveBy, Cond.instanceMethod yX11_giveBy, Cond.selects RX11 yX11_giveBy yX11_giveBy, Cond.code yX11_giveBy cX11_giveBy 6 (some .int), Cond.methodLink RX11 266 yX11_likes, Cond.instanceMethod yX11_likes, Cond.selects RX11 yX11_likes yX11_likes, Cond.code yX11_likes cX11_likes 3 (some .boolean), Cond.fieldLink RX11 93 "EggThronesModel" "eggs" "I", Cond.fieldLink RX11 25 "EggThronesModel" "now" "[I", Cond.fieldLink RX11 16 "EggThronesModel" "likesLeast" "[I", Cond.fieldLink RX11 19 "EggThronesModel" "likesMost" "[I"]
def wsX11_liked_r2 : List Cond := [Cond.methodLink RX11 177 yX11_hard, Cond.instanceMethod yX11_hard, Cond.selects RX11 yX11_hard yX11_hard, Cond.code yX11_hard cX11_hard 2 (some .int), Cond.methodLink RX11 171 yX11_hardBy, Cond.instanceMethod yX11_hardBy, Cond.selects RX11 yX11_hardBy yX11_hardBy, Cond.code yX11_hardBy cX11_hardBy 4 (some .int), Cond.fieldLink RX11 13 "EggThronesModel" "size" "[I", Cond.fieldLink RX11 7 "EggThronesModel" "age" "[I", Cond.methodLink RX11 247 yX11_has, Cond.static yX11_has, Cond.code yX11_has cX11_has 2 (some .boolean)]
def wsX11_liked : List Cond := .code yX11_liked cX11_liked 7 (some .int) :: ((wsX11_liked_r1 ++ wsX11_liked_r2) ++ wsX110)
def wsX11_goose : List Cond := .code yX11_goose cX11_goose 3 (some .int) :: ([.constant RX11 200 (-1000000001), .constantLong RX11 272 (999), .fieldLink RX11 100 "EggThronesModel" "eaters" "I", .constant RX11 105 (-1000000002), .methodLink RX11 201 yX11_isEater, .instanceMethod yX11_isEater, .selects RX11 yX11_isEater yX11_isEater, .initialized RX11, .code yX11_isEater cX11_isEater 2 (some .boolean), .methodLink RX11 96 yX11_in, .static yX11_in, .code yX11_in cX11_in 6 (some .boolean)] ++ wsX110)
def wsX11_whole : List Cond := .code yX11_whole cX11_whole 6 (some .int) :: ([.constantLong RX11 204 (60), .constantLong RX11 274 (100), .constant RX11 105 (-1000000002), .constantLong RX11 276 (1000000000), .methodLink RX11 96 yX11_in, .static yX11_in, .initialized RX11, .code yX11_in cX11_in 6 (some .boolean)])
def wsX11_see : List Cond := .code yX11_see cX11_see 3 (some .int) :: ([.constantLong RX11 278 (9), .constantLong RX11 280 (30), .constant RX11 105 (-1000000002), .fieldLink RX11 162 "EggThronesModel" "seen" "I", .constant RX11 109 (-1000000004), .fieldLink RX11 68 "EggThronesModel" "seenBy" "[I", .fieldLink RX11 71 "EggThronesModel" "seenIs" "[I", .methodLink RX11 96 yX11_in, .static yX11_in, .initialized RX11, .code yX11_in cX11_in 6 (some .boolean)] ++ wsX110)
def wsX11_couldBe : List Cond := .code yX11_couldBe cX11_couldBe 4 (some .boolean) :: ([.fieldLink RX11 162 "EggThronesModel" "seen" "I", .fieldLink RX11 68 "EggThronesModel" "seenBy" "[I", .fieldLink RX11 71 "EggThronesModel" "seenIs" "[I"] ++ wsX110)
def wsX11_ages : List Cond := .code yX11_ages cX11_ages 3 (some .int) :: ([.methodLink RX11 282 yX11_couldBe, .instanceMethod yX11_couldBe, .selects RX11 yX11_couldBe yX11_couldBe, .initialized RX11, .code yX11_couldBe cX11_couldBe 4 (some .boolean), .fieldLink RX11 162 "EggThronesModel" "seen" "I", .fieldLink RX11 68 "EggThronesModel" "seenBy" "[I", .fieldLink RX11 71 "EggThronesModel" "seenIs" "[I"] ++ wsX110)
def wsX11_greatestPart : List Cond := .code yX11_greatestPart cX11_greatestPart 4 (some .int) :: ([.fieldLink RX11 74 "EggThronesModel" "parts" "[I", .methodLink RX11 282 yX11_couldBe, .instanceMethod yX11_couldBe, .selects RX11 yX11_couldBe yX11_couldBe, .initialized RX11, .code yX11_couldBe cX11_couldBe 4 (some .boolean), .fieldLink RX11 162 "EggThronesModel" "seen" "I", .fieldLink RX11 68 "EggThronesModel" "seenBy" "[I", .fieldLink RX11 71 "EggThronesModel" "seenIs" "[I"] ++ wsX110)
def wsX11_testNext : List Cond := .code yX11_testNext cX11_testNext 5 (some .int) :: ([.methodLink RX11 282 yX11_couldBe, .instanceMethod yX11_couldBe, .selects RX11 yX11_couldBe yX11_couldBe, .initialized RX11, .code yX11_couldBe cX11_couldBe 4 (some .boolean), .fieldLink RX11 162 "EggThronesModel" "seen" "I", .fieldLink RX11 68 "EggThronesModel" "seenBy" "[I", .fieldLink RX11 71 "EggThronesModel" "seenIs" "[I", .methodLink RX11 285 yX11_greatestPart, .instanceMethod yX11_greatestPart, .selects RX11 yX11_greatestPart yX11_greatestPart, .code yX11_greatestPart cX11_greatestPart 4 (some .int), .fieldLink RX11 74 "EggThronesModel" "parts" "[I"] ++ wsX110)
def wsX11_write : List Cond := .code yX11_write cX11_write 3 (some .int) :: ([.constant RX11 200 (-1000000001), .constantLong RX11 288 (5), .constant RX11 105 (-1000000002), .fieldLink RX11 165 "EggThronesModel" "booked" "I", .constant RX11 109 (-1000000004), .fieldLink RX11 77 "EggThronesModel" "bookOf" "[I", .fieldLink RX11 80 "EggThronesModel" "bookIs" "[I", .methodLink RX11 196 yX11_isEgg, .instanceMethod yX11_isEgg, .selects RX11 yX11_isEgg yX11_isEgg, .initialized RX11, .code yX11_isEgg cX11_isEgg 2 (some .boolean), .fieldLink RX11 93 "EggThronesModel" "eggs" "I", .methodLink RX11 96 yX11_in, .static yX11_in, .code yX11_in cX11_in 6 (some .boolean)] ++ wsX110)
def wsX11_tear : List Cond := .code yX11_tear cX11_tear 2 (some .int) :: ([.fieldLink RX11 162 "EggThronesModel" "seen" "I", .fieldLink RX11 165 "EggThronesModel" "booked" "I"] ++ wsX110)
def wsX11_judge : List Cond := .code yX11_judge cX11_judge 2 (some .int) :: ([.fieldLink RX11 165 "EggThronesModel" "booked" "I", .fieldLink RX11 25 "EggThronesModel" "now" "[I", .fieldLink RX11 77 "EggThronesModel" "bookOf" "[I", .fieldLink RX11 80 "EggThronesModel" "bookIs" "[I"] ++ wsX110)
def wsX11_seed : List Cond := .code yX11_seed cX11_seed 3 (some .int) :: ([.constant RX11 105 (-1000000002), .fieldLink RX11 231 "EggThronesModel" "seed" "I"] ++ wsX110)
def wsX11_keep : List Cond := .code yX11_keep cX11_keep 3 (some .int) :: ([.constant RX11 200 (-1000000001), .fieldLink RX11 83 "EggThronesModel" "images" "[I", .fieldLink RX11 25 "EggThronesModel" "now" "[I", .fieldLink RX11 231 "EggThronesModel" "seed" "I", .fieldLink RX11 86 "EggThronesModel" "isKept" "[Z", .fieldLink RX11 168 "EggThronesModel" "undos" "I", .methodLink RX11 96 yX11_in, .static yX11_in, .initialized RX11, .code yX11_in cX11_in 6 (some .boolean)] ++ wsX110)
def wsX11_goBack : List Cond := .code yX11_goBack cX11_goBack 3 (some .int) :: ([.constant RX11 200 (-1000000001), .fieldLink RX11 86 "EggThronesModel" "isKept" "[Z", .constant RX11 206 (-1000000003), .fieldLink RX11 25 "EggThronesModel" "now" "[I", .fieldLink RX11 83 "EggThronesModel" "images" "[I", .fieldLink RX11 231 "EggThronesModel" "seed" "I", .fieldLink RX11 168 "EggThronesModel" "undos" "I", .methodLink RX11 96 yX11_in, .static yX11_in, .initialized RX11, .code yX11_in cX11_in 6 (some .boolean)] ++ wsX110)
def wsJ9_max_7cf53 : List Cond := .code yJ9_max_7cf53 cJ9_max_7cf53 2 (some .int) :: ([])
def wsJ9_min_7cf53 : List Cond := .code yJ9_min_7cf53 cJ9_min_7cf53 2 (some .int) :: ([])
abbrev vwCl : List vw_C := [(RX0, TX0, 6), (RX1, TX1, 3), (RX2, TX2, 3), (RX3, TX3, 3), (RX4, TX4, 9), (RX5, TX5, 3), (RX6, TX6, 1), (RX7, TX7, 3), (RX8, TX8, 10), (RX9, TX9, 5), (RX10, TX10, 13), (RX11, TX11, 40)]
end
section
theorem dX0_init_0 : decode cX0_init 0 = .ok (.aload_n 0, 1) := by decide +kernel
theorem dX0_init_1 : decode cX0_init 1 = .ok (.invokespecial 3, 3) := by decide +kernel
theorem dX0_init_4 : decode cX0_init 4 = .ok (.aload_n 0, 1) := by decide +kernel
theorem dX0_init_5 : decode cX0_init 5 = .ok (.bipush 7, 2) := by decide +kernel
theorem dX0_init_7 : decode cX0_init 7 = .ok (.newarray .int, 2) := by decide +kernel
theorem dX0_init_9 : decode cX0_init 9 = .ok (.putfield 9, 3) := by decide +kernel
theorem dX0_init_12 : decode cX0_init 12 = .ok (.aload_n 0, 1) := by decide +kernel
theorem dX0_init_13 : decode cX0_init 13 = .ok (.iconst 3, 1) := by decide +kernel
theorem dX0_init_14 : decode cX0_init 14 = .ok (.newarray .int, 2) := by decide +kernel
theorem dX0_init_16 : decode cX0_init 16 = .ok (.putfield 15, 3) := by decide +kernel
theorem dX0_init_19 : decode cX0_init 19 = .ok (.aload_n 0, 1) := by decide +kernel
theorem dX0_init_20 : decode cX0_init 20 = .ok (.bipush 7, 2) := by decide +kernel
theorem dX0_init_22 : decode cX0_init 22 = .ok (.newarray .int, 2) := by decide +kernel
theorem dX0_init_24 : decode cX0_init 24 = .ok (.putfield 18, 3) := by decide +kernel
theorem dX0_init_27 : decode cX0_init 27 = .ok (.aload_n 0, 1) := by decide +kernel
theorem dX0_init_28 : decode cX0_init 28 = .ok (.bipush 7, 2) := by decide +kernel
theorem dX0_init_30 : decode cX0_init 30 = .ok (.newarray .int, 2) := by decide +kernel
theorem dX0_init_32 : decode cX0_init 32 = .ok (.putfield 21, 3) := by decide +kernel
theorem dX0_init_35 : decode cX0_init 35 = .ok (.aload_n 0, 1) := by decide +kernel
theorem dX0_init_36 : decode cX0_init 36 = .ok (.iconst 0, 1) := by decide +kernel
theorem dX0_init_37 : decode cX0_init 37 = .ok (.putfield 24, 3) := by decide +kernel
theorem dX0_init_40 : decode cX0_init 40 = .ok (.aload_n 0, 1) := by decide +kernel
theorem dX0_init_41 : decode cX0_init 41 = .ok (.iconst 0, 1) := by decide +kernel
theorem dX0_init_42 : decode cX0_init 42 = .ok (.putfield 28, 3) := by decide +kernel
theorem dX0_init_45 : decode cX0_init 45 = .ok (.return_, 1) := by decide +kernel
theorem dX0_fewest_0 : decode cX0_fewest 0 = .ok (.aload_n 0, 1) := by decide +kernel
theorem dX0_fewest_1 : decode cX0_fewest 1 = .ok (.getfield 28, 3) := by decide +kernel
theorem dX0_fewest_4 : decode cX0_fewest 4 = .ok (.ireturn, 1) := by decide +kernel
theorem dX0_placeOf_0 : decode cX0_placeOf 0 = .ok (.iload_n 1, 1) := by decide +kernel
theorem dX0_placeOf_1 : decode cX0_placeOf 1 = .ok (.ifCond .lt 18, 3) := by decide +kernel
theorem dX0_placeOf_4 : decode cX0_placeOf 4 = .ok (.iload_n 1, 1) := by decide +kernel
theorem dX0_placeOf_5 : decode cX0_placeOf 5 = .ok (.bipush 7, 2) := by decide +kernel
theorem dX0_placeOf_7 : decode cX0_placeOf 7 = .ok (.if_icmp .ge 12, 3) := by decide +kernel
theorem dX0_placeOf_10 : decode cX0_placeOf 10 = .ok (.aload_n 0, 1) := by decide +kernel
theorem dX0_placeOf_11 : decode cX0_placeOf 11 = .ok (.getfield 21, 3) := by decide +kernel
theorem dX0_placeOf_14 : decode cX0_placeOf 14 = .ok (.iload_n 1, 1) := by decide +kernel
theorem dX0_placeOf_15 : decode cX0_placeOf 15 = .ok (.iaload, 1) := by decide +kernel
theorem dX0_placeOf_16 : decode cX0_placeOf 16 = .ok (.goto 4, 3) := by decide +kernel
theorem dX0_placeOf_19 : decode cX0_placeOf 19 = .ok (.iconst (-1), 1) := by decide +kernel
theorem dX0_placeOf_20 : decode cX0_placeOf 20 = .ok (.ireturn, 1) := by decide +kernel
set_option maxRecDepth 20000 in
theorem ggX0_tryAll_X8_wishOf : GoodIn wsX0_tryAll wsX8_wishOf := goodIn_r _ [15, 16, 17, 18, 19, 14, 20, 21, 38, 39, 40, 41, 42, 43, 44, 45, 46, 47] (by decide +kernel) (by decide +kernel)
set_option maxRecDepth 20000 in
theorem gX0_tryAll_X8_wishOf : GoodIn wsX0_tryAll (wsV RX0 41 RX8 yX8_wishOf wsX8_wishOf) := goodIn_app (goodIn_of _ (by decide +kernel)) ggX0_tryAll_X8_wishOf
set_option maxRecDepth 20000 in
theorem ggX0_tryAll_X0_tryFrom : GoodIn wsX0_tryAll wsX0_tryFrom := goodIn_r _ [25, 8, 5, 10, 7, 9, 26, 27, 28, 24, 29, 30, 31, 3, 32, 33, 34, 35, 36, 37, 22, 23, 48, 49, 50, 51, 52, 53] (by decide +kernel) (by decide +kernel)
set_option maxRecDepth 20000 in
theorem gX0_tryAll_X0_tryFrom : GoodIn wsX0_tryAll (va_wsS RX0 45 yX0_tryFrom wsX0_tryFrom) := goodIn_app (goodIn_of _ (by decide +kernel)) ggX0_tryAll_X0_tryFrom
theorem dX0_tryAll_0 : decode cX0_tryAll 0 = .ok (.aload_n 0, 1) := by decide +kernel
theorem dX0_tryAll_1 : decode cX0_tryAll 1 = .ok (.aload_n 1, 1) := by decide +kernel
theorem dX0_tryAll_2 : decode cX0_tryAll 2 = .ok (.getfield 31, 3) := by decide +kernel
theorem dX0_tryAll_5 : decode cX0_tryAll 5 = .ok (.iconst 3, 1) := by decide +kernel
theorem dX0_tryAll_6 : decode cX0_tryAll 6 = .ok (.invokestatic 34, 3) := by decide +kernel
theorem dX0_tryAll_9 : decode cX0_tryAll 9 = .ok (.putfield 24, 3) := by decide +kernel
theorem dX0_tryAll_12 : decode cX0_tryAll 12 = .ok (.aload_n 0, 1) := by decide +kernel
theorem dX0_tryAll_13 : decode cX0_tryAll 13 = .ok (.ldc 40, 2) := by decide +kernel
theorem dX0_tryAll_15 : decode cX0_tryAll 15 = .ok (.putfield 28, 3) := by decide +kernel
theorem dX0_tryAll_18 : decode cX0_tryAll 18 = .ok (.iconst 0, 1) := by decide +kernel
theorem dX0_tryAll_19 : decode cX0_tryAll 19 = .ok (.istore_n 3, 1) := by decide +kernel
theorem dX0_tryAll_20 : decode cX0_tryAll 20 = .ok (.iload_n 3, 1) := by decide +kernel
theorem dX0_tryAll_21 : decode cX0_tryAll 21 = .ok (.bipush 7, 2) := by decide +kernel
theorem dX0_tryAll_23 : decode cX0_tryAll 23 = .ok (.if_icmp .ge 40, 3) := by decide +kernel
theorem dX0_tryAll_26 : decode cX0_tryAll 26 = .ok (.aload_n 0, 1) := by decide +kernel
theorem dX0_tryAll_27 : decode cX0_tryAll 27 = .ok (.getfield 9, 3) := by decide +kernel
theorem dX0_tryAll_30 : decode cX0_tryAll 30 = .ok (.iload_n 3, 1) := by decide +kernel
theorem dX0_tryAll_31 : decode cX0_tryAll 31 = .ok (.iload_n 2, 1) := by decide +kernel
theorem dX0_tryAll_32 : decode cX0_tryAll 32 = .ok (.iload_n 3, 1) := by decide +kernel
theorem dX0_tryAll_33 : decode cX0_tryAll 33 = .ok (.ishr, 1) := by decide +kernel
theorem dX0_tryAll_34 : decode cX0_tryAll 34 = .ok (.iconst 1, 1) := by decide +kernel
theorem dX0_tryAll_35 : decode cX0_tryAll 35 = .ok (.iand, 1) := by decide +kernel
theorem dX0_tryAll_36 : decode cX0_tryAll 36 = .ok (.iconst 1, 1) := by decide +kernel
theorem dX0_tryAll_37 : decode cX0_tryAll 37 = .ok (.if_icmp .ne 11, 3) := by decide +kernel
theorem dX0_tryAll_40 : decode cX0_tryAll 40 = .ok (.aload_n 1, 1) := by decide +kernel
theorem dX0_tryAll_41 : decode cX0_tryAll 41 = .ok (.iload_n 3, 1) := by decide +kernel
theorem dX0_tryAll_42 : decode cX0_tryAll 42 = .ok (.invokevirtual 41, 3) := by decide +kernel
theorem dX0_tryAll_45 : decode cX0_tryAll 45 = .ok (.goto 4, 3) := by decide +kernel
theorem dX0_tryAll_48 : decode cX0_tryAll 48 = .ok (.iconst 0, 1) := by decide +kernel
theorem dX0_tryAll_49 : decode cX0_tryAll 49 = .ok (.iastore, 1) := by decide +kernel
theorem dX0_tryAll_50 : decode cX0_tryAll 50 = .ok (.aload_n 0, 1) := by decide +kernel
theorem dX0_tryAll_51 : decode cX0_tryAll 51 = .ok (.getfield 18, 3) := by decide +kernel
theorem dX0_tryAll_54 : decode cX0_tryAll 54 = .ok (.iload_n 3, 1) := by decide +kernel
theorem dX0_tryAll_55 : decode cX0_tryAll 55 = .ok (.iconst (-1), 1) := by decide +kernel
theorem dX0_tryAll_56 : decode cX0_tryAll 56 = .ok (.iastore, 1) := by decide +kernel
theorem dX0_tryAll_57 : decode cX0_tryAll 57 = .ok (.iinc 3 1, 3) := by decide +kernel
theorem dX0_tryAll_60 : decode cX0_tryAll 60 = .ok (.goto (-40), 3) := by decide +kernel
theorem dX0_tryAll_63 : decode cX0_tryAll 63 = .ok (.iconst 0, 1) := by decide +kernel
theorem dX0_tryAll_64 : decode cX0_tryAll 64 = .ok (.istore_n 3, 1) := by decide +kernel
theorem dX0_tryAll_65 : decode cX0_tryAll 65 = .ok (.iload_n 3, 1) := by decide +kernel
theorem dX0_tryAll_66 : decode cX0_tryAll 66 = .ok (.iconst 3, 1) := by decide +kernel
theorem dX0_tryAll_67 : decode cX0_tryAll 67 = .ok (.if_icmp .ge 16, 3) := by decide +kernel
theorem dX0_tryAll_70 : decode cX0_tryAll 70 = .ok (.aload_n 0, 1) := by decide +kernel
theorem dX0_tryAll_71 : decode cX0_tryAll 71 = .ok (.getfield 15, 3) := by decide +kernel
theorem dX0_tryAll_74 : decode cX0_tryAll 74 = .ok (.iload_n 3, 1) := by decide +kernel
theorem dX0_tryAll_75 : decode cX0_tryAll 75 = .ok (.iconst 0, 1) := by decide +kernel
theorem dX0_tryAll_76 : decode cX0_tryAll 76 = .ok (.iastore, 1) := by decide +kernel
theorem dX0_tryAll_77 : decode cX0_tryAll 77 = .ok (.iinc 3 1, 3) := by decide +kernel
theorem dX0_tryAll_80 : decode cX0_tryAll 80 = .ok (.goto (-15), 3) := by decide +kernel
theorem dX0_tryAll_83 : decode cX0_tryAll 83 = .ok (.aload_n 0, 1) := by decide +kernel
theorem dX0_tryAll_84 : decode cX0_tryAll 84 = .ok (.iconst 0, 1) := by decide +kernel
theorem dX0_tryAll_85 : decode cX0_tryAll 85 = .ok (.invokestatic 45, 3) := by decide +kernel
theorem dX0_tryAll_88 : decode cX0_tryAll 88 = .ok (.return_, 1) := by decide +kernel
set_option maxRecDepth 20000 in
theorem ggX0_tryFrom_X0_takeOver : GoodIn wsX0_tryFrom wsX0_takeOver := goodIn_r _ [10, 3, 11, 12, 13, 14, 4, 5, 15, 16, 17, 18, 19, 22, 23, 24, 25, 26, 27] (by decide +kernel) (by decide +kernel)
set_option maxRecDepth 20000 in
theorem gX0_tryFrom_X0_takeOver : GoodIn wsX0_tryFrom (wsV RX0 49 RX0 yX0_takeOver wsX0_takeOver) := goodIn_app (goodIn_of _ (by decide +kernel)) ggX0_tryFrom_X0_takeOver
set_option maxRecDepth 20000 in
theorem ggX0_tryFrom_X0_tryFrom : GoodIn wsX0_tryFrom wsX0_tryFrom := goodIn_r _ [0, 1, 2, 3, 4, 5, 6, 7, 8, 9, 10, 11, 12, 13, 14, 15, 16, 17, 18, 19, 20, 21, 22, 23, 24, 25, 26, 27] (by decide +kernel) (by decide +kernel)
set_option maxRecDepth 20000 in
theorem gX0_tryFrom_X0_tryFrom : GoodIn wsX0_tryFrom (va_wsS RX0 45 yX0_tryFrom wsX0_tryFrom) := goodIn_app (goodIn_of _ (by decide +kernel)) ggX0_tryFrom_X0_tryFrom
theorem dX0_tryFrom_0 : decode cX0_tryFrom 0 = .ok (.iload_n 1, 1) := by decide +kernel
theorem dX0_tryFrom_1 : decode cX0_tryFrom 1 = .ok (.ifCond .lt 9, 3) := by decide +kernel
theorem dX0_tryFrom_4 : decode cX0_tryFrom 4 = .ok (.iload_n 1, 1) := by decide +kernel
theorem dX0_tryFrom_5 : decode cX0_tryFrom 5 = .ok (.bipush 7, 2) := by decide +kernel
theorem dX0_tryFrom_7 : decode cX0_tryFrom 7 = .ok (.if_icmp .lt 8, 3) := by decide +kernel
theorem dX0_tryFrom_10 : decode cX0_tryFrom 10 = .ok (.aload_n 0, 1) := by decide +kernel
theorem dX0_tryFrom_11 : decode cX0_tryFrom 11 = .ok (.invokevirtual 49, 3) := by decide +kernel
theorem dX0_tryFrom_14 : decode cX0_tryFrom 14 = .ok (.return_, 1) := by decide +kernel
theorem dX0_tryFrom_15 : decode cX0_tryFrom 15 = .ok (.aload_n 0, 1) := by decide +kernel
theorem dX0_tryFrom_16 : decode cX0_tryFrom 16 = .ok (.getfield 9, 3) := by decide +kernel
theorem dX0_tryFrom_19 : decode cX0_tryFrom 19 = .ok (.iload_n 1, 1) := by decide +kernel
theorem dX0_tryFrom_20 : decode cX0_tryFrom 20 = .ok (.iaload, 1) := by decide +kernel
theorem dX0_tryFrom_21 : decode cX0_tryFrom 21 = .ok (.ifCond .ne 11, 3) := by decide +kernel
theorem dX0_tryFrom_24 : decode cX0_tryFrom 24 = .ok (.aload_n 0, 1) := by decide +kernel
theorem dX0_tryFrom_25 : decode cX0_tryFrom 25 = .ok (.iload_n 1, 1) := by decide +kernel
theorem dX0_tryFrom_26 : decode cX0_tryFrom 26 = .ok (.iconst 1, 1) := by decide +kernel
theorem dX0_tryFrom_27 : decode cX0_tryFrom 27 = .ok (.iadd, 1) := by decide +kernel
theorem dX0_tryFrom_28 : decode cX0_tryFrom 28 = .ok (.invokestatic 45, 3) := by decide +kernel
theorem dX0_tryFrom_31 : decode cX0_tryFrom 31 = .ok (.return_, 1) := by decide +kernel
theorem dX0_tryFrom_32 : decode cX0_tryFrom 32 = .ok (.iconst 0, 1) := by decide +kernel
theorem dX0_tryFrom_33 : decode cX0_tryFrom 33 = .ok (.istore_n 2, 1) := by decide +kernel
theorem dX0_tryFrom_34 : decode cX0_tryFrom 34 = .ok (.iload_n 2, 1) := by decide +kernel
theorem dX0_tryFrom_35 : decode cX0_tryFrom 35 = .ok (.aload_n 0, 1) := by decide +kernel
theorem dX0_tryFrom_36 : decode cX0_tryFrom 36 = .ok (.getfield 24, 3) := by decide +kernel
theorem dX0_tryFrom_39 : decode cX0_tryFrom 39 = .ok (.if_icmp .ge 71, 3) := by decide +kernel
theorem dX0_tryFrom_42 : decode cX0_tryFrom 42 = .ok (.iload_n 2, 1) := by decide +kernel
theorem dX0_tryFrom_43 : decode cX0_tryFrom 43 = .ok (.iconst 3, 1) := by decide +kernel
theorem dX0_tryFrom_44 : decode cX0_tryFrom 44 = .ok (.if_icmp .ge 66, 3) := by decide +kernel
theorem dX0_tryFrom_47 : decode cX0_tryFrom 47 = .ok (.aload_n 0, 1) := by decide +kernel
theorem dX0_tryFrom_48 : decode cX0_tryFrom 48 = .ok (.getfield 15, 3) := by decide +kernel
theorem dX0_tryFrom_51 : decode cX0_tryFrom 51 = .ok (.iload_n 2, 1) := by decide +kernel
theorem dX0_tryFrom_52 : decode cX0_tryFrom 52 = .ok (.iaload, 1) := by decide +kernel
theorem dX0_tryFrom_53 : decode cX0_tryFrom 53 = .ok (.istore_n 3, 1) := by decide +kernel
theorem dX0_tryFrom_54 : decode cX0_tryFrom 54 = .ok (.iload_n 3, 1) := by decide +kernel
theorem dX0_tryFrom_55 : decode cX0_tryFrom 55 = .ok (.aload_n 0, 1) := by decide +kernel
theorem dX0_tryFrom_56 : decode cX0_tryFrom 56 = .ok (.getfield 9, 3) := by decide +kernel
theorem dX0_tryFrom_59 : decode cX0_tryFrom 59 = .ok (.iload_n 1, 1) := by decide +kernel
theorem dX0_tryFrom_60 : decode cX0_tryFrom 60 = .ok (.iaload, 1) := by decide +kernel
theorem dX0_tryFrom_61 : decode cX0_tryFrom 61 = .ok (.iadd, 1) := by decide +kernel
theorem dX0_tryFrom_62 : decode cX0_tryFrom 62 = .ok (.aload_n 0, 1) := by decide +kernel
theorem dX0_tryFrom_63 : decode cX0_tryFrom 63 = .ok (.getfield 28, 3) := by decide +kernel
theorem dX0_tryFrom_66 : decode cX0_tryFrom 66 = .ok (.if_icmp .ge 38, 3) := by decide +kernel
theorem dX0_tryFrom_69 : decode cX0_tryFrom 69 = .ok (.aload_n 0, 1) := by decide +kernel
theorem dX0_tryFrom_70 : decode cX0_tryFrom 70 = .ok (.getfield 15, 3) := by decide +kernel
theorem dX0_tryFrom_73 : decode cX0_tryFrom 73 = .ok (.iload_n 2, 1) := by decide +kernel
theorem dX0_tryFrom_74 : decode cX0_tryFrom 74 = .ok (.iload_n 3, 1) := by decide +kernel
theorem dX0_tryFrom_75 : decode cX0_tryFrom 75 = .ok (.aload_n 0, 1) := by decide +kernel
theorem dX0_tryFrom_76 : decode cX0_tryFrom 76 = .ok (.getfield 9, 3) := by decide +kernel
theorem dX0_tryFrom_79 : decode cX0_tryFrom 79 = .ok (.iload_n 1, 1) := by decide +kernel
theorem dX0_tryFrom_80 : decode cX0_tryFrom 80 = .ok (.iaload, 1) := by decide +kernel
theorem dX0_tryFrom_81 : decode cX0_tryFrom 81 = .ok (.iadd, 1) := by decide +kernel
theorem dX0_tryFrom_82 : decode cX0_tryFrom 82 = .ok (.iastore, 1) := by decide +kernel
theorem dX0_tryFrom_83 : decode cX0_tryFrom 83 = .ok (.aload_n 0, 1) := by decide +kernel
theorem dX0_tryFrom_84 : decode cX0_tryFrom 84 = .ok (.getfield 18, 3) := by decide +kernel
theorem dX0_tryFrom_87 : decode cX0_tryFrom 87 = .ok (.iload_n 1, 1) := by decide +kernel
theorem dX0_tryFrom_88 : decode cX0_tryFrom 88 = .ok (.iload_n 2, 1) := by decide +kernel
theorem dX0_tryFrom_89 : decode cX0_tryFrom 89 = .ok (.iastore, 1) := by decide +kernel
theorem dX0_tryFrom_90 : decode cX0_tryFrom 90 = .ok (.aload_n 0, 1) := by decide +kernel
theorem dX0_tryFrom_91 : decode cX0_tryFrom 91 = .ok (.iload_n 1, 1) := by decide +kernel
theorem dX0_tryFrom_92 : decode cX0_tryFrom 92 = .ok (.iconst 1, 1) := by decide +kernel
theorem dX0_tryFrom_93 : decode cX0_tryFrom 93 = .ok (.iadd, 1) := by decide +kernel
theorem dX0_tryFrom_94 : decode cX0_tryFrom 94 = .ok (.invokestatic 45, 3) := by decide +kernel
theorem dX0_tryFrom_97 : decode cX0_tryFrom 97 = .ok (.aload_n 0, 1) := by decide +kernel
theorem dX0_tryFrom_98 : decode cX0_tryFrom 98 = .ok (.getfield 15, 3) := by decide +kernel
theorem dX0_tryFrom_101 : decode cX0_tryFrom 101 = .ok (.iload_n 2, 1) := by decide +kernel
theorem dX0_tryFrom_102 : decode cX0_tryFrom 102 = .ok (.iload_n 3, 1) := by decide +kernel
theorem dX0_tryFrom_103 : decode cX0_tryFrom 103 = .ok (.iastore, 1) := by decide +kernel
theorem dX0_tryFrom_104 : decode cX0_tryFrom 104 = .ok (.iinc 2 1, 3) := by decide +kernel
theorem dX0_tryFrom_107 : decode cX0_tryFrom 107 = .ok (.goto (-73), 3) := by decide +kernel
theorem dX0_tryFrom_110 : decode cX0_tryFrom 110 = .ok (.return_, 1) := by decide +kernel
theorem dX0_takeOver_0 : decode cX0_takeOver 0 = .ok (.iconst 0, 1) := by decide +kernel
theorem dX0_takeOver_1 : decode cX0_takeOver 1 = .ok (.istore_n 1, 1) := by decide +kernel
theorem dX0_takeOver_2 : decode cX0_takeOver 2 = .ok (.iconst 0, 1) := by decide +kernel
theorem dX0_takeOver_3 : decode cX0_takeOver 3 = .ok (.istore_n 2, 1) := by decide +kernel
theorem dX0_takeOver_4 : decode cX0_takeOver 4 = .ok (.iload_n 2, 1) := by decide +kernel
theorem dX0_takeOver_5 : decode cX0_takeOver 5 = .ok (.iconst 3, 1) := by decide +kernel
theorem dX0_takeOver_6 : decode cX0_takeOver 6 = .ok (.if_icmp .ge 20, 3) := by decide +kernel
theorem dX0_takeOver_9 : decode cX0_takeOver 9 = .ok (.iload_n 1, 1) := by decide +kernel
theorem dX0_takeOver_10 : decode cX0_takeOver 10 = .ok (.aload_n 0, 1) := by decide +kernel
theorem dX0_takeOver_11 : decode cX0_takeOver 11 = .ok (.getfield 15, 3) := by decide +kernel
theorem dX0_takeOver_14 : decode cX0_takeOver 14 = .ok (.iload_n 2, 1) := by decide +kernel
theorem dX0_takeOver_15 : decode cX0_takeOver 15 = .ok (.iaload, 1) := by decide +kernel
theorem dX0_takeOver_16 : decode cX0_takeOver 16 = .ok (.invokestatic 52, 3) := by decide +kernel
theorem dX0_takeOver_19 : decode cX0_takeOver 19 = .ok (.istore_n 1, 1) := by decide +kernel
theorem dX0_takeOver_20 : decode cX0_takeOver 20 = .ok (.iinc 2 1, 3) := by decide +kernel
theorem dX0_takeOver_23 : decode cX0_takeOver 23 = .ok (.goto (-19), 3) := by decide +kernel
theorem dX0_takeOver_26 : decode cX0_takeOver 26 = .ok (.iload_n 1, 1) := by decide +kernel
theorem dX0_takeOver_27 : decode cX0_takeOver 27 = .ok (.aload_n 0, 1) := by decide +kernel
theorem dX0_takeOver_28 : decode cX0_takeOver 28 = .ok (.getfield 28, 3) := by decide +kernel
theorem dX0_takeOver_31 : decode cX0_takeOver 31 = .ok (.if_icmp .ge 23, 3) := by decide +kernel
theorem dX0_takeOver_34 : decode cX0_takeOver 34 = .ok (.aload_n 0, 1) := by decide +kernel
theorem dX0_takeOver_35 : decode cX0_takeOver 35 = .ok (.iload_n 1, 1) := by decide +kernel
theorem dX0_takeOver_36 : decode cX0_takeOver 36 = .ok (.putfield 28, 3) := by decide +kernel
theorem dX0_takeOver_39 : decode cX0_takeOver 39 = .ok (.aload_n 0, 1) := by decide +kernel
theorem dX0_takeOver_40 : decode cX0_takeOver 40 = .ok (.getfield 18, 3) := by decide +kernel
theorem dX0_takeOver_43 : decode cX0_takeOver 43 = .ok (.iconst 0, 1) := by decide +kernel
theorem dX0_takeOver_44 : decode cX0_takeOver 44 = .ok (.aload_n 0, 1) := by decide +kernel
theorem dX0_takeOver_45 : decode cX0_takeOver 45 = .ok (.getfield 21, 3) := by decide +kernel
theorem dX0_takeOver_48 : decode cX0_takeOver 48 = .ok (.iconst 0, 1) := by decide +kernel
theorem dX0_takeOver_49 : decode cX0_takeOver 49 = .ok (.bipush 7, 2) := by decide +kernel
theorem dX0_takeOver_51 : decode cX0_takeOver 51 = .ok (.invokestatic 55, 3) := by decide +kernel
theorem dX0_takeOver_54 : decode cX0_takeOver 54 = .ok (.return_, 1) := by decide +kernel
theorem dX1_init_0 : decode cX1_init 0 = .ok (.aload_n 0, 1) := by decide +kernel
theorem dX1_init_1 : decode cX1_init 1 = .ok (.invokespecial 3, 3) := by decide +kernel
theorem dX1_init_4 : decode cX1_init 4 = .ok (.aload_n 0, 1) := by decide +kernel
theorem dX1_init_5 : decode cX1_init 5 = .ok (.bipush 15, 2) := by decide +kernel
theorem dX1_init_7 : decode cX1_init 7 = .ok (.newarray .int, 2) := by decide +kernel
theorem dX1_init_9 : decode cX1_init 9 = .ok (.putfield 9, 3) := by decide +kernel
theorem dX1_init_12 : decode cX1_init 12 = .ok (.aload_n 0, 1) := by decide +kernel
theorem dX1_init_13 : decode cX1_init 13 = .ok (.bipush 15, 2) := by decide +kernel
theorem dX1_init_15 : decode cX1_init 15 = .ok (.newarray .int, 2) := by decide +kernel
theorem dX1_init_17 : decode cX1_init 17 = .ok (.putfield 15, 3) := by decide +kernel
theorem dX1_init_20 : decode cX1_init 20 = .ok (.aload_n 0, 1) := by decide +kernel
theorem dX1_init_21 : decode cX1_init 21 = .ok (.iconst 0, 1) := by decide +kernel
theorem dX1_init_22 : decode cX1_init 22 = .ok (.putfield 18, 3) := by decide +kernel
theorem dX1_init_25 : decode cX1_init 25 = .ok (.return_, 1) := by decide +kernel
theorem dX1_forget_0 : decode cX1_forget 0 = .ok (.aload_n 0, 1) := by decide +kernel
theorem dX1_forget_1 : decode cX1_forget 1 = .ok (.iconst 0, 1) := by decide +kernel
theorem dX1_forget_2 : decode cX1_forget 2 = .ok (.putfield 18, 3) := by decide +kernel
theorem dX1_forget_5 : decode cX1_forget 5 = .ok (.return_, 1) := by decide +kernel
theorem dX1_add_0 : decode cX1_add 0 = .ok (.aload_n 0, 1) := by decide +kernel
theorem dX1_add_1 : decode cX1_add 1 = .ok (.getfield 18, 3) := by decide +kernel
theorem dX1_add_4 : decode cX1_add 4 = .ok (.ifCond .lt 12, 3) := by decide +kernel
theorem dX1_add_7 : decode cX1_add 7 = .ok (.aload_n 0, 1) := by decide +kernel
theorem dX1_add_8 : decode cX1_add 8 = .ok (.getfield 18, 3) := by decide +kernel
theorem dX1_add_11 : decode cX1_add 11 = .ok (.bipush 15, 2) := by decide +kernel
theorem dX1_add_13 : decode cX1_add 13 = .ok (.if_icmp .lt 5, 3) := by decide +kernel
theorem dX1_add_16 : decode cX1_add 16 = .ok (.iconst 0, 1) := by decide +kernel
theorem dX1_add_17 : decode cX1_add 17 = .ok (.ireturn, 1) := by decide +kernel
theorem dX1_add_18 : decode cX1_add 18 = .ok (.aload_n 0, 1) := by decide +kernel
theorem dX1_add_19 : decode cX1_add 19 = .ok (.getfield 9, 3) := by decide +kernel
theorem dX1_add_22 : decode cX1_add 22 = .ok (.aload_n 0, 1) := by decide +kernel
theorem dX1_add_23 : decode cX1_add 23 = .ok (.getfield 18, 3) := by decide +kernel
theorem dX1_add_26 : decode cX1_add 26 = .ok (.iload_n 1, 1) := by decide +kernel
theorem dX1_add_27 : decode cX1_add 27 = .ok (.iastore, 1) := by decide +kernel
theorem dX1_add_28 : decode cX1_add 28 = .ok (.aload_n 0, 1) := by decide +kernel
theorem dX1_add_29 : decode cX1_add 29 = .ok (.getfield 15, 3) := by decide +kernel
theorem dX1_add_32 : decode cX1_add 32 = .ok (.aload_n 0, 1) := by decide +kernel
theorem dX1_add_33 : decode cX1_add 33 = .ok (.getfield 18, 3) := by decide +kernel
theorem dX1_add_36 : decode cX1_add 36 = .ok (.iload_n 2, 1) := by decide +kernel
theorem dX1_add_37 : decode cX1_add 37 = .ok (.iastore, 1) := by decide +kernel
theorem dX1_add_38 : decode cX1_add 38 = .ok (.aload_n 0, 1) := by decide +kernel
theorem dX1_add_39 : decode cX1_add 39 = .ok (.dup, 1) := by decide +kernel
theorem dX1_add_40 : decode cX1_add 40 = .ok (.getfield 18, 3) := by decide +kernel
theorem dX1_add_43 : decode cX1_add 43 = .ok (.iconst 1, 1) := by decide +kernel
theorem dX1_add_44 : decode cX1_add 44 = .ok (.iadd, 1) := by decide +kernel
theorem dX1_add_45 : decode cX1_add 45 = .ok (.putfield 18, 3) := by decide +kernel
theorem dX1_add_48 : decode cX1_add 48 = .ok (.iconst 1, 1) := by decide +kernel
theorem dX1_add_49 : decode cX1_add 49 = .ok (.ireturn, 1) := by decide +kernel
set_option maxRecDepth 20000 in
theorem ggX1_firstWrong_X4_stateOf : GoodIn wsX1_firstWrong wsX4_stateOf := goodIn_r _ [8, 9, 10, 11, 12, 13, 14, 15, 16, 20, 21, 22, 23, 24, 25, 26, 27, 28, 29, 30, 31, 32, 33, 34, 35, 36, 37, 38] (by decide +kernel) (by decide +kernel)
set_option maxRecDepth 20000 in
theorem gX1_firstWrong_X4_stateOf : GoodIn wsX1_firstWrong (wsV RX1 22 RX4 yX4_stateOf wsX4_stateOf) := goodIn_app (goodIn_of _ (by decide +kernel)) ggX1_firstWrong_X4_stateOf
theorem dX1_firstWrong_0 : decode cX1_firstWrong 0 = .ok (.iconst 0, 1) := by decide +kernel
theorem dX1_firstWrong_1 : decode cX1_firstWrong 1 = .ok (.istore_n 2, 1) := by decide +kernel
theorem dX1_firstWrong_2 : decode cX1_firstWrong 2 = .ok (.iload_n 2, 1) := by decide +kernel
theorem dX1_firstWrong_3 : decode cX1_firstWrong 3 = .ok (.aload_n 0, 1) := by decide +kernel
theorem dX1_firstWrong_4 : decode cX1_firstWrong 4 = .ok (.getfield 18, 3) := by decide +kernel
theorem dX1_firstWrong_7 : decode cX1_firstWrong 7 = .ok (.if_icmp .ge 36, 3) := by decide +kernel
theorem dX1_firstWrong_10 : decode cX1_firstWrong 10 = .ok (.iload_n 2, 1) := by decide +kernel
theorem dX1_firstWrong_11 : decode cX1_firstWrong 11 = .ok (.bipush 15, 2) := by decide +kernel
theorem dX1_firstWrong_13 : decode cX1_firstWrong 13 = .ok (.if_icmp .ge 30, 3) := by decide +kernel
theorem dX1_firstWrong_16 : decode cX1_firstWrong 16 = .ok (.aload_n 1, 1) := by decide +kernel
theorem dX1_firstWrong_17 : decode cX1_firstWrong 17 = .ok (.aload_n 0, 1) := by decide +kernel
theorem dX1_firstWrong_18 : decode cX1_firstWrong 18 = .ok (.getfield 9, 3) := by decide +kernel
theorem dX1_firstWrong_21 : decode cX1_firstWrong 21 = .ok (.iload_n 2, 1) := by decide +kernel
theorem dX1_firstWrong_22 : decode cX1_firstWrong 22 = .ok (.iaload, 1) := by decide +kernel
theorem dX1_firstWrong_23 : decode cX1_firstWrong 23 = .ok (.invokevirtual 22, 3) := by decide +kernel
theorem dX1_firstWrong_26 : decode cX1_firstWrong 26 = .ok (.aload_n 0, 1) := by decide +kernel
theorem dX1_firstWrong_27 : decode cX1_firstWrong 27 = .ok (.getfield 15, 3) := by decide +kernel
theorem dX1_firstWrong_30 : decode cX1_firstWrong 30 = .ok (.iload_n 2, 1) := by decide +kernel
theorem dX1_firstWrong_31 : decode cX1_firstWrong 31 = .ok (.iaload, 1) := by decide +kernel
theorem dX1_firstWrong_32 : decode cX1_firstWrong 32 = .ok (.if_icmp .eq 5, 3) := by decide +kernel
theorem dX1_firstWrong_35 : decode cX1_firstWrong 35 = .ok (.iload_n 2, 1) := by decide +kernel
theorem dX1_firstWrong_36 : decode cX1_firstWrong 36 = .ok (.ireturn, 1) := by decide +kernel
theorem dX1_firstWrong_37 : decode cX1_firstWrong 37 = .ok (.iinc 2 1, 3) := by decide +kernel
theorem dX1_firstWrong_40 : decode cX1_firstWrong 40 = .ok (.goto (-38), 3) := by decide +kernel
theorem dX1_firstWrong_43 : decode cX1_firstWrong 43 = .ok (.iconst (-1), 1) := by decide +kernel
theorem dX1_firstWrong_44 : decode cX1_firstWrong 44 = .ok (.ireturn, 1) := by decide +kernel
theorem dX2_init_0 : decode cX2_init 0 = .ok (.aload_n 0, 1) := by decide +kernel
theorem dX2_init_1 : decode cX2_init 1 = .ok (.invokespecial 3, 3) := by decide +kernel
theorem dX2_init_4 : decode cX2_init 4 = .ok (.aload_n 0, 1) := by decide +kernel
theorem dX2_init_5 : decode cX2_init 5 = .ok (.bipush 6, 2) := by decide +kernel
theorem dX2_init_7 : decode cX2_init 7 = .ok (.newarray .int, 2) := by decide +kernel
theorem dX2_init_9 : decode cX2_init 9 = .ok (.putfield 9, 3) := by decide +kernel
theorem dX2_init_12 : decode cX2_init 12 = .ok (.aload_n 0, 1) := by decide +kernel
theorem dX2_init_13 : decode cX2_init 13 = .ok (.bipush 6, 2) := by decide +kernel
theorem dX2_init_15 : decode cX2_init 15 = .ok (.newarray .int, 2) := by decide +kernel
theorem dX2_init_17 : decode cX2_init 17 = .ok (.putfield 15, 3) := by decide +kernel
theorem dX2_init_20 : decode cX2_init 20 = .ok (.aload_n 0, 1) := by decide +kernel
theorem dX2_init_21 : decode cX2_init 21 = .ok (.iconst 0, 1) := by decide +kernel
theorem dX2_init_22 : decode cX2_init 22 = .ok (.putfield 18, 3) := by decide +kernel
theorem dX2_init_25 : decode cX2_init 25 = .ok (.return_, 1) := by decide +kernel
theorem dX2_forget_0 : decode cX2_forget 0 = .ok (.aload_n 0, 1) := by decide +kernel
theorem dX2_forget_1 : decode cX2_forget 1 = .ok (.iconst 0, 1) := by decide +kernel
theorem dX2_forget_2 : decode cX2_forget 2 = .ok (.putfield 18, 3) := by decide +kernel
theorem dX2_forget_5 : decode cX2_forget 5 = .ok (.return_, 1) := by decide +kernel
theorem dX2_add_0 : decode cX2_add 0 = .ok (.aload_n 0, 1) := by decide +kernel
theorem dX2_add_1 : decode cX2_add 1 = .ok (.getfield 18, 3) := by decide +kernel
theorem dX2_add_4 : decode cX2_add 4 = .ok (.ifCond .lt 12, 3) := by decide +kernel
theorem dX2_add_7 : decode cX2_add 7 = .ok (.aload_n 0, 1) := by decide +kernel
theorem dX2_add_8 : decode cX2_add 8 = .ok (.getfield 18, 3) := by decide +kernel
theorem dX2_add_11 : decode cX2_add 11 = .ok (.bipush 6, 2) := by decide +kernel
theorem dX2_add_13 : decode cX2_add 13 = .ok (.if_icmp .lt 5, 3) := by decide +kernel
theorem dX2_add_16 : decode cX2_add 16 = .ok (.iconst 0, 1) := by decide +kernel
theorem dX2_add_17 : decode cX2_add 17 = .ok (.ireturn, 1) := by decide +kernel
theorem dX2_add_18 : decode cX2_add 18 = .ok (.aload_n 0, 1) := by decide +kernel
theorem dX2_add_19 : decode cX2_add 19 = .ok (.getfield 9, 3) := by decide +kernel
theorem dX2_add_22 : decode cX2_add 22 = .ok (.aload_n 0, 1) := by decide +kernel
theorem dX2_add_23 : decode cX2_add 23 = .ok (.getfield 18, 3) := by decide +kernel
theorem dX2_add_26 : decode cX2_add 26 = .ok (.iload_n 1, 1) := by decide +kernel
theorem dX2_add_27 : decode cX2_add 27 = .ok (.iastore, 1) := by decide +kernel
theorem dX2_add_28 : decode cX2_add 28 = .ok (.aload_n 0, 1) := by decide +kernel
theorem dX2_add_29 : decode cX2_add 29 = .ok (.getfield 15, 3) := by decide +kernel
theorem dX2_add_32 : decode cX2_add 32 = .ok (.aload_n 0, 1) := by decide +kernel
theorem dX2_add_33 : decode cX2_add 33 = .ok (.getfield 18, 3) := by decide +kernel
theorem dX2_add_36 : decode cX2_add 36 = .ok (.iload_n 2, 1) := by decide +kernel
theorem dX2_add_37 : decode cX2_add 37 = .ok (.iastore, 1) := by decide +kernel
theorem dX2_add_38 : decode cX2_add 38 = .ok (.aload_n 0, 1) := by decide +kernel
theorem dX2_add_39 : decode cX2_add 39 = .ok (.dup, 1) := by decide +kernel
theorem dX2_add_40 : decode cX2_add 40 = .ok (.getfield 18, 3) := by decide +kernel
theorem dX2_add_43 : decode cX2_add 43 = .ok (.iconst 1, 1) := by decide +kernel
theorem dX2_add_44 : decode cX2_add 44 = .ok (.iadd, 1) := by decide +kernel
theorem dX2_add_45 : decode cX2_add 45 = .ok (.putfield 18, 3) := by decide +kernel
theorem dX2_add_48 : decode cX2_add 48 = .ok (.iconst 1, 1) := by decide +kernel
theorem dX2_add_49 : decode cX2_add 49 = .ok (.ireturn, 1) := by decide +kernel
set_option maxRecDepth 20000 in
theorem ggX2_fittingAges_X2_fits : GoodIn wsX2_fittingAges wsX2_fits := goodIn_r _ [5, 6, 7, 8, 9, 10, 11] (by decide +kernel) (by decide +kernel)
set_option maxRecDepth 20000 in
theorem gX2_fittingAges_X2_fits : GoodIn wsX2_fittingAges (wsV RX2 22 RX2 yX2_fits wsX2_fits) := goodIn_app (goodIn_of _ (by decide +kernel)) ggX2_fittingAges_X2_fits
theorem dX2_fittingAges_0 : decode cX2_fittingAges 0 = .ok (.iconst 0, 1) := by decide +kernel
theorem dX2_fittingAges_1 : decode cX2_fittingAges 1 = .ok (.istore_n 1, 1) := by decide +kernel
theorem dX2_fittingAges_2 : decode cX2_fittingAges 2 = .ok (.iconst 0, 1) := by decide +kernel
theorem dX2_fittingAges_3 : decode cX2_fittingAges 3 = .ok (.istore_n 2, 1) := by decide +kernel
theorem dX2_fittingAges_4 : decode cX2_fittingAges 4 = .ok (.iload_n 2, 1) := by decide +kernel
theorem dX2_fittingAges_5 : decode cX2_fittingAges 5 = .ok (.bipush 30, 2) := by decide +kernel
theorem dX2_fittingAges_7 : decode cX2_fittingAges 7 = .ok (.if_icmp .gt 27, 3) := by decide +kernel
theorem dX2_fittingAges_10 : decode cX2_fittingAges 10 = .ok (.iload_n 1, 1) := by decide +kernel
theorem dX2_fittingAges_11 : decode cX2_fittingAges 11 = .ok (.aload_n 0, 1) := by decide +kernel
theorem dX2_fittingAges_12 : decode cX2_fittingAges 12 = .ok (.iload_n 2, 1) := by decide +kernel
theorem dX2_fittingAges_13 : decode cX2_fittingAges 13 = .ok (.invokevirtual 22, 3) := by decide +kernel
theorem dX2_fittingAges_16 : decode cX2_fittingAges 16 = .ok (.ifCond .eq 9, 3) := by decide +kernel
theorem dX2_fittingAges_19 : decode cX2_fittingAges 19 = .ok (.iconst 1, 1) := by decide +kernel
theorem dX2_fittingAges_20 : decode cX2_fittingAges 20 = .ok (.iload_n 2, 1) := by decide +kernel
theorem dX2_fittingAges_21 : decode cX2_fittingAges 21 = .ok (.ishl, 1) := by decide +kernel
theorem dX2_fittingAges_22 : decode cX2_fittingAges 22 = .ok (.goto 4, 3) := by decide +kernel
theorem dX2_fittingAges_25 : decode cX2_fittingAges 25 = .ok (.iconst 0, 1) := by decide +kernel
theorem dX2_fittingAges_26 : decode cX2_fittingAges 26 = .ok (.ior, 1) := by decide +kernel
theorem dX2_fittingAges_27 : decode cX2_fittingAges 27 = .ok (.istore_n 1, 1) := by decide +kernel
theorem dX2_fittingAges_28 : decode cX2_fittingAges 28 = .ok (.iinc 2 1, 3) := by decide +kernel
theorem dX2_fittingAges_31 : decode cX2_fittingAges 31 = .ok (.goto (-27), 3) := by decide +kernel
theorem dX2_fittingAges_34 : decode cX2_fittingAges 34 = .ok (.iload_n 1, 1) := by decide +kernel
theorem dX2_fittingAges_35 : decode cX2_fittingAges 35 = .ok (.ireturn, 1) := by decide +kernel
theorem dX2_fits_0 : decode cX2_fits 0 = .ok (.iconst 0, 1) := by decide +kernel
theorem dX2_fits_1 : decode cX2_fits 1 = .ok (.istore_n 2, 1) := by decide +kernel
theorem dX2_fits_2 : decode cX2_fits 2 = .ok (.iload_n 2, 1) := by decide +kernel
theorem dX2_fits_3 : decode cX2_fits 3 = .ok (.aload_n 0, 1) := by decide +kernel
theorem dX2_fits_4 : decode cX2_fits 4 = .ok (.getfield 18, 3) := by decide +kernel
theorem dX2_fits_7 : decode cX2_fits 7 = .ok (.if_icmp .ge 43, 3) := by decide +kernel
theorem dX2_fits_10 : decode cX2_fits 10 = .ok (.iload_n 2, 1) := by decide +kernel
theorem dX2_fits_11 : decode cX2_fits 11 = .ok (.bipush 6, 2) := by decide +kernel
theorem dX2_fits_13 : decode cX2_fits 13 = .ok (.if_icmp .ge 37, 3) := by decide +kernel
theorem dX2_fits_16 : decode cX2_fits 16 = .ok (.aload_n 0, 1) := by decide +kernel
theorem dX2_fits_17 : decode cX2_fits 17 = .ok (.getfield 9, 3) := by decide +kernel
theorem dX2_fits_20 : decode cX2_fits 20 = .ok (.iload_n 2, 1) := by decide +kernel
theorem dX2_fits_21 : decode cX2_fits 21 = .ok (.iaload, 1) := by decide +kernel
theorem dX2_fits_22 : decode cX2_fits 22 = .ok (.ifCond .le 20, 3) := by decide +kernel
theorem dX2_fits_25 : decode cX2_fits 25 = .ok (.iload_n 1, 1) := by decide +kernel
theorem dX2_fits_26 : decode cX2_fits 26 = .ok (.aload_n 0, 1) := by decide +kernel
theorem dX2_fits_27 : decode cX2_fits 27 = .ok (.getfield 9, 3) := by decide +kernel
theorem dX2_fits_30 : decode cX2_fits 30 = .ok (.iload_n 2, 1) := by decide +kernel
theorem dX2_fits_31 : decode cX2_fits 31 = .ok (.iaload, 1) := by decide +kernel
theorem dX2_fits_32 : decode cX2_fits 32 = .ok (.idiv, 1) := by decide +kernel
theorem dX2_fits_33 : decode cX2_fits 33 = .ok (.aload_n 0, 1) := by decide +kernel
theorem dX2_fits_34 : decode cX2_fits 34 = .ok (.getfield 15, 3) := by decide +kernel
theorem dX2_fits_37 : decode cX2_fits 37 = .ok (.iload_n 2, 1) := by decide +kernel
theorem dX2_fits_38 : decode cX2_fits 38 = .ok (.iaload, 1) := by decide +kernel
theorem dX2_fits_39 : decode cX2_fits 39 = .ok (.if_icmp .eq 5, 3) := by decide +kernel
theorem dX2_fits_42 : decode cX2_fits 42 = .ok (.iconst 0, 1) := by decide +kernel
theorem dX2_fits_43 : decode cX2_fits 43 = .ok (.ireturn, 1) := by decide +kernel
theorem dX2_fits_44 : decode cX2_fits 44 = .ok (.iinc 2 1, 3) := by decide +kernel
theorem dX2_fits_47 : decode cX2_fits 47 = .ok (.goto (-45), 3) := by decide +kernel
theorem dX2_fits_50 : decode cX2_fits 50 = .ok (.iconst 1, 1) := by decide +kernel
theorem dX2_fits_51 : decode cX2_fits 51 = .ok (.ireturn, 1) := by decide +kernel
set_option maxRecDepth 20000 in
theorem ggX2_bestTest_X2_fittingAges : GoodIn wsX2_bestTest wsX2_fittingAges := goodIn_r _ [5, 6, 7, 8, 4, 9, 10, 11, 12, 27, 28, 29] (by decide +kernel) (by decide +kernel)
set_option maxRecDepth 20000 in
theorem gX2_bestTest_X2_fittingAges : GoodIn wsX2_bestTest (wsV RX2 26 RX2 yX2_fittingAges wsX2_fittingAges) := goodIn_app (goodIn_of _ (by decide +kernel)) ggX2_bestTest_X2_fittingAges
set_option maxRecDepth 20000 in
theorem ggX2_bestTest_J6_bitCount_0f7a4 : GoodIn wsX2_bestTest wsJ6_bitCount_0f7a4 := goodIn_r _ [16, 17, 18, 19] (by decide +kernel) (by decide +kernel)
set_option maxRecDepth 20000 in
theorem gX2_bestTest_J6_bitCount_0f7a4 : GoodIn wsX2_bestTest (va_wsS RX2 30 yJ6_bitCount_0f7a4 wsJ6_bitCount_0f7a4) := goodIn_app (goodIn_of _ (by decide +kernel)) ggX2_bestTest_J6_bitCount_0f7a4
set_option maxRecDepth 20000 in
theorem ggX2_bestTest_X2_greatestPart : GoodIn wsX2_bestTest wsX2_greatestPart := goodIn_r _ [22, 23, 24, 25, 26] (by decide +kernel) (by decide +kernel)
set_option maxRecDepth 20000 in
theorem gX2_bestTest_X2_greatestPart : GoodIn wsX2_bestTest (va_wsS RX2 36 yX2_greatestPart wsX2_greatestPart) := goodIn_app (goodIn_of _ (by decide +kernel)) ggX2_bestTest_X2_greatestPart
theorem dX2_bestTest_0 : decode cX2_bestTest 0 = .ok (.aload_n 0, 1) := by decide +kernel
theorem dX2_bestTest_1 : decode cX2_bestTest 1 = .ok (.invokevirtual 26, 3) := by decide +kernel
theorem dX2_bestTest_4 : decode cX2_bestTest 4 = .ok (.istore_n 1, 1) := by decide +kernel
theorem dX2_bestTest_5 : decode cX2_bestTest 5 = .ok (.iconst (-1), 1) := by decide +kernel
theorem dX2_bestTest_6 : decode cX2_bestTest 6 = .ok (.istore_n 2, 1) := by decide +kernel
theorem dX2_bestTest_7 : decode cX2_bestTest 7 = .ok (.iload_n 1, 1) := by decide +kernel
theorem dX2_bestTest_8 : decode cX2_bestTest 8 = .ok (.invokestatic 30, 3) := by decide +kernel
theorem dX2_bestTest_11 : decode cX2_bestTest 11 = .ok (.istore_n 3, 1) := by decide +kernel
theorem dX2_bestTest_12 : decode cX2_bestTest 12 = .ok (.iconst 1, 1) := by decide +kernel
theorem dX2_bestTest_13 : decode cX2_bestTest 13 = .ok (.istore 4, 2) := by decide +kernel
theorem dX2_bestTest_15 : decode cX2_bestTest 15 = .ok (.iload 4, 2) := by decide +kernel
theorem dX2_bestTest_17 : decode cX2_bestTest 17 = .ok (.bipush 9, 2) := by decide +kernel
theorem dX2_bestTest_19 : decode cX2_bestTest 19 = .ok (.if_icmp .gt 29, 3) := by decide +kernel
theorem dX2_bestTest_22 : decode cX2_bestTest 22 = .ok (.iload_n 1, 1) := by decide +kernel
theorem dX2_bestTest_23 : decode cX2_bestTest 23 = .ok (.iload 4, 2) := by decide +kernel
theorem dX2_bestTest_25 : decode cX2_bestTest 25 = .ok (.invokestatic 36, 3) := by decide +kernel
theorem dX2_bestTest_28 : decode cX2_bestTest 28 = .ok (.istore 5, 2) := by decide +kernel
theorem dX2_bestTest_30 : decode cX2_bestTest 30 = .ok (.iload 5, 2) := by decide +kernel
theorem dX2_bestTest_32 : decode cX2_bestTest 32 = .ok (.iload_n 3, 1) := by decide +kernel
theorem dX2_bestTest_33 : decode cX2_bestTest 33 = .ok (.if_icmp .ge 9, 3) := by decide +kernel
theorem dX2_bestTest_36 : decode cX2_bestTest 36 = .ok (.iload 5, 2) := by decide +kernel
theorem dX2_bestTest_38 : decode cX2_bestTest 38 = .ok (.istore_n 3, 1) := by decide +kernel
theorem dX2_bestTest_39 : decode cX2_bestTest 39 = .ok (.iload 4, 2) := by decide +kernel
theorem dX2_bestTest_41 : decode cX2_bestTest 41 = .ok (.istore_n 2, 1) := by decide +kernel
theorem dX2_bestTest_42 : decode cX2_bestTest 42 = .ok (.iinc 4 1, 3) := by decide +kernel
theorem dX2_bestTest_45 : decode cX2_bestTest 45 = .ok (.goto (-30), 3) := by decide +kernel
theorem dX2_bestTest_48 : decode cX2_bestTest 48 = .ok (.iload_n 2, 1) := by decide +kernel
theorem dX2_bestTest_49 : decode cX2_bestTest 49 = .ok (.ireturn, 1) := by decide +kernel
theorem dX2_greatestPart_0 : decode cX2_greatestPart 0 = .ok (.iconst 0, 1) := by decide +kernel
theorem dX2_greatestPart_1 : decode cX2_greatestPart 1 = .ok (.istore_n 2, 1) := by decide +kernel
theorem dX2_greatestPart_2 : decode cX2_greatestPart 2 = .ok (.iconst 0, 1) := by decide +kernel
theorem dX2_greatestPart_3 : decode cX2_greatestPart 3 = .ok (.istore_n 3, 1) := by decide +kernel
theorem dX2_greatestPart_4 : decode cX2_greatestPart 4 = .ok (.iconst 0, 1) := by decide +kernel
theorem dX2_greatestPart_5 : decode cX2_greatestPart 5 = .ok (.istore 4, 2) := by decide +kernel
theorem dX2_greatestPart_7 : decode cX2_greatestPart 7 = .ok (.iload 4, 2) := by decide +kernel
theorem dX2_greatestPart_9 : decode cX2_greatestPart 9 = .ok (.bipush 30, 2) := by decide +kernel
theorem dX2_greatestPart_11 : decode cX2_greatestPart 11 = .ok (.if_icmp .gt 37, 3) := by decide +kernel
theorem dX2_greatestPart_14 : decode cX2_greatestPart 14 = .ok (.iload_n 1, 1) := by decide +kernel
theorem dX2_greatestPart_15 : decode cX2_greatestPart 15 = .ok (.ifCond .le 10, 3) := by decide +kernel
theorem dX2_greatestPart_18 : decode cX2_greatestPart 18 = .ok (.iload 4, 2) := by decide +kernel
theorem dX2_greatestPart_20 : decode cX2_greatestPart 20 = .ok (.iload_n 1, 1) := by decide +kernel
theorem dX2_greatestPart_21 : decode cX2_greatestPart 21 = .ok (.irem, 1) := by decide +kernel
theorem dX2_greatestPart_22 : decode cX2_greatestPart 22 = .ok (.ifCond .ne 5, 3) := by decide +kernel
theorem dX2_greatestPart_25 : decode cX2_greatestPart 25 = .ok (.iconst 0, 1) := by decide +kernel
theorem dX2_greatestPart_26 : decode cX2_greatestPart 26 = .ok (.istore_n 3, 1) := by decide +kernel
theorem dX2_greatestPart_27 : decode cX2_greatestPart 27 = .ok (.iload_n 3, 1) := by decide +kernel
theorem dX2_greatestPart_28 : decode cX2_greatestPart 28 = .ok (.iload_n 0, 1) := by decide +kernel
theorem dX2_greatestPart_29 : decode cX2_greatestPart 29 = .ok (.iload 4, 2) := by decide +kernel
theorem dX2_greatestPart_31 : decode cX2_greatestPart 31 = .ok (.ishr, 1) := by decide +kernel
theorem dX2_greatestPart_32 : decode cX2_greatestPart 32 = .ok (.iconst 1, 1) := by decide +kernel
theorem dX2_greatestPart_33 : decode cX2_greatestPart 33 = .ok (.iand, 1) := by decide +kernel
theorem dX2_greatestPart_34 : decode cX2_greatestPart 34 = .ok (.iadd, 1) := by decide +kernel
theorem dX2_greatestPart_35 : decode cX2_greatestPart 35 = .ok (.istore_n 3, 1) := by decide +kernel
theorem dX2_greatestPart_36 : decode cX2_greatestPart 36 = .ok (.iload_n 2, 1) := by decide +kernel
theorem dX2_greatestPart_37 : decode cX2_greatestPart 37 = .ok (.iload_n 3, 1) := by decide +kernel
theorem dX2_greatestPart_38 : decode cX2_greatestPart 38 = .ok (.invokestatic 40, 3) := by decide +kernel
theorem dX2_greatestPart_41 : decode cX2_greatestPart 41 = .ok (.istore_n 2, 1) := by decide +kernel
theorem dX2_greatestPart_42 : decode cX2_greatestPart 42 = .ok (.iinc 4 1, 3) := by decide +kernel
theorem dX2_greatestPart_45 : decode cX2_greatestPart 45 = .ok (.goto (-38), 3) := by decide +kernel
theorem dX2_greatestPart_48 : decode cX2_greatestPart 48 = .ok (.iload_n 2, 1) := by decide +kernel
theorem dX2_greatestPart_49 : decode cX2_greatestPart 49 = .ok (.ireturn, 1) := by decide +kernel
theorem dX3_init_0 : decode cX3_init 0 = .ok (.aload_n 0, 1) := by decide +kernel
theorem dX3_init_1 : decode cX3_init 1 = .ok (.invokespecial 3, 3) := by decide +kernel
theorem dX3_init_4 : decode cX3_init 4 = .ok (.aload_n 0, 1) := by decide +kernel
theorem dX3_init_5 : decode cX3_init 5 = .ok (.bipush 40, 2) := by decide +kernel
theorem dX3_init_7 : decode cX3_init 7 = .ok (.newarray .int, 2) := by decide +kernel
theorem dX3_init_9 : decode cX3_init 9 = .ok (.putfield 11, 3) := by decide +kernel
theorem dX3_init_12 : decode cX3_init 12 = .ok (.aload_n 0, 1) := by decide +kernel
theorem dX3_init_13 : decode cX3_init 13 = .ok (.iconst 2, 1) := by decide +kernel
theorem dX3_init_14 : decode cX3_init 14 = .ok (.newarray .int, 2) := by decide +kernel
theorem dX3_init_16 : decode cX3_init 16 = .ok (.putfield 17, 3) := by decide +kernel
theorem dX3_init_19 : decode cX3_init 19 = .ok (.aload_n 0, 1) := by decide +kernel
theorem dX3_init_20 : decode cX3_init 20 = .ok (.iconst 2, 1) := by decide +kernel
theorem dX3_init_21 : decode cX3_init 21 = .ok (.newarray .boolean, 2) := by decide +kernel
theorem dX3_init_23 : decode cX3_init 23 = .ok (.putfield 20, 3) := by decide +kernel
theorem dX3_init_26 : decode cX3_init 26 = .ok (.return_, 1) := by decide +kernel
theorem dX3_forget_0 : decode cX3_forget 0 = .ok (.iconst 0, 1) := by decide +kernel
theorem dX3_forget_1 : decode cX3_forget 1 = .ok (.istore_n 1, 1) := by decide +kernel
theorem dX3_forget_2 : decode cX3_forget 2 = .ok (.iload_n 1, 1) := by decide +kernel
theorem dX3_forget_3 : decode cX3_forget 3 = .ok (.iconst 2, 1) := by decide +kernel
theorem dX3_forget_4 : decode cX3_forget 4 = .ok (.if_icmp .ge 16, 3) := by decide +kernel
theorem dX3_forget_7 : decode cX3_forget 7 = .ok (.aload_n 0, 1) := by decide +kernel
theorem dX3_forget_8 : decode cX3_forget 8 = .ok (.getfield 20, 3) := by decide +kernel
theorem dX3_forget_11 : decode cX3_forget 11 = .ok (.iload_n 1, 1) := by decide +kernel
theorem dX3_forget_12 : decode cX3_forget 12 = .ok (.iconst 0, 1) := by decide +kernel
theorem dX3_forget_13 : decode cX3_forget 13 = .ok (.bastore, 1) := by decide +kernel
theorem dX3_forget_14 : decode cX3_forget 14 = .ok (.iinc 1 1, 3) := by decide +kernel
theorem dX3_forget_17 : decode cX3_forget 17 = .ok (.goto (-15), 3) := by decide +kernel
theorem dX3_forget_20 : decode cX3_forget 20 = .ok (.return_, 1) := by decide +kernel
theorem dX3_has_0 : decode cX3_has 0 = .ok (.iload_n 1, 1) := by decide +kernel
theorem dX3_has_1 : decode cX3_has 1 = .ok (.ifCond .lt 21, 3) := by decide +kernel
theorem dX3_has_4 : decode cX3_has 4 = .ok (.iload_n 1, 1) := by decide +kernel
theorem dX3_has_5 : decode cX3_has 5 = .ok (.iconst 2, 1) := by decide +kernel
theorem dX3_has_6 : decode cX3_has 6 = .ok (.if_icmp .ge 16, 3) := by decide +kernel
theorem dX3_has_9 : decode cX3_has 9 = .ok (.aload_n 0, 1) := by decide +kernel
theorem dX3_has_10 : decode cX3_has 10 = .ok (.getfield 20, 3) := by decide +kernel
theorem dX3_has_13 : decode cX3_has 13 = .ok (.iload_n 1, 1) := by decide +kernel
theorem dX3_has_14 : decode cX3_has 14 = .ok (.baload, 1) := by decide +kernel
theorem dX3_has_15 : decode cX3_has 15 = .ok (.ifCond .eq 7, 3) := by decide +kernel
theorem dX3_has_18 : decode cX3_has 18 = .ok (.iconst 1, 1) := by decide +kernel
theorem dX3_has_19 : decode cX3_has 19 = .ok (.goto 4, 3) := by decide +kernel
theorem dX3_has_22 : decode cX3_has 22 = .ok (.iconst 0, 1) := by decide +kernel
theorem dX3_has_23 : decode cX3_has 23 = .ok (.ireturn, 1) := by decide +kernel
set_option maxRecDepth 20000 in
theorem ggX3_take_X4_saveTo : GoodIn wsX3_take wsX4_saveTo := goodIn_r _ [8, 9, 10, 11, 12, 13, 14, 15, 16, 17, 18, 19, 20, 21, 22, 7, 23, 27, 28, 29, 30, 31, 32, 33, 34, 35] (by decide +kernel) (by decide +kernel)
set_option maxRecDepth 20000 in
theorem gX3_take_X4_saveTo : GoodIn wsX3_take (wsV RX3 24 RX4 yX4_saveTo wsX4_saveTo) := goodIn_app (goodIn_of _ (by decide +kernel)) ggX3_take_X4_saveTo
theorem dX3_take_0 : decode cX3_take 0 = .ok (.iload_n 1, 1) := by decide +kernel
theorem dX3_take_1 : decode cX3_take 1 = .ok (.ifCond .lt 34, 3) := by decide +kernel
theorem dX3_take_4 : decode cX3_take 4 = .ok (.iload_n 1, 1) := by decide +kernel
theorem dX3_take_5 : decode cX3_take 5 = .ok (.iconst 2, 1) := by decide +kernel
theorem dX3_take_6 : decode cX3_take 6 = .ok (.if_icmp .ge 29, 3) := by decide +kernel
theorem dX3_take_9 : decode cX3_take 9 = .ok (.aload_n 2, 1) := by decide +kernel
theorem dX3_take_10 : decode cX3_take 10 = .ok (.aload_n 0, 1) := by decide +kernel
theorem dX3_take_11 : decode cX3_take 11 = .ok (.getfield 11, 3) := by decide +kernel
theorem dX3_take_14 : decode cX3_take 14 = .ok (.iload_n 1, 1) := by decide +kernel
theorem dX3_take_15 : decode cX3_take 15 = .ok (.bipush 20, 2) := by decide +kernel
theorem dX3_take_17 : decode cX3_take 17 = .ok (.imul, 1) := by decide +kernel
theorem dX3_take_18 : decode cX3_take 18 = .ok (.invokevirtual 24, 3) := by decide +kernel
theorem dX3_take_21 : decode cX3_take 21 = .ok (.aload_n 0, 1) := by decide +kernel
theorem dX3_take_22 : decode cX3_take 22 = .ok (.getfield 17, 3) := by decide +kernel
theorem dX3_take_25 : decode cX3_take 25 = .ok (.iload_n 1, 1) := by decide +kernel
theorem dX3_take_26 : decode cX3_take 26 = .ok (.iload_n 3, 1) := by decide +kernel
theorem dX3_take_27 : decode cX3_take 27 = .ok (.iastore, 1) := by decide +kernel
theorem dX3_take_28 : decode cX3_take 28 = .ok (.aload_n 0, 1) := by decide +kernel
theorem dX3_take_29 : decode cX3_take 29 = .ok (.getfield 20, 3) := by decide +kernel
theorem dX3_take_32 : decode cX3_take 32 = .ok (.iload_n 1, 1) := by decide +kernel
theorem dX3_take_33 : decode cX3_take 33 = .ok (.iconst 1, 1) := by decide +kernel
theorem dX3_take_34 : decode cX3_take 34 = .ok (.bastore, 1) := by decide +kernel
theorem dX3_take_35 : decode cX3_take 35 = .ok (.return_, 1) := by decide +kernel
set_option maxRecDepth 20000 in
theorem ggX3_show_X3_has : GoodIn wsX3_show wsX3_has := goodIn_r _ [6, 7, 28, 29, 30] (by decide +kernel) (by decide +kernel)
set_option maxRecDepth 20000 in
theorem gX3_show_X3_has : GoodIn wsX3_show (wsV RX3 28 RX3 yX3_has wsX3_has) := goodIn_app (goodIn_of _ (by decide +kernel)) ggX3_show_X3_has
set_option maxRecDepth 20000 in
theorem ggX3_show_X4_loadFrom : GoodIn wsX3_show wsX4_loadFrom := goodIn_r _ [12, 13, 14, 15, 16, 17, 18, 19, 20, 21, 22, 23, 24, 25, 26, 11, 27, 31, 32, 33, 34, 35, 36, 37, 38, 39] (by decide +kernel) (by decide +kernel)
set_option maxRecDepth 20000 in
theorem gX3_show_X4_loadFrom : GoodIn wsX3_show (wsV RX3 32 RX4 yX4_loadFrom wsX4_loadFrom) := goodIn_app (goodIn_of _ (by decide +kernel)) ggX3_show_X4_loadFrom
theorem dX3_show_0 : decode cX3_show 0 = .ok (.aload_n 0, 1) := by decide +kernel
theorem dX3_show_1 : decode cX3_show 1 = .ok (.iload_n 1, 1) := by decide +kernel
theorem dX3_show_2 : decode cX3_show 2 = .ok (.invokevirtual 28, 3) := by decide +kernel
theorem dX3_show_5 : decode cX3_show 5 = .ok (.ifCond .eq 15, 3) := by decide +kernel
theorem dX3_show_8 : decode cX3_show 8 = .ok (.aload_n 2, 1) := by decide +kernel
theorem dX3_show_9 : decode cX3_show 9 = .ok (.aload_n 0, 1) := by decide +kernel
theorem dX3_show_10 : decode cX3_show 10 = .ok (.getfield 11, 3) := by decide +kernel
theorem dX3_show_13 : decode cX3_show 13 = .ok (.iload_n 1, 1) := by decide +kernel
theorem dX3_show_14 : decode cX3_show 14 = .ok (.bipush 20, 2) := by decide +kernel
theorem dX3_show_16 : decode cX3_show 16 = .ok (.imul, 1) := by decide +kernel
theorem dX3_show_17 : decode cX3_show 17 = .ok (.invokevirtual 32, 3) := by decide +kernel
theorem dX3_show_20 : decode cX3_show 20 = .ok (.return_, 1) := by decide +kernel
set_option maxRecDepth 20000 in
theorem ggX3_seedOf_X3_has : GoodIn wsX3_seedOf wsX3_has := goodIn_r _ [6, 7, 8, 9, 10] (by decide +kernel) (by decide +kernel)
set_option maxRecDepth 20000 in
theorem gX3_seedOf_X3_has : GoodIn wsX3_seedOf (wsV RX3 28 RX3 yX3_has wsX3_has) := goodIn_app (goodIn_of _ (by decide +kernel)) ggX3_seedOf_X3_has
theorem dX3_seedOf_0 : decode cX3_seedOf 0 = .ok (.aload_n 0, 1) := by decide +kernel
theorem dX3_seedOf_1 : decode cX3_seedOf 1 = .ok (.iload_n 1, 1) := by decide +kernel
theorem dX3_seedOf_2 : decode cX3_seedOf 2 = .ok (.invokevirtual 28, 3) := by decide +kernel
theorem dX3_seedOf_5 : decode cX3_seedOf 5 = .ok (.ifCond .eq 12, 3) := by decide +kernel
theorem dX3_seedOf_8 : decode cX3_seedOf 8 = .ok (.aload_n 0, 1) := by decide +kernel
theorem dX3_seedOf_9 : decode cX3_seedOf 9 = .ok (.getfield 17, 3) := by decide +kernel
theorem dX3_seedOf_12 : decode cX3_seedOf 12 = .ok (.iload_n 1, 1) := by decide +kernel
theorem dX3_seedOf_13 : decode cX3_seedOf 13 = .ok (.iaload, 1) := by decide +kernel
theorem dX3_seedOf_14 : decode cX3_seedOf 14 = .ok (.goto 4, 3) := by decide +kernel
theorem dX3_seedOf_17 : decode cX3_seedOf 17 = .ok (.iconst 0, 1) := by decide +kernel
theorem dX3_seedOf_18 : decode cX3_seedOf 18 = .ok (.ireturn, 1) := by decide +kernel
theorem dX4_init_0 : decode cX4_init 0 = .ok (.aload_n 0, 1) := by decide +kernel
theorem dX4_init_1 : decode cX4_init 1 = .ok (.invokespecial 3, 3) := by decide +kernel
theorem dX4_init_4 : decode cX4_init 4 = .ok (.aload_n 0, 1) := by decide +kernel
theorem dX4_init_5 : decode cX4_init 5 = .ok (.aload_n 1, 1) := by decide +kernel
theorem dX4_init_6 : decode cX4_init 6 = .ok (.putfield 9, 3) := by decide +kernel
theorem dX4_init_9 : decode cX4_init 9 = .ok (.aload_n 0, 1) := by decide +kernel
theorem dX4_init_10 : decode cX4_init 10 = .ok (.bipush 7, 2) := by decide +kernel
theorem dX4_init_12 : decode cX4_init 12 = .ok (.newarray .int, 2) := by decide +kernel
theorem dX4_init_14 : decode cX4_init 14 = .ok (.putfield 15, 3) := by decide +kernel
theorem dX4_init_17 : decode cX4_init 17 = .ok (.aload_n 0, 1) := by decide +kernel
theorem dX4_init_18 : decode cX4_init 18 = .ok (.bipush 7, 2) := by decide +kernel
theorem dX4_init_20 : decode cX4_init 20 = .ok (.newarray .int, 2) := by decide +kernel
theorem dX4_init_22 : decode cX4_init 22 = .ok (.putfield 19, 3) := by decide +kernel
theorem dX4_init_25 : decode cX4_init 25 = .ok (.aload_n 0, 1) := by decide +kernel
theorem dX4_init_26 : decode cX4_init 26 = .ok (.iconst (-1), 1) := by decide +kernel
theorem dX4_init_27 : decode cX4_init 27 = .ok (.putfield 22, 3) := by decide +kernel
theorem dX4_init_30 : decode cX4_init 30 = .ok (.aload_n 0, 1) := by decide +kernel
theorem dX4_init_31 : decode cX4_init 31 = .ok (.iconst 0, 1) := by decide +kernel
theorem dX4_init_32 : decode cX4_init 32 = .ok (.putfield 26, 3) := by decide +kernel
theorem dX4_init_35 : decode cX4_init 35 = .ok (.aload_n 0, 1) := by decide +kernel
theorem dX4_init_36 : decode cX4_init 36 = .ok (.iconst 0, 1) := by decide +kernel
theorem dX4_init_37 : decode cX4_init 37 = .ok (.putfield 29, 3) := by decide +kernel
theorem dX4_init_40 : decode cX4_init 40 = .ok (.aload_n 0, 1) := by decide +kernel
theorem dX4_init_41 : decode cX4_init 41 = .ok (.iconst 0, 1) := by decide +kernel
theorem dX4_init_42 : decode cX4_init 42 = .ok (.putfield 32, 3) := by decide +kernel
theorem dX4_init_45 : decode cX4_init 45 = .ok (.aload_n 0, 1) := by decide +kernel
theorem dX4_init_46 : decode cX4_init 46 = .ok (.iconst 0, 1) := by decide +kernel
theorem dX4_init_47 : decode cX4_init 47 = .ok (.putfield 35, 3) := by decide +kernel
theorem dX4_init_50 : decode cX4_init 50 = .ok (.aload_n 0, 1) := by decide +kernel
theorem dX4_init_51 : decode cX4_init 51 = .ok (.iconst 0, 1) := by decide +kernel
theorem dX4_init_52 : decode cX4_init 52 = .ok (.putfield 38, 3) := by decide +kernel
theorem dX4_init_55 : decode cX4_init 55 = .ok (.return_, 1) := by decide +kernel
theorem dX4_begin_0 : decode cX4_begin 0 = .ok (.iconst 0, 1) := by decide +kernel
theorem dX4_begin_1 : decode cX4_begin 1 = .ok (.istore_n 1, 1) := by decide +kernel
theorem dX4_begin_2 : decode cX4_begin 2 = .ok (.iload_n 1, 1) := by decide +kernel
theorem dX4_begin_3 : decode cX4_begin 3 = .ok (.bipush 7, 2) := by decide +kernel
theorem dX4_begin_5 : decode cX4_begin 5 = .ok (.if_icmp .ge 23, 3) := by decide +kernel
theorem dX4_begin_8 : decode cX4_begin 8 = .ok (.aload_n 0, 1) := by decide +kernel
theorem dX4_begin_9 : decode cX4_begin 9 = .ok (.getfield 15, 3) := by decide +kernel
theorem dX4_begin_12 : decode cX4_begin 12 = .ok (.iload_n 1, 1) := by decide +kernel
theorem dX4_begin_13 : decode cX4_begin 13 = .ok (.iconst 0, 1) := by decide +kernel
theorem dX4_begin_14 : decode cX4_begin 14 = .ok (.iastore, 1) := by decide +kernel
theorem dX4_begin_15 : decode cX4_begin 15 = .ok (.aload_n 0, 1) := by decide +kernel
theorem dX4_begin_16 : decode cX4_begin 16 = .ok (.getfield 19, 3) := by decide +kernel
theorem dX4_begin_19 : decode cX4_begin 19 = .ok (.iload_n 1, 1) := by decide +kernel
theorem dX4_begin_20 : decode cX4_begin 20 = .ok (.iconst 0, 1) := by decide +kernel
theorem dX4_begin_21 : decode cX4_begin 21 = .ok (.iastore, 1) := by decide +kernel
theorem dX4_begin_22 : decode cX4_begin 22 = .ok (.iinc 1 1, 3) := by decide +kernel
theorem dX4_begin_25 : decode cX4_begin 25 = .ok (.goto (-23), 3) := by decide +kernel
theorem dX4_begin_28 : decode cX4_begin 28 = .ok (.aload_n 0, 1) := by decide +kernel
theorem dX4_begin_29 : decode cX4_begin 29 = .ok (.iconst (-1), 1) := by decide +kernel
theorem dX4_begin_30 : decode cX4_begin 30 = .ok (.putfield 22, 3) := by decide +kernel
theorem dX4_begin_33 : decode cX4_begin 33 = .ok (.aload_n 0, 1) := by decide +kernel
theorem dX4_begin_34 : decode cX4_begin 34 = .ok (.iconst 0, 1) := by decide +kernel
theorem dX4_begin_35 : decode cX4_begin 35 = .ok (.putfield 26, 3) := by decide +kernel
theorem dX4_begin_38 : decode cX4_begin 38 = .ok (.aload_n 0, 1) := by decide +kernel
theorem dX4_begin_39 : decode cX4_begin 39 = .ok (.aload_n 0, 1) := by decide +kernel
theorem dX4_begin_40 : decode cX4_begin 40 = .ok (.getfield 9, 3) := by decide +kernel
theorem dX4_begin_43 : decode cX4_begin 43 = .ok (.getfield 41, 3) := by decide +kernel
theorem dX4_begin_46 : decode cX4_begin 46 = .ok (.putfield 29, 3) := by decide +kernel
theorem dX4_begin_49 : decode cX4_begin 49 = .ok (.aload_n 0, 1) := by decide +kernel
theorem dX4_begin_50 : decode cX4_begin 50 = .ok (.iconst 0, 1) := by decide +kernel
theorem dX4_begin_51 : decode cX4_begin 51 = .ok (.putfield 32, 3) := by decide +kernel
theorem dX4_begin_54 : decode cX4_begin 54 = .ok (.aload_n 0, 1) := by decide +kernel
theorem dX4_begin_55 : decode cX4_begin 55 = .ok (.iconst 0, 1) := by decide +kernel
theorem dX4_begin_56 : decode cX4_begin 56 = .ok (.putfield 35, 3) := by decide +kernel
theorem dX4_begin_59 : decode cX4_begin 59 = .ok (.aload_n 0, 1) := by decide +kernel
theorem dX4_begin_60 : decode cX4_begin 60 = .ok (.iconst 0, 1) := by decide +kernel
theorem dX4_begin_61 : decode cX4_begin 61 = .ok (.putfield 38, 3) := by decide +kernel
theorem dX4_begin_64 : decode cX4_begin 64 = .ok (.return_, 1) := by decide +kernel
set_option maxRecDepth 20000 in
theorem ggX4_stateOf_X8_hasEgg : GoodIn wsX4_stateOf wsX8_hasEgg := goodIn_r _ [7, 8, 18, 19, 20, 21, 22, 23, 24, 25, 26, 27] (by decide +kernel) (by decide +kernel)
set_option maxRecDepth 20000 in
theorem gX4_stateOf_X8_hasEgg : GoodIn wsX4_stateOf (wsV RX4 46 RX8 yX8_hasEgg wsX8_hasEgg) := goodIn_app (goodIn_of _ (by decide +kernel)) ggX4_stateOf_X8_hasEgg
theorem dX4_stateOf_0 : decode cX4_stateOf 0 = .ok (.aload_n 0, 1) := by decide +kernel
theorem dX4_stateOf_1 : decode cX4_stateOf 1 = .ok (.getfield 9, 3) := by decide +kernel
theorem dX4_stateOf_4 : decode cX4_stateOf 4 = .ok (.iload_n 1, 1) := by decide +kernel
theorem dX4_stateOf_5 : decode cX4_stateOf 5 = .ok (.invokevirtual 46, 3) := by decide +kernel
theorem dX4_stateOf_8 : decode cX4_stateOf 8 = .ok (.ifCond .eq 12, 3) := by decide +kernel
theorem dX4_stateOf_11 : decode cX4_stateOf 11 = .ok (.aload_n 0, 1) := by decide +kernel
theorem dX4_stateOf_12 : decode cX4_stateOf 12 = .ok (.getfield 15, 3) := by decide +kernel
theorem dX4_stateOf_15 : decode cX4_stateOf 15 = .ok (.iload_n 1, 1) := by decide +kernel
theorem dX4_stateOf_16 : decode cX4_stateOf 16 = .ok (.iaload, 1) := by decide +kernel
theorem dX4_stateOf_17 : decode cX4_stateOf 17 = .ok (.goto 4, 3) := by decide +kernel
theorem dX4_stateOf_20 : decode cX4_stateOf 20 = .ok (.iconst (-1), 1) := by decide +kernel
theorem dX4_stateOf_21 : decode cX4_stateOf 21 = .ok (.ireturn, 1) := by decide +kernel
set_option maxRecDepth 20000 in
theorem ggX4_boiledOf_X8_hasEgg : GoodIn wsX4_boiledOf wsX8_hasEgg := goodIn_r _ [7, 8, 18, 19, 20, 21, 22, 23, 24, 25, 26, 27] (by decide +kernel) (by decide +kernel)
set_option maxRecDepth 20000 in
theorem gX4_boiledOf_X8_hasEgg : GoodIn wsX4_boiledOf (wsV RX4 46 RX8 yX8_hasEgg wsX8_hasEgg) := goodIn_app (goodIn_of _ (by decide +kernel)) ggX4_boiledOf_X8_hasEgg
theorem dX4_boiledOf_0 : decode cX4_boiledOf 0 = .ok (.aload_n 0, 1) := by decide +kernel
theorem dX4_boiledOf_1 : decode cX4_boiledOf 1 = .ok (.getfield 9, 3) := by decide +kernel
theorem dX4_boiledOf_4 : decode cX4_boiledOf 4 = .ok (.iload_n 1, 1) := by decide +kernel
theorem dX4_boiledOf_5 : decode cX4_boiledOf 5 = .ok (.invokevirtual 46, 3) := by decide +kernel
theorem dX4_boiledOf_8 : decode cX4_boiledOf 8 = .ok (.ifCond .eq 12, 3) := by decide +kernel
theorem dX4_boiledOf_11 : decode cX4_boiledOf 11 = .ok (.aload_n 0, 1) := by decide +kernel
theorem dX4_boiledOf_12 : decode cX4_boiledOf 12 = .ok (.getfield 19, 3) := by decide +kernel
theorem dX4_boiledOf_15 : decode cX4_boiledOf 15 = .ok (.iload_n 1, 1) := by decide +kernel
theorem dX4_boiledOf_16 : decode cX4_boiledOf 16 = .ok (.iaload, 1) := by decide +kernel
theorem dX4_boiledOf_17 : decode cX4_boiledOf 17 = .ok (.goto 4, 3) := by decide +kernel
theorem dX4_boiledOf_20 : decode cX4_boiledOf 20 = .ok (.iconst 0, 1) := by decide +kernel
theorem dX4_boiledOf_21 : decode cX4_boiledOf 21 = .ok (.ireturn, 1) := by decide +kernel
set_option maxRecDepth 20000 in
theorem ggX4_hardnessOf_X4_boiledOf : GoodIn wsX4_hardnessOf wsX4_boiledOf := goodIn_r _ [6, 1, 7, 8, 9, 10, 11, 12, 13, 28, 29, 30, 31, 32, 33, 34, 35, 36, 37, 38, 39, 40, 41, 42, 43, 44, 45, 46] (by decide +kernel) (by decide +kernel)
set_option maxRecDepth 20000 in
theorem gX4_hardnessOf_X4_boiledOf : GoodIn wsX4_hardnessOf (wsV RX4 50 RX4 yX4_boiledOf wsX4_boiledOf) := goodIn_app (goodIn_of _ (by decide +kernel)) ggX4_hardnessOf_X4_boiledOf
set_option maxRecDepth 20000 in
theorem ggX4_hardnessOf_X8_hardness : GoodIn wsX4_hardnessOf wsX8_hardness := goodIn_r _ [17, 18, 19, 20, 21, 22, 23, 24, 25, 26, 27, 9, 10, 11, 12, 13, 37, 38, 39, 40, 41, 42, 43, 44, 45, 46] (by decide +kernel) (by decide +kernel)
set_option maxRecDepth 20000 in
theorem gX4_hardnessOf_X8_hardness : GoodIn wsX4_hardnessOf (wsV RX4 54 RX8 yX8_hardness wsX8_hardness) := goodIn_app (goodIn_of _ (by decide +kernel)) ggX4_hardnessOf_X8_hardness
theorem dX4_hardnessOf_0 : decode cX4_hardnessOf 0 = .ok (.aload_n 0, 1) := by decide +kernel
theorem dX4_hardnessOf_1 : decode cX4_hardnessOf 1 = .ok (.getfield 9, 3) := by decide +kernel
theorem dX4_hardnessOf_4 : decode cX4_hardnessOf 4 = .ok (.iload_n 1, 1) := by decide +kernel
theorem dX4_hardnessOf_5 : decode cX4_hardnessOf 5 = .ok (.aload_n 0, 1) := by decide +kernel
theorem dX4_hardnessOf_6 : decode cX4_hardnessOf 6 = .ok (.iload_n 1, 1) := by decide +kernel
theorem dX4_hardnessOf_7 : decode cX4_hardnessOf 7 = .ok (.invokevirtual 50, 3) := by decide +kernel
theorem dX4_hardnessOf_10 : decode cX4_hardnessOf 10 = .ok (.invokevirtual 54, 3) := by decide +kernel
theorem dX4_hardnessOf_13 : decode cX4_hardnessOf 13 = .ok (.ireturn, 1) := by decide +kernel
set_option maxRecDepth 20000 in
theorem ggX4_reignOf_X4_boiledOf : GoodIn wsX4_reignOf wsX4_boiledOf := goodIn_r _ [6, 1, 7, 8, 9, 10, 11, 12, 13, 36, 37, 38, 39, 40, 41, 42, 43, 44, 45, 46, 47, 48, 49, 50, 51, 52, 53, 54] (by decide +kernel) (by decide +kernel)
set_option maxRecDepth 20000 in
theorem gX4_reignOf_X4_boiledOf : GoodIn wsX4_reignOf (wsV RX4 50 RX4 yX4_boiledOf wsX4_boiledOf) := goodIn_app (goodIn_of _ (by decide +kernel)) ggX4_reignOf_X4_boiledOf
set_option maxRecDepth 20000 in
theorem ggX4_reignOf_X8_reign : GoodIn wsX4_reignOf wsX8_reign := goodIn_r _ [17, 18, 19, 20, 11, 21, 22, 23, 24, 25, 26, 27, 28, 29, 30, 31, 9, 10, 12, 13, 32, 33, 34, 35, 45, 46, 47, 48, 49, 50, 51, 52, 53, 54] (by decide +kernel) (by decide +kernel)
set_option maxRecDepth 20000 in
theorem gX4_reignOf_X8_reign : GoodIn wsX4_reignOf (wsV RX4 58 RX8 yX8_reign wsX8_reign) := goodIn_app (goodIn_of _ (by decide +kernel)) ggX4_reignOf_X8_reign
theorem dX4_reignOf_0 : decode cX4_reignOf 0 = .ok (.aload_n 0, 1) := by decide +kernel
theorem dX4_reignOf_1 : decode cX4_reignOf 1 = .ok (.getfield 9, 3) := by decide +kernel
theorem dX4_reignOf_4 : decode cX4_reignOf 4 = .ok (.iload_n 1, 1) := by decide +kernel
theorem dX4_reignOf_5 : decode cX4_reignOf 5 = .ok (.aload_n 0, 1) := by decide +kernel
theorem dX4_reignOf_6 : decode cX4_reignOf 6 = .ok (.iload_n 1, 1) := by decide +kernel
theorem dX4_reignOf_7 : decode cX4_reignOf 7 = .ok (.invokevirtual 50, 3) := by decide +kernel
theorem dX4_reignOf_10 : decode cX4_reignOf 10 = .ok (.invokevirtual 58, 3) := by decide +kernel
theorem dX4_reignOf_13 : decode cX4_reignOf 13 = .ok (.ireturn, 1) := by decide +kernel
set_option maxRecDepth 20000 in
theorem ggX4_setThatIs_X4_stateOf : GoodIn wsX4_setThatIs wsX4_stateOf := goodIn_r _ [5, 6, 7, 8, 9, 10, 11, 12, 13, 14, 15, 16, 17, 18, 19, 20, 21, 22, 23, 24, 25, 26, 27, 28, 29, 30, 31, 32] (by decide +kernel) (by decide +kernel)
set_option maxRecDepth 20000 in
theorem gX4_setThatIs_X4_stateOf : GoodIn wsX4_setThatIs (wsV RX4 61 RX4 yX4_stateOf wsX4_stateOf) := goodIn_app (goodIn_of _ (by decide +kernel)) ggX4_setThatIs_X4_stateOf
theorem dX4_setThatIs_0 : decode cX4_setThatIs 0 = .ok (.iconst 0, 1) := by decide +kernel
theorem dX4_setThatIs_1 : decode cX4_setThatIs 1 = .ok (.istore_n 2, 1) := by decide +kernel
theorem dX4_setThatIs_2 : decode cX4_setThatIs 2 = .ok (.iconst 0, 1) := by decide +kernel
theorem dX4_setThatIs_3 : decode cX4_setThatIs 3 = .ok (.istore_n 3, 1) := by decide +kernel
theorem dX4_setThatIs_4 : decode cX4_setThatIs 4 = .ok (.iload_n 3, 1) := by decide +kernel
theorem dX4_setThatIs_5 : decode cX4_setThatIs 5 = .ok (.bipush 7, 2) := by decide +kernel
theorem dX4_setThatIs_7 : decode cX4_setThatIs 7 = .ok (.if_icmp .ge 28, 3) := by decide +kernel
theorem dX4_setThatIs_10 : decode cX4_setThatIs 10 = .ok (.iload_n 2, 1) := by decide +kernel
theorem dX4_setThatIs_11 : decode cX4_setThatIs 11 = .ok (.aload_n 0, 1) := by decide +kernel
theorem dX4_setThatIs_12 : decode cX4_setThatIs 12 = .ok (.iload_n 3, 1) := by decide +kernel
theorem dX4_setThatIs_13 : decode cX4_setThatIs 13 = .ok (.invokevirtual 61, 3) := by decide +kernel
theorem dX4_setThatIs_16 : decode cX4_setThatIs 16 = .ok (.iload_n 1, 1) := by decide +kernel
theorem dX4_setThatIs_17 : decode cX4_setThatIs 17 = .ok (.if_icmp .ne 9, 3) := by decide +kernel
theorem dX4_setThatIs_20 : decode cX4_setThatIs 20 = .ok (.iconst 1, 1) := by decide +kernel
theorem dX4_setThatIs_21 : decode cX4_setThatIs 21 = .ok (.iload_n 3, 1) := by decide +kernel
theorem dX4_setThatIs_22 : decode cX4_setThatIs 22 = .ok (.ishl, 1) := by decide +kernel
theorem dX4_setThatIs_23 : decode cX4_setThatIs 23 = .ok (.goto 4, 3) := by decide +kernel
theorem dX4_setThatIs_26 : decode cX4_setThatIs 26 = .ok (.iconst 0, 1) := by decide +kernel
theorem dX4_setThatIs_27 : decode cX4_setThatIs 27 = .ok (.ior, 1) := by decide +kernel
theorem dX4_setThatIs_28 : decode cX4_setThatIs 28 = .ok (.istore_n 2, 1) := by decide +kernel
theorem dX4_setThatIs_29 : decode cX4_setThatIs 29 = .ok (.iinc 3 1, 3) := by decide +kernel
theorem dX4_setThatIs_32 : decode cX4_setThatIs 32 = .ok (.goto (-28), 3) := by decide +kernel
theorem dX4_setThatIs_35 : decode cX4_setThatIs 35 = .ok (.iload_n 2, 1) := by decide +kernel
theorem dX4_setThatIs_36 : decode cX4_setThatIs 36 = .ok (.ireturn, 1) := by decide +kernel
set_option maxRecDepth 20000 in
theorem ggX4_howManyInPan_X4_setThatIs : GoodIn wsX4_howManyInPan wsX4_setThatIs := goodIn_r _ [5, 6, 7, 8, 4, 9, 10, 11, 12, 13, 14, 15, 16, 17, 25, 26, 27, 28, 29, 30, 31, 32, 33, 34, 35, 36, 37, 38, 39, 40, 41, 42, 43] (by decide +kernel) (by decide +kernel)
set_option maxRecDepth 20000 in
theorem gX4_howManyInPan_X4_setThatIs : GoodIn wsX4_howManyInPan (wsV RX4 64 RX4 yX4_setThatIs wsX4_setThatIs) := goodIn_app (goodIn_of _ (by decide +kernel)) ggX4_howManyInPan_X4_setThatIs
set_option maxRecDepth 20000 in
theorem ggX4_howManyInPan_J6_bitCount_0f7a4 : GoodIn wsX4_howManyInPan wsJ6_bitCount_0f7a4 := goodIn_r _ [21, 22, 23, 24] (by decide +kernel) (by decide +kernel)
set_option maxRecDepth 20000 in
theorem gX4_howManyInPan_J6_bitCount_0f7a4 : GoodIn wsX4_howManyInPan (va_wsS RX4 67 yJ6_bitCount_0f7a4 wsJ6_bitCount_0f7a4) := goodIn_app (goodIn_of _ (by decide +kernel)) ggX4_howManyInPan_J6_bitCount_0f7a4
theorem dX4_howManyInPan_0 : decode cX4_howManyInPan 0 = .ok (.aload_n 0, 1) := by decide +kernel
theorem dX4_howManyInPan_1 : decode cX4_howManyInPan 1 = .ok (.iconst 1, 1) := by decide +kernel
theorem dX4_howManyInPan_2 : decode cX4_howManyInPan 2 = .ok (.invokevirtual 64, 3) := by decide +kernel
theorem dX4_howManyInPan_5 : decode cX4_howManyInPan 5 = .ok (.invokestatic 67, 3) := by decide +kernel
theorem dX4_howManyInPan_8 : decode cX4_howManyInPan 8 = .ok (.ireturn, 1) := by decide +kernel
set_option maxRecDepth 20000 in
theorem ggX4_pretenders_X4_stateOf : GoodIn wsX4_pretenders wsX4_stateOf := goodIn_r _ [5, 6, 7, 8, 9, 10, 11, 12, 13, 37, 38, 39, 40, 41, 42, 43, 44, 45, 46, 47, 48, 49, 50, 51, 52, 53, 54, 55] (by decide +kernel) (by decide +kernel)
set_option maxRecDepth 20000 in
theorem gX4_pretenders_X4_stateOf : GoodIn wsX4_pretenders (wsV RX4 61 RX4 yX4_stateOf wsX4_stateOf) := goodIn_app (goodIn_of _ (by decide +kernel)) ggX4_pretenders_X4_stateOf
set_option maxRecDepth 20000 in
theorem ggX4_pretenders_X4_hardnessOf : GoodIn wsX4_pretenders wsX4_hardnessOf := goodIn_r _ [17, 6, 18, 19, 20, 4, 21, 22, 8, 9, 10, 11, 12, 13, 23, 24, 25, 26, 27, 28, 29, 30, 31, 32, 33, 34, 35, 36, 37, 38, 39, 40, 41, 42, 43, 44, 45, 46, 47, 48, 49, 50, 51, 52, 53, 54, 55] (by decide +kernel) (by decide +kernel)
set_option maxRecDepth 20000 in
theorem gX4_pretenders_X4_hardnessOf : GoodIn wsX4_pretenders (wsV RX4 72 RX4 yX4_hardnessOf wsX4_hardnessOf) := goodIn_app (goodIn_of _ (by decide +kernel)) ggX4_pretenders_X4_hardnessOf
theorem dX4_pretenders_0 : decode cX4_pretenders 0 = .ok (.iconst 0, 1) := by decide +kernel
theorem dX4_pretenders_1 : decode cX4_pretenders 1 = .ok (.istore_n 1, 1) := by decide +kernel
theorem dX4_pretenders_2 : decode cX4_pretenders 2 = .ok (.iconst 0, 1) := by decide +kernel
theorem dX4_pretenders_3 : decode cX4_pretenders 3 = .ok (.istore_n 2, 1) := by decide +kernel
theorem dX4_pretenders_4 : decode cX4_pretenders 4 = .ok (.iload_n 2, 1) := by decide +kernel
theorem dX4_pretenders_5 : decode cX4_pretenders 5 = .ok (.bipush 7, 2) := by decide +kernel
theorem dX4_pretenders_7 : decode cX4_pretenders 7 = .ok (.if_icmp .ge 36, 3) := by decide +kernel
theorem dX4_pretenders_10 : decode cX4_pretenders 10 = .ok (.iload_n 1, 1) := by decide +kernel
theorem dX4_pretenders_11 : decode cX4_pretenders 11 = .ok (.aload_n 0, 1) := by decide +kernel
theorem dX4_pretenders_12 : decode cX4_pretenders 12 = .ok (.iload_n 2, 1) := by decide +kernel
theorem dX4_pretenders_13 : decode cX4_pretenders 13 = .ok (.invokevirtual 61, 3) := by decide +kernel
theorem dX4_pretenders_16 : decode cX4_pretenders 16 = .ok (.iconst 2, 1) := by decide +kernel
theorem dX4_pretenders_17 : decode cX4_pretenders 17 = .ok (.if_icmp .ne 17, 3) := by decide +kernel
theorem dX4_pretenders_20 : decode cX4_pretenders 20 = .ok (.aload_n 0, 1) := by decide +kernel
theorem dX4_pretenders_21 : decode cX4_pretenders 21 = .ok (.iload_n 2, 1) := by decide +kernel
theorem dX4_pretenders_22 : decode cX4_pretenders 22 = .ok (.invokevirtual 72, 3) := by decide +kernel
theorem dX4_pretenders_25 : decode cX4_pretenders 25 = .ok (.ifCond .ne 9, 3) := by decide +kernel
theorem dX4_pretenders_28 : decode cX4_pretenders 28 = .ok (.iconst 1, 1) := by decide +kernel
theorem dX4_pretenders_29 : decode cX4_pretenders 29 = .ok (.iload_n 2, 1) := by decide +kernel
theorem dX4_pretenders_30 : decode cX4_pretenders 30 = .ok (.ishl, 1) := by decide +kernel
theorem dX4_pretenders_31 : decode cX4_pretenders 31 = .ok (.goto 4, 3) := by decide +kernel
theorem dX4_pretenders_34 : decode cX4_pretenders 34 = .ok (.iconst 0, 1) := by decide +kernel
theorem dX4_pretenders_35 : decode cX4_pretenders 35 = .ok (.ior, 1) := by decide +kernel
theorem dX4_pretenders_36 : decode cX4_pretenders 36 = .ok (.istore_n 1, 1) := by decide +kernel
theorem dX4_pretenders_37 : decode cX4_pretenders 37 = .ok (.iinc 2 1, 3) := by decide +kernel
theorem dX4_pretenders_40 : decode cX4_pretenders 40 = .ok (.goto (-36), 3) := by decide +kernel
theorem dX4_pretenders_43 : decode cX4_pretenders 43 = .ok (.iload_n 1, 1) := by decide +kernel
theorem dX4_pretenders_44 : decode cX4_pretenders 44 = .ok (.ireturn, 1) := by decide +kernel
set_option maxRecDepth 20000 in
theorem ggX4_heir_X4_stateOf : GoodIn wsX4_heir wsX4_stateOf := goodIn_r _ [5, 6, 7, 8, 9, 10, 11, 12, 13, 45, 46, 47, 48, 49, 50, 51, 52, 53, 54, 55, 56, 57, 58, 59, 60, 61, 62, 63] (by decide +kernel) (by decide +kernel)
set_option maxRecDepth 20000 in
theorem gX4_heir_X4_stateOf : GoodIn wsX4_heir (wsV RX4 61 RX4 yX4_stateOf wsX4_stateOf) := goodIn_app (goodIn_of _ (by decide +kernel)) ggX4_heir_X4_stateOf
set_option maxRecDepth 20000 in
theorem ggX4_heir_X4_reignOf : GoodIn wsX4_heir wsX4_reignOf := goodIn_r _ [17, 6, 18, 19, 20, 4, 21, 22, 8, 9, 10, 11, 12, 13, 23, 24, 25, 26, 27, 28, 29, 30, 31, 32, 33, 34, 35, 36, 37, 38, 39, 40, 41, 42, 43, 44, 45, 46, 47, 48, 49, 50, 51, 52, 53, 54, 55, 56, 57, 58, 59, 60, 61, 62, 63] (by decide +kernel) (by decide +kernel)
set_option maxRecDepth 20000 in
theorem gX4_heir_X4_reignOf : GoodIn wsX4_heir (wsV RX4 75 RX4 yX4_reignOf wsX4_reignOf) := goodIn_app (goodIn_of _ (by decide +kernel)) ggX4_heir_X4_reignOf
theorem dX4_heir_0 : decode cX4_heir 0 = .ok (.iconst (-1), 1) := by decide +kernel
theorem dX4_heir_1 : decode cX4_heir 1 = .ok (.istore_n 1, 1) := by decide +kernel
theorem dX4_heir_2 : decode cX4_heir 2 = .ok (.iconst 0, 1) := by decide +kernel
theorem dX4_heir_3 : decode cX4_heir 3 = .ok (.istore_n 2, 1) := by decide +kernel
theorem dX4_heir_4 : decode cX4_heir 4 = .ok (.iload_n 2, 1) := by decide +kernel
theorem dX4_heir_5 : decode cX4_heir 5 = .ok (.bipush 7, 2) := by decide +kernel
theorem dX4_heir_7 : decode cX4_heir 7 = .ok (.if_icmp .ge 38, 3) := by decide +kernel
theorem dX4_heir_10 : decode cX4_heir 10 = .ok (.aload_n 0, 1) := by decide +kernel
theorem dX4_heir_11 : decode cX4_heir 11 = .ok (.iload_n 2, 1) := by decide +kernel
theorem dX4_heir_12 : decode cX4_heir 12 = .ok (.invokevirtual 61, 3) := by decide +kernel
theorem dX4_heir_15 : decode cX4_heir 15 = .ok (.iconst 2, 1) := by decide +kernel
theorem dX4_heir_16 : decode cX4_heir 16 = .ok (.if_icmp .ne 23, 3) := by decide +kernel
theorem dX4_heir_19 : decode cX4_heir 19 = .ok (.iload_n 1, 1) := by decide +kernel
theorem dX4_heir_20 : decode cX4_heir 20 = .ok (.iconst (-1), 1) := by decide +kernel
theorem dX4_heir_21 : decode cX4_heir 21 = .ok (.if_icmp .eq 16, 3) := by decide +kernel
theorem dX4_heir_24 : decode cX4_heir 24 = .ok (.aload_n 0, 1) := by decide +kernel
theorem dX4_heir_25 : decode cX4_heir 25 = .ok (.iload_n 2, 1) := by decide +kernel
theorem dX4_heir_26 : decode cX4_heir 26 = .ok (.invokevirtual 75, 3) := by decide +kernel
theorem dX4_heir_29 : decode cX4_heir 29 = .ok (.aload_n 0, 1) := by decide +kernel
theorem dX4_heir_30 : decode cX4_heir 30 = .ok (.iload_n 1, 1) := by decide +kernel
theorem dX4_heir_31 : decode cX4_heir 31 = .ok (.invokevirtual 75, 3) := by decide +kernel
theorem dX4_heir_34 : decode cX4_heir 34 = .ok (.if_icmp .le 5, 3) := by decide +kernel
theorem dX4_heir_37 : decode cX4_heir 37 = .ok (.iload_n 2, 1) := by decide +kernel
theorem dX4_heir_38 : decode cX4_heir 38 = .ok (.istore_n 1, 1) := by decide +kernel
theorem dX4_heir_39 : decode cX4_heir 39 = .ok (.iinc 2 1, 3) := by decide +kernel
theorem dX4_heir_42 : decode cX4_heir 42 = .ok (.goto (-38), 3) := by decide +kernel
theorem dX4_heir_45 : decode cX4_heir 45 = .ok (.iload_n 1, 1) := by decide +kernel
theorem dX4_heir_46 : decode cX4_heir 46 = .ok (.ireturn, 1) := by decide +kernel
set_option maxRecDepth 20000 in
theorem ggX4_canGoIn_X4_stateOf : GoodIn wsX4_canGoIn wsX4_stateOf := goodIn_r _ [6, 1, 7, 8, 9, 10, 11, 12, 13, 29, 30, 31, 32, 33, 34, 35, 36, 37, 38, 39, 40, 41, 42, 43, 44, 45, 46, 47] (by decide +kernel) (by decide +kernel)
set_option maxRecDepth 20000 in
theorem gX4_canGoIn_X4_stateOf : GoodIn wsX4_canGoIn (wsV RX4 61 RX4 yX4_stateOf wsX4_stateOf) := goodIn_app (goodIn_of _ (by decide +kernel)) ggX4_canGoIn_X4_stateOf
set_option maxRecDepth 20000 in
theorem ggX4_canGoIn_X4_howManyInPan : GoodIn wsX4_canGoIn wsX4_howManyInPan := goodIn_r _ [17, 18, 19, 20, 5, 21, 2, 3, 4, 6, 1, 7, 8, 9, 10, 11, 12, 13, 22, 23, 24, 25, 26, 27, 28, 29, 30, 31, 32, 33, 34, 35, 36, 37, 38, 39, 40, 41, 42, 43, 44, 45, 46, 47] (by decide +kernel) (by decide +kernel)
set_option maxRecDepth 20000 in
theorem gX4_canGoIn_X4_howManyInPan : GoodIn wsX4_canGoIn (wsV RX4 78 RX4 yX4_howManyInPan wsX4_howManyInPan) := goodIn_app (goodIn_of _ (by decide +kernel)) ggX4_canGoIn_X4_howManyInPan
theorem dX4_canGoIn_0 : decode cX4_canGoIn 0 = .ok (.aload_n 0, 1) := by decide +kernel
theorem dX4_canGoIn_1 : decode cX4_canGoIn 1 = .ok (.iload_n 1, 1) := by decide +kernel
theorem dX4_canGoIn_2 : decode cX4_canGoIn 2 = .ok (.invokevirtual 61, 3) := by decide +kernel
theorem dX4_canGoIn_5 : decode cX4_canGoIn 5 = .ok (.istore_n 2, 1) := by decide +kernel
theorem dX4_canGoIn_6 : decode cX4_canGoIn 6 = .ok (.iload_n 2, 1) := by decide +kernel
theorem dX4_canGoIn_7 : decode cX4_canGoIn 7 = .ok (.ifCond .eq 8, 3) := by decide +kernel
theorem dX4_canGoIn_10 : decode cX4_canGoIn 10 = .ok (.iload_n 2, 1) := by decide +kernel
theorem dX4_canGoIn_11 : decode cX4_canGoIn 11 = .ok (.iconst 2, 1) := by decide +kernel
theorem dX4_canGoIn_12 : decode cX4_canGoIn 12 = .ok (.if_icmp .ne 21, 3) := by decide +kernel
theorem dX4_canGoIn_15 : decode cX4_canGoIn 15 = .ok (.aload_n 0, 1) := by decide +kernel
theorem dX4_canGoIn_16 : decode cX4_canGoIn 16 = .ok (.invokevirtual 78, 3) := by decide +kernel
theorem dX4_canGoIn_19 : decode cX4_canGoIn 19 = .ok (.aload_n 0, 1) := by decide +kernel
theorem dX4_canGoIn_20 : decode cX4_canGoIn 20 = .ok (.getfield 9, 3) := by decide +kernel
theorem dX4_canGoIn_23 : decode cX4_canGoIn 23 = .ok (.getfield 82, 3) := by decide +kernel
theorem dX4_canGoIn_26 : decode cX4_canGoIn 26 = .ok (.if_icmp .ge 7, 3) := by decide +kernel
theorem dX4_canGoIn_29 : decode cX4_canGoIn 29 = .ok (.iconst 1, 1) := by decide +kernel
theorem dX4_canGoIn_30 : decode cX4_canGoIn 30 = .ok (.goto 4, 3) := by decide +kernel
theorem dX4_canGoIn_33 : decode cX4_canGoIn 33 = .ok (.iconst 0, 1) := by decide +kernel
theorem dX4_canGoIn_34 : decode cX4_canGoIn 34 = .ok (.ireturn, 1) := by decide +kernel
set_option maxRecDepth 20000 in
theorem ggX4_goIn_X4_setState : GoodIn wsX4_goIn wsX4_setState := goodIn_r _ [5, 6, 7, 8, 9, 10, 11, 12, 13, 14, 15, 16, 17, 18, 19, 20, 21, 22, 23, 24, 25, 26, 27, 28, 29, 30, 31, 32] (by decide +kernel) (by decide +kernel)
set_option maxRecDepth 20000 in
theorem gX4_goIn_X4_setState : GoodIn wsX4_goIn (wsV RX4 85 RX4 yX4_setState wsX4_setState) := goodIn_app (goodIn_of _ (by decide +kernel)) ggX4_goIn_X4_setState
theorem dX4_goIn_0 : decode cX4_goIn 0 = .ok (.aload_n 0, 1) := by decide +kernel
theorem dX4_goIn_1 : decode cX4_goIn 1 = .ok (.iload_n 1, 1) := by decide +kernel
theorem dX4_goIn_2 : decode cX4_goIn 2 = .ok (.iconst 1, 1) := by decide +kernel
theorem dX4_goIn_3 : decode cX4_goIn 3 = .ok (.invokevirtual 85, 3) := by decide +kernel
theorem dX4_goIn_6 : decode cX4_goIn 6 = .ok (.return_, 1) := by decide +kernel
set_option maxRecDepth 20000 in
theorem ggX4_canComeOut_X4_stateOf : GoodIn wsX4_canComeOut wsX4_stateOf := goodIn_r _ [5, 6, 7, 8, 9, 10, 11, 12, 13, 14, 15, 16, 17, 18, 19, 20, 21, 22, 23, 24, 25, 26, 27, 28, 29, 30, 31, 32] (by decide +kernel) (by decide +kernel)
set_option maxRecDepth 20000 in
theorem gX4_canComeOut_X4_stateOf : GoodIn wsX4_canComeOut (wsV RX4 61 RX4 yX4_stateOf wsX4_stateOf) := goodIn_app (goodIn_of _ (by decide +kernel)) ggX4_canComeOut_X4_stateOf
theorem dX4_canComeOut_0 : decode cX4_canComeOut 0 = .ok (.aload_n 0, 1) := by decide +kernel
theorem dX4_canComeOut_1 : decode cX4_canComeOut 1 = .ok (.iload_n 1, 1) := by decide +kernel
theorem dX4_canComeOut_2 : decode cX4_canComeOut 2 = .ok (.invokevirtual 61, 3) := by decide +kernel
theorem dX4_canComeOut_5 : decode cX4_canComeOut 5 = .ok (.iconst 1, 1) := by decide +kernel
theorem dX4_canComeOut_6 : decode cX4_canComeOut 6 = .ok (.if_icmp .ne 7, 3) := by decide +kernel
theorem dX4_canComeOut_9 : decode cX4_canComeOut 9 = .ok (.iconst 1, 1) := by decide +kernel
theorem dX4_canComeOut_10 : decode cX4_canComeOut 10 = .ok (.goto 4, 3) := by decide +kernel
theorem dX4_canComeOut_13 : decode cX4_canComeOut 13 = .ok (.iconst 0, 1) := by decide +kernel
theorem dX4_canComeOut_14 : decode cX4_canComeOut 14 = .ok (.ireturn, 1) := by decide +kernel
set_option maxRecDepth 20000 in
theorem ggX4_comeOut_X4_setState : GoodIn wsX4_comeOut wsX4_setState := goodIn_r _ [5, 6, 7, 8, 9, 10, 11, 12, 13, 14, 15, 16, 17, 18, 19, 20, 21, 22, 23, 24, 25, 26, 27, 28, 29, 30, 31, 32] (by decide +kernel) (by decide +kernel)
set_option maxRecDepth 20000 in
theorem gX4_comeOut_X4_setState : GoodIn wsX4_comeOut (wsV RX4 85 RX4 yX4_setState wsX4_setState) := goodIn_app (goodIn_of _ (by decide +kernel)) ggX4_comeOut_X4_setState
theorem dX4_comeOut_0 : decode cX4_comeOut 0 = .ok (.aload_n 0, 1) := by decide +kernel
theorem dX4_comeOut_1 : decode cX4_comeOut 1 = .ok (.iload_n 1, 1) := by decide +kernel
theorem dX4_comeOut_2 : decode cX4_comeOut 2 = .ok (.iconst 2, 1) := by decide +kernel
theorem dX4_comeOut_3 : decode cX4_comeOut 3 = .ok (.invokevirtual 85, 3) := by decide +kernel
theorem dX4_comeOut_6 : decode cX4_comeOut 6 = .ok (.return_, 1) := by decide +kernel
set_option maxRecDepth 20000 in
theorem ggX4_canBeKing_X4_stateOf : GoodIn wsX4_canBeKing wsX4_stateOf := goodIn_r _ [6, 7, 8, 9, 10, 11, 12, 13, 14, 15, 16, 17, 18, 19, 20, 21, 22, 23, 24, 25, 26, 27, 28, 29, 30, 31, 32, 33] (by decide +kernel) (by decide +kernel)
set_option maxRecDepth 20000 in
theorem gX4_canBeKing_X4_stateOf : GoodIn wsX4_canBeKing (wsV RX4 61 RX4 yX4_stateOf wsX4_stateOf) := goodIn_app (goodIn_of _ (by decide +kernel)) ggX4_canBeKing_X4_stateOf
theorem dX4_canBeKing_0 : decode cX4_canBeKing 0 = .ok (.aload_n 0, 1) := by decide +kernel
theorem dX4_canBeKing_1 : decode cX4_canBeKing 1 = .ok (.iload_n 1, 1) := by decide +kernel
theorem dX4_canBeKing_2 : decode cX4_canBeKing 2 = .ok (.invokevirtual 61, 3) := by decide +kernel
theorem dX4_canBeKing_5 : decode cX4_canBeKing 5 = .ok (.iconst 2, 1) := by decide +kernel
theorem dX4_canBeKing_6 : decode cX4_canBeKing 6 = .ok (.if_icmp .ne 15, 3) := by decide +kernel
theorem dX4_canBeKing_9 : decode cX4_canBeKing 9 = .ok (.aload_n 0, 1) := by decide +kernel
theorem dX4_canBeKing_10 : decode cX4_canBeKing 10 = .ok (.getfield 22, 3) := by decide +kernel
theorem dX4_canBeKing_13 : decode cX4_canBeKing 13 = .ok (.iconst (-1), 1) := by decide +kernel
theorem dX4_canBeKing_14 : decode cX4_canBeKing 14 = .ok (.if_icmp .ne 7, 3) := by decide +kernel
theorem dX4_canBeKing_17 : decode cX4_canBeKing 17 = .ok (.iconst 1, 1) := by decide +kernel
theorem dX4_canBeKing_18 : decode cX4_canBeKing 18 = .ok (.goto 4, 3) := by decide +kernel
theorem dX4_canBeKing_21 : decode cX4_canBeKing 21 = .ok (.iconst 0, 1) := by decide +kernel
theorem dX4_canBeKing_22 : decode cX4_canBeKing 22 = .ok (.ireturn, 1) := by decide +kernel
set_option maxRecDepth 20000 in
theorem ggX4_becomeKing_X4_setState : GoodIn wsX4_becomeKing wsX4_setState := goodIn_r _ [7, 8, 9, 10, 11, 12, 13, 14, 15, 47, 48, 49, 50, 51, 52, 53, 54, 55, 56, 57, 58, 59, 60, 61, 62, 63, 64, 65] (by decide +kernel) (by decide +kernel)
set_option maxRecDepth 20000 in
theorem gX4_becomeKing_X4_setState : GoodIn wsX4_becomeKing (wsV RX4 85 RX4 yX4_setState wsX4_setState) := goodIn_app (goodIn_of _ (by decide +kernel)) ggX4_becomeKing_X4_setState
set_option maxRecDepth 20000 in
theorem ggX4_becomeKing_X4_reignOf : GoodIn wsX4_becomeKing wsX4_reignOf := goodIn_r _ [19, 8, 20, 21, 22, 6, 23, 24, 10, 11, 12, 13, 14, 15, 25, 26, 27, 28, 29, 30, 31, 32, 33, 34, 35, 36, 37, 38, 39, 40, 41, 42, 43, 44, 45, 46, 47, 48, 49, 50, 51, 52, 53, 54, 55, 56, 57, 58, 59, 60, 61, 62, 63, 64, 65] (by decide +kernel) (by decide +kernel)
set_option maxRecDepth 20000 in
theorem gX4_becomeKing_X4_reignOf : GoodIn wsX4_becomeKing (wsV RX4 75 RX4 yX4_reignOf wsX4_reignOf) := goodIn_app (goodIn_of _ (by decide +kernel)) ggX4_becomeKing_X4_reignOf
theorem dX4_becomeKing_0 : decode cX4_becomeKing 0 = .ok (.aload_n 0, 1) := by decide +kernel
theorem dX4_becomeKing_1 : decode cX4_becomeKing 1 = .ok (.iload_n 1, 1) := by decide +kernel
theorem dX4_becomeKing_2 : decode cX4_becomeKing 2 = .ok (.iconst 3, 1) := by decide +kernel
theorem dX4_becomeKing_3 : decode cX4_becomeKing 3 = .ok (.invokevirtual 85, 3) := by decide +kernel
theorem dX4_becomeKing_6 : decode cX4_becomeKing 6 = .ok (.aload_n 0, 1) := by decide +kernel
theorem dX4_becomeKing_7 : decode cX4_becomeKing 7 = .ok (.iload_n 1, 1) := by decide +kernel
theorem dX4_becomeKing_8 : decode cX4_becomeKing 8 = .ok (.putfield 22, 3) := by decide +kernel
theorem dX4_becomeKing_11 : decode cX4_becomeKing 11 = .ok (.aload_n 0, 1) := by decide +kernel
theorem dX4_becomeKing_12 : decode cX4_becomeKing 12 = .ok (.aload_n 0, 1) := by decide +kernel
theorem dX4_becomeKing_13 : decode cX4_becomeKing 13 = .ok (.iload_n 1, 1) := by decide +kernel
theorem dX4_becomeKing_14 : decode cX4_becomeKing 14 = .ok (.invokevirtual 75, 3) := by decide +kernel
theorem dX4_becomeKing_17 : decode cX4_becomeKing 17 = .ok (.putfield 26, 3) := by decide +kernel
theorem dX4_becomeKing_20 : decode cX4_becomeKing 20 = .ok (.return_, 1) := by decide +kernel
set_option maxRecDepth 20000 in
theorem ggX4_passMinute_X4_stateOf : GoodIn wsX4_passMinute wsX4_stateOf := goodIn_r _ [7, 8, 9, 10, 11, 12, 13, 14, 15, 37, 38, 39, 40, 41, 42, 43, 44, 45, 46, 47, 48, 49, 50, 51, 52, 53, 54, 55] (by decide +kernel) (by decide +kernel)
set_option maxRecDepth 20000 in
theorem gX4_passMinute_X4_stateOf : GoodIn wsX4_passMinute (wsV RX4 61 RX4 yX4_stateOf wsX4_stateOf) := goodIn_app (goodIn_of _ (by decide +kernel)) ggX4_passMinute_X4_stateOf
set_option maxRecDepth 20000 in
theorem ggX4_passMinute_X4_boilOneMore : GoodIn wsX4_passMinute wsX4_boilOneMore := goodIn_r _ [19, 8, 20, 9, 10, 11, 12, 13, 14, 15, 37, 38, 39, 40, 41, 42, 43, 44, 45, 46, 47, 48, 49, 50, 51, 52, 53, 54, 55] (by decide +kernel) (by decide +kernel)
set_option maxRecDepth 20000 in
theorem gX4_passMinute_X4_boilOneMore : GoodIn wsX4_passMinute (wsV RX4 89 RX4 yX4_boilOneMore wsX4_boilOneMore) := goodIn_app (goodIn_of _ (by decide +kernel)) ggX4_passMinute_X4_boilOneMore
set_option maxRecDepth 20000 in
theorem ggX4_passMinute_X4_passMinuteOfKing : GoodIn wsX4_passMinute wsX4_passMinuteOfKing := goodIn_r _ [24, 25, 26, 27, 28, 29, 30, 31, 6, 32, 2, 33, 34, 35, 36, 8, 9, 10, 11, 12, 13, 14, 15, 37, 38, 39, 40, 41, 42, 43, 44, 45, 46, 47, 48, 49, 50, 51, 52, 53, 54, 55] (by decide +kernel) (by decide +kernel)
set_option maxRecDepth 20000 in
theorem gX4_passMinute_X4_passMinuteOfKing : GoodIn wsX4_passMinute (wsV RX4 93 RX4 yX4_passMinuteOfKing wsX4_passMinuteOfKing) := goodIn_app (goodIn_of _ (by decide +kernel)) ggX4_passMinute_X4_passMinuteOfKing
theorem dX4_passMinute_0 : decode cX4_passMinute 0 = .ok (.aload_n 0, 1) := by decide +kernel
theorem dX4_passMinute_1 : decode cX4_passMinute 1 = .ok (.dup, 1) := by decide +kernel
theorem dX4_passMinute_2 : decode cX4_passMinute 2 = .ok (.getfield 32, 3) := by decide +kernel
theorem dX4_passMinute_5 : decode cX4_passMinute 5 = .ok (.iconst 1, 1) := by decide +kernel
theorem dX4_passMinute_6 : decode cX4_passMinute 6 = .ok (.iadd, 1) := by decide +kernel
theorem dX4_passMinute_7 : decode cX4_passMinute 7 = .ok (.putfield 32, 3) := by decide +kernel
theorem dX4_passMinute_10 : decode cX4_passMinute 10 = .ok (.iconst 0, 1) := by decide +kernel
theorem dX4_passMinute_11 : decode cX4_passMinute 11 = .ok (.istore_n 1, 1) := by decide +kernel
theorem dX4_passMinute_12 : decode cX4_passMinute 12 = .ok (.iload_n 1, 1) := by decide +kernel
theorem dX4_passMinute_13 : decode cX4_passMinute 13 = .ok (.bipush 7, 2) := by decide +kernel
theorem dX4_passMinute_15 : decode cX4_passMinute 15 = .ok (.if_icmp .ge 23, 3) := by decide +kernel
theorem dX4_passMinute_18 : decode cX4_passMinute 18 = .ok (.aload_n 0, 1) := by decide +kernel
theorem dX4_passMinute_19 : decode cX4_passMinute 19 = .ok (.iload_n 1, 1) := by decide +kernel
theorem dX4_passMinute_20 : decode cX4_passMinute 20 = .ok (.invokevirtual 61, 3) := by decide +kernel
theorem dX4_passMinute_23 : decode cX4_passMinute 23 = .ok (.iconst 1, 1) := by decide +kernel
theorem dX4_passMinute_24 : decode cX4_passMinute 24 = .ok (.if_icmp .ne 8, 3) := by decide +kernel
theorem dX4_passMinute_27 : decode cX4_passMinute 27 = .ok (.aload_n 0, 1) := by decide +kernel
theorem dX4_passMinute_28 : decode cX4_passMinute 28 = .ok (.iload_n 1, 1) := by decide +kernel
theorem dX4_passMinute_29 : decode cX4_passMinute 29 = .ok (.invokevirtual 89, 3) := by decide +kernel
theorem dX4_passMinute_32 : decode cX4_passMinute 32 = .ok (.iinc 1 1, 3) := by decide +kernel
theorem dX4_passMinute_35 : decode cX4_passMinute 35 = .ok (.goto (-23), 3) := by decide +kernel
theorem dX4_passMinute_38 : decode cX4_passMinute 38 = .ok (.aload_n 0, 1) := by decide +kernel
theorem dX4_passMinute_39 : decode cX4_passMinute 39 = .ok (.getfield 22, 3) := by decide +kernel
theorem dX4_passMinute_42 : decode cX4_passMinute 42 = .ok (.iconst (-1), 1) := by decide +kernel
theorem dX4_passMinute_43 : decode cX4_passMinute 43 = .ok (.if_icmp .eq 7, 3) := by decide +kernel
theorem dX4_passMinute_46 : decode cX4_passMinute 46 = .ok (.aload_n 0, 1) := by decide +kernel
theorem dX4_passMinute_47 : decode cX4_passMinute 47 = .ok (.invokevirtual 93, 3) := by decide +kernel
theorem dX4_passMinute_50 : decode cX4_passMinute 50 = .ok (.return_, 1) := by decide +kernel
set_option maxRecDepth 20000 in
theorem ggX4_boilOneMore_X8_hasEgg : GoodIn wsX4_boilOneMore wsX8_hasEgg := goodIn_r _ [8, 9, 19, 20, 21, 22, 23, 24, 25, 26, 27, 28] (by decide +kernel) (by decide +kernel)
set_option maxRecDepth 20000 in
theorem gX4_boilOneMore_X8_hasEgg : GoodIn wsX4_boilOneMore (wsV RX4 46 RX8 yX8_hasEgg wsX8_hasEgg) := goodIn_app (goodIn_of _ (by decide +kernel)) ggX4_boilOneMore_X8_hasEgg
theorem dX4_boilOneMore_0 : decode cX4_boilOneMore 0 = .ok (.aload_n 0, 1) := by decide +kernel
theorem dX4_boilOneMore_1 : decode cX4_boilOneMore 1 = .ok (.getfield 9, 3) := by decide +kernel
theorem dX4_boilOneMore_4 : decode cX4_boilOneMore 4 = .ok (.iload_n 1, 1) := by decide +kernel
theorem dX4_boilOneMore_5 : decode cX4_boilOneMore 5 = .ok (.invokevirtual 46, 3) := by decide +kernel
theorem dX4_boilOneMore_8 : decode cX4_boilOneMore 8 = .ok (.ifCond .eq 40, 3) := by decide +kernel
theorem dX4_boilOneMore_11 : decode cX4_boilOneMore 11 = .ok (.aload_n 0, 1) := by decide +kernel
theorem dX4_boilOneMore_12 : decode cX4_boilOneMore 12 = .ok (.getfield 19, 3) := by decide +kernel
theorem dX4_boilOneMore_15 : decode cX4_boilOneMore 15 = .ok (.iload_n 1, 1) := by decide +kernel
theorem dX4_boilOneMore_16 : decode cX4_boilOneMore 16 = .ok (.dup2, 1) := by decide +kernel
theorem dX4_boilOneMore_17 : decode cX4_boilOneMore 17 = .ok (.iaload, 1) := by decide +kernel
theorem dX4_boilOneMore_18 : decode cX4_boilOneMore 18 = .ok (.iconst 1, 1) := by decide +kernel
theorem dX4_boilOneMore_19 : decode cX4_boilOneMore 19 = .ok (.iadd, 1) := by decide +kernel
theorem dX4_boilOneMore_20 : decode cX4_boilOneMore 20 = .ok (.iastore, 1) := by decide +kernel
theorem dX4_boilOneMore_21 : decode cX4_boilOneMore 21 = .ok (.aload_n 0, 1) := by decide +kernel
theorem dX4_boilOneMore_22 : decode cX4_boilOneMore 22 = .ok (.getfield 15, 3) := by decide +kernel
theorem dX4_boilOneMore_25 : decode cX4_boilOneMore 25 = .ok (.iload_n 1, 1) := by decide +kernel
theorem dX4_boilOneMore_26 : decode cX4_boilOneMore 26 = .ok (.aload_n 0, 1) := by decide +kernel
theorem dX4_boilOneMore_27 : decode cX4_boilOneMore 27 = .ok (.getfield 19, 3) := by decide +kernel
theorem dX4_boilOneMore_30 : decode cX4_boilOneMore 30 = .ok (.iload_n 1, 1) := by decide +kernel
theorem dX4_boilOneMore_31 : decode cX4_boilOneMore 31 = .ok (.iaload, 1) := by decide +kernel
theorem dX4_boilOneMore_32 : decode cX4_boilOneMore 32 = .ok (.aload_n 0, 1) := by decide +kernel
theorem dX4_boilOneMore_33 : decode cX4_boilOneMore 33 = .ok (.getfield 9, 3) := by decide +kernel
theorem dX4_boilOneMore_36 : decode cX4_boilOneMore 36 = .ok (.getfield 96, 3) := by decide +kernel
theorem dX4_boilOneMore_39 : decode cX4_boilOneMore 39 = .ok (.if_icmp .le 7, 3) := by decide +kernel
theorem dX4_boilOneMore_42 : decode cX4_boilOneMore 42 = .ok (.iconst 5, 1) := by decide +kernel
theorem dX4_boilOneMore_43 : decode cX4_boilOneMore 43 = .ok (.goto 4, 3) := by decide +kernel
theorem dX4_boilOneMore_46 : decode cX4_boilOneMore 46 = .ok (.iconst 1, 1) := by decide +kernel
theorem dX4_boilOneMore_47 : decode cX4_boilOneMore 47 = .ok (.iastore, 1) := by decide +kernel
theorem dX4_boilOneMore_48 : decode cX4_boilOneMore 48 = .ok (.return_, 1) := by decide +kernel
set_option maxRecDepth 20000 in
theorem ggX4_passMinuteOfKing_X4_endReign : GoodIn wsX4_passMinuteOfKing wsX4_endReign := goodIn_r _ [9, 10, 3, 11, 12, 13, 8, 14, 15, 16, 17, 18, 19, 20, 21, 22, 23, 24, 25, 26, 27, 28, 29, 30, 31, 32, 33, 34, 35, 36, 37, 38, 39, 40, 41] (by decide +kernel) (by decide +kernel)
set_option maxRecDepth 20000 in
theorem gX4_passMinuteOfKing_X4_endReign : GoodIn wsX4_passMinuteOfKing (wsV RX4 99 RX4 yX4_endReign wsX4_endReign) := goodIn_app (goodIn_of _ (by decide +kernel)) ggX4_passMinuteOfKing_X4_endReign
theorem dX4_passMinuteOfKing_0 : decode cX4_passMinuteOfKing 0 = .ok (.aload_n 0, 1) := by decide +kernel
theorem dX4_passMinuteOfKing_1 : decode cX4_passMinuteOfKing 1 = .ok (.getfield 29, 3) := by decide +kernel
theorem dX4_passMinuteOfKing_4 : decode cX4_passMinuteOfKing 4 = .ok (.iconst 2, 1) := by decide +kernel
theorem dX4_passMinuteOfKing_5 : decode cX4_passMinuteOfKing 5 = .ok (.if_icmp .ge 9, 3) := by decide +kernel
theorem dX4_passMinuteOfKing_8 : decode cX4_passMinuteOfKing 8 = .ok (.aload_n 0, 1) := by decide +kernel
theorem dX4_passMinuteOfKing_9 : decode cX4_passMinuteOfKing 9 = .ok (.iconst 0, 1) := by decide +kernel
theorem dX4_passMinuteOfKing_10 : decode cX4_passMinuteOfKing 10 = .ok (.invokevirtual 99, 3) := by decide +kernel
theorem dX4_passMinuteOfKing_13 : decode cX4_passMinuteOfKing 13 = .ok (.return_, 1) := by decide +kernel
theorem dX4_passMinuteOfKing_14 : decode cX4_passMinuteOfKing 14 = .ok (.aload_n 0, 1) := by decide +kernel
theorem dX4_passMinuteOfKing_15 : decode cX4_passMinuteOfKing 15 = .ok (.dup, 1) := by decide +kernel
theorem dX4_passMinuteOfKing_16 : decode cX4_passMinuteOfKing 16 = .ok (.getfield 29, 3) := by decide +kernel
theorem dX4_passMinuteOfKing_19 : decode cX4_passMinuteOfKing 19 = .ok (.iconst 2, 1) := by decide +kernel
theorem dX4_passMinuteOfKing_20 : decode cX4_passMinuteOfKing 20 = .ok (.isub, 1) := by decide +kernel
theorem dX4_passMinuteOfKing_21 : decode cX4_passMinuteOfKing 21 = .ok (.putfield 29, 3) := by decide +kernel
theorem dX4_passMinuteOfKing_24 : decode cX4_passMinuteOfKing 24 = .ok (.aload_n 0, 1) := by decide +kernel
theorem dX4_passMinuteOfKing_25 : decode cX4_passMinuteOfKing 25 = .ok (.dup, 1) := by decide +kernel
theorem dX4_passMinuteOfKing_26 : decode cX4_passMinuteOfKing 26 = .ok (.getfield 35, 3) := by decide +kernel
theorem dX4_passMinuteOfKing_29 : decode cX4_passMinuteOfKing 29 = .ok (.iconst 1, 1) := by decide +kernel
theorem dX4_passMinuteOfKing_30 : decode cX4_passMinuteOfKing 30 = .ok (.iadd, 1) := by decide +kernel
theorem dX4_passMinuteOfKing_31 : decode cX4_passMinuteOfKing 31 = .ok (.putfield 35, 3) := by decide +kernel
theorem dX4_passMinuteOfKing_34 : decode cX4_passMinuteOfKing 34 = .ok (.aload_n 0, 1) := by decide +kernel
theorem dX4_passMinuteOfKing_35 : decode cX4_passMinuteOfKing 35 = .ok (.dup, 1) := by decide +kernel
theorem dX4_passMinuteOfKing_36 : decode cX4_passMinuteOfKing 36 = .ok (.getfield 26, 3) := by decide +kernel
theorem dX4_passMinuteOfKing_39 : decode cX4_passMinuteOfKing 39 = .ok (.iconst 1, 1) := by decide +kernel
theorem dX4_passMinuteOfKing_40 : decode cX4_passMinuteOfKing 40 = .ok (.isub, 1) := by decide +kernel
theorem dX4_passMinuteOfKing_41 : decode cX4_passMinuteOfKing 41 = .ok (.putfield 26, 3) := by decide +kernel
theorem dX4_passMinuteOfKing_44 : decode cX4_passMinuteOfKing 44 = .ok (.aload_n 0, 1) := by decide +kernel
theorem dX4_passMinuteOfKing_45 : decode cX4_passMinuteOfKing 45 = .ok (.getfield 26, 3) := by decide +kernel
theorem dX4_passMinuteOfKing_48 : decode cX4_passMinuteOfKing 48 = .ok (.ifCond .gt 18, 3) := by decide +kernel
theorem dX4_passMinuteOfKing_51 : decode cX4_passMinuteOfKing 51 = .ok (.aload_n 0, 1) := by decide +kernel
theorem dX4_passMinuteOfKing_52 : decode cX4_passMinuteOfKing 52 = .ok (.dup, 1) := by decide +kernel
theorem dX4_passMinuteOfKing_53 : decode cX4_passMinuteOfKing 53 = .ok (.getfield 38, 3) := by decide +kernel
theorem dX4_passMinuteOfKing_56 : decode cX4_passMinuteOfKing 56 = .ok (.iconst 1, 1) := by decide +kernel
theorem dX4_passMinuteOfKing_57 : decode cX4_passMinuteOfKing 57 = .ok (.iadd, 1) := by decide +kernel
theorem dX4_passMinuteOfKing_58 : decode cX4_passMinuteOfKing 58 = .ok (.putfield 38, 3) := by decide +kernel
theorem dX4_passMinuteOfKing_61 : decode cX4_passMinuteOfKing 61 = .ok (.aload_n 0, 1) := by decide +kernel
theorem dX4_passMinuteOfKing_62 : decode cX4_passMinuteOfKing 62 = .ok (.iconst 4, 1) := by decide +kernel
theorem dX4_passMinuteOfKing_63 : decode cX4_passMinuteOfKing 63 = .ok (.invokevirtual 99, 3) := by decide +kernel
theorem dX4_passMinuteOfKing_66 : decode cX4_passMinuteOfKing 66 = .ok (.return_, 1) := by decide +kernel
set_option maxRecDepth 20000 in
theorem ggX4_endReign_X4_setState : GoodIn wsX4_endReign wsX4_setState := goodIn_r _ [7, 8, 9, 10, 11, 12, 13, 14, 15, 16, 17, 18, 19, 20, 21, 22, 23, 24, 25, 26, 27, 28, 29, 30, 31, 32, 33, 34] (by decide +kernel) (by decide +kernel)
set_option maxRecDepth 20000 in
theorem gX4_endReign_X4_setState : GoodIn wsX4_endReign (wsV RX4 85 RX4 yX4_setState wsX4_setState) := goodIn_app (goodIn_of _ (by decide +kernel)) ggX4_endReign_X4_setState
theorem dX4_endReign_0 : decode cX4_endReign 0 = .ok (.aload_n 0, 1) := by decide +kernel
theorem dX4_endReign_1 : decode cX4_endReign 1 = .ok (.aload_n 0, 1) := by decide +kernel
theorem dX4_endReign_2 : decode cX4_endReign 2 = .ok (.getfield 22, 3) := by decide +kernel
theorem dX4_endReign_5 : decode cX4_endReign 5 = .ok (.iload_n 1, 1) := by decide +kernel
theorem dX4_endReign_6 : decode cX4_endReign 6 = .ok (.invokevirtual 85, 3) := by decide +kernel
theorem dX4_endReign_9 : decode cX4_endReign 9 = .ok (.aload_n 0, 1) := by decide +kernel
theorem dX4_endReign_10 : decode cX4_endReign 10 = .ok (.iconst (-1), 1) := by decide +kernel
theorem dX4_endReign_11 : decode cX4_endReign 11 = .ok (.putfield 22, 3) := by decide +kernel
theorem dX4_endReign_14 : decode cX4_endReign 14 = .ok (.aload_n 0, 1) := by decide +kernel
theorem dX4_endReign_15 : decode cX4_endReign 15 = .ok (.iconst 0, 1) := by decide +kernel
theorem dX4_endReign_16 : decode cX4_endReign 16 = .ok (.putfield 26, 3) := by decide +kernel
theorem dX4_endReign_19 : decode cX4_endReign 19 = .ok (.return_, 1) := by decide +kernel
set_option maxRecDepth 20000 in
theorem ggX4_setState_X8_hasEgg : GoodIn wsX4_setState wsX8_hasEgg := goodIn_r _ [7, 8, 18, 19, 20, 21, 22, 23, 24, 25, 26, 27] (by decide +kernel) (by decide +kernel)
set_option maxRecDepth 20000 in
theorem gX4_setState_X8_hasEgg : GoodIn wsX4_setState (wsV RX4 46 RX8 yX8_hasEgg wsX8_hasEgg) := goodIn_app (goodIn_of _ (by decide +kernel)) ggX4_setState_X8_hasEgg
theorem dX4_setState_0 : decode cX4_setState 0 = .ok (.aload_n 0, 1) := by decide +kernel
theorem dX4_setState_1 : decode cX4_setState 1 = .ok (.getfield 9, 3) := by decide +kernel
theorem dX4_setState_4 : decode cX4_setState 4 = .ok (.iload_n 1, 1) := by decide +kernel
theorem dX4_setState_5 : decode cX4_setState 5 = .ok (.invokevirtual 46, 3) := by decide +kernel
theorem dX4_setState_8 : decode cX4_setState 8 = .ok (.ifCond .eq 10, 3) := by decide +kernel
theorem dX4_setState_11 : decode cX4_setState 11 = .ok (.aload_n 0, 1) := by decide +kernel
theorem dX4_setState_12 : decode cX4_setState 12 = .ok (.getfield 15, 3) := by decide +kernel
theorem dX4_setState_15 : decode cX4_setState 15 = .ok (.iload_n 1, 1) := by decide +kernel
theorem dX4_setState_16 : decode cX4_setState 16 = .ok (.iload_n 2, 1) := by decide +kernel
theorem dX4_setState_17 : decode cX4_setState 17 = .ok (.iastore, 1) := by decide +kernel
theorem dX4_setState_18 : decode cX4_setState 18 = .ok (.return_, 1) := by decide +kernel
set_option maxRecDepth 20000 in
theorem ggX4_saveTo_X4_isRow : GoodIn wsX4_saveTo wsX4_isRow := goodIn_r _ [16] (by decide +kernel) (by decide +kernel)
set_option maxRecDepth 20000 in
theorem gX4_saveTo_X4_isRow : GoodIn wsX4_saveTo (va_wsS RX4 102 yX4_isRow wsX4_isRow) := goodIn_app (goodIn_of _ (by decide +kernel)) ggX4_saveTo_X4_isRow
theorem dX4_saveTo_0 : decode cX4_saveTo 0 = .ok (.aload_n 1, 1) := by decide +kernel
theorem dX4_saveTo_1 : decode cX4_saveTo 1 = .ok (.iload_n 2, 1) := by decide +kernel
theorem dX4_saveTo_2 : decode cX4_saveTo 2 = .ok (.invokestatic 102, 3) := by decide +kernel
theorem dX4_saveTo_5 : decode cX4_saveTo 5 = .ok (.ifCond .ne 4, 3) := by decide +kernel
theorem dX4_saveTo_8 : decode cX4_saveTo 8 = .ok (.return_, 1) := by decide +kernel
theorem dX4_saveTo_9 : decode cX4_saveTo 9 = .ok (.aload_n 0, 1) := by decide +kernel
theorem dX4_saveTo_10 : decode cX4_saveTo 10 = .ok (.getfield 15, 3) := by decide +kernel
theorem dX4_saveTo_13 : decode cX4_saveTo 13 = .ok (.iconst 0, 1) := by decide +kernel
theorem dX4_saveTo_14 : decode cX4_saveTo 14 = .ok (.aload_n 1, 1) := by decide +kernel
theorem dX4_saveTo_15 : decode cX4_saveTo 15 = .ok (.iload_n 2, 1) := by decide +kernel
theorem dX4_saveTo_16 : decode cX4_saveTo 16 = .ok (.bipush 7, 2) := by decide +kernel
theorem dX4_saveTo_18 : decode cX4_saveTo 18 = .ok (.invokestatic 106, 3) := by decide +kernel
theorem dX4_saveTo_21 : decode cX4_saveTo 21 = .ok (.aload_n 0, 1) := by decide +kernel
theorem dX4_saveTo_22 : decode cX4_saveTo 22 = .ok (.getfield 19, 3) := by decide +kernel
theorem dX4_saveTo_25 : decode cX4_saveTo 25 = .ok (.iconst 0, 1) := by decide +kernel
theorem dX4_saveTo_26 : decode cX4_saveTo 26 = .ok (.aload_n 1, 1) := by decide +kernel
theorem dX4_saveTo_27 : decode cX4_saveTo 27 = .ok (.iload_n 2, 1) := by decide +kernel
theorem dX4_saveTo_28 : decode cX4_saveTo 28 = .ok (.bipush 7, 2) := by decide +kernel
theorem dX4_saveTo_30 : decode cX4_saveTo 30 = .ok (.iadd, 1) := by decide +kernel
theorem dX4_saveTo_31 : decode cX4_saveTo 31 = .ok (.bipush 7, 2) := by decide +kernel
theorem dX4_saveTo_33 : decode cX4_saveTo 33 = .ok (.invokestatic 106, 3) := by decide +kernel
theorem dX4_saveTo_36 : decode cX4_saveTo 36 = .ok (.iload_n 2, 1) := by decide +kernel
theorem dX4_saveTo_37 : decode cX4_saveTo 37 = .ok (.bipush 14, 2) := by decide +kernel
theorem dX4_saveTo_39 : decode cX4_saveTo 39 = .ok (.iadd, 1) := by decide +kernel
theorem dX4_saveTo_40 : decode cX4_saveTo 40 = .ok (.istore_n 3, 1) := by decide +kernel
theorem dX4_saveTo_41 : decode cX4_saveTo 41 = .ok (.aload_n 1, 1) := by decide +kernel
theorem dX4_saveTo_42 : decode cX4_saveTo 42 = .ok (.iload_n 3, 1) := by decide +kernel
theorem dX4_saveTo_43 : decode cX4_saveTo 43 = .ok (.aload_n 0, 1) := by decide +kernel
theorem dX4_saveTo_44 : decode cX4_saveTo 44 = .ok (.getfield 22, 3) := by decide +kernel
theorem dX4_saveTo_47 : decode cX4_saveTo 47 = .ok (.iastore, 1) := by decide +kernel
theorem dX4_saveTo_48 : decode cX4_saveTo 48 = .ok (.aload_n 1, 1) := by decide +kernel
theorem dX4_saveTo_49 : decode cX4_saveTo 49 = .ok (.iload_n 3, 1) := by decide +kernel
theorem dX4_saveTo_50 : decode cX4_saveTo 50 = .ok (.iconst 1, 1) := by decide +kernel
theorem dX4_saveTo_51 : decode cX4_saveTo 51 = .ok (.iadd, 1) := by decide +kernel
theorem dX4_saveTo_52 : decode cX4_saveTo 52 = .ok (.aload_n 0, 1) := by decide +kernel
theorem dX4_saveTo_53 : decode cX4_saveTo 53 = .ok (.getfield 26, 3) := by decide +kernel
theorem dX4_saveTo_56 : decode cX4_saveTo 56 = .ok (.iastore, 1) := by decide +kernel
theorem dX4_saveTo_57 : decode cX4_saveTo 57 = .ok (.aload_n 1, 1) := by decide +kernel
theorem dX4_saveTo_58 : decode cX4_saveTo 58 = .ok (.iload_n 3, 1) := by decide +kernel
theorem dX4_saveTo_59 : decode cX4_saveTo 59 = .ok (.iconst 2, 1) := by decide +kernel
theorem dX4_saveTo_60 : decode cX4_saveTo 60 = .ok (.iadd, 1) := by decide +kernel
theorem dX4_saveTo_61 : decode cX4_saveTo 61 = .ok (.aload_n 0, 1) := by decide +kernel
theorem dX4_saveTo_62 : decode cX4_saveTo 62 = .ok (.getfield 29, 3) := by decide +kernel
theorem dX4_saveTo_65 : decode cX4_saveTo 65 = .ok (.iastore, 1) := by decide +kernel
theorem dX4_saveTo_66 : decode cX4_saveTo 66 = .ok (.aload_n 1, 1) := by decide +kernel
theorem dX4_saveTo_67 : decode cX4_saveTo 67 = .ok (.iload_n 3, 1) := by decide +kernel
theorem dX4_saveTo_68 : decode cX4_saveTo 68 = .ok (.iconst 3, 1) := by decide +kernel
theorem dX4_saveTo_69 : decode cX4_saveTo 69 = .ok (.iadd, 1) := by decide +kernel
theorem dX4_saveTo_70 : decode cX4_saveTo 70 = .ok (.aload_n 0, 1) := by decide +kernel
theorem dX4_saveTo_71 : decode cX4_saveTo 71 = .ok (.getfield 32, 3) := by decide +kernel
theorem dX4_saveTo_74 : decode cX4_saveTo 74 = .ok (.iastore, 1) := by decide +kernel
theorem dX4_saveTo_75 : decode cX4_saveTo 75 = .ok (.aload_n 1, 1) := by decide +kernel
theorem dX4_saveTo_76 : decode cX4_saveTo 76 = .ok (.iload_n 3, 1) := by decide +kernel
theorem dX4_saveTo_77 : decode cX4_saveTo 77 = .ok (.iconst 4, 1) := by decide +kernel
theorem dX4_saveTo_78 : decode cX4_saveTo 78 = .ok (.iadd, 1) := by decide +kernel
theorem dX4_saveTo_79 : decode cX4_saveTo 79 = .ok (.aload_n 0, 1) := by decide +kernel
theorem dX4_saveTo_80 : decode cX4_saveTo 80 = .ok (.getfield 35, 3) := by decide +kernel
theorem dX4_saveTo_83 : decode cX4_saveTo 83 = .ok (.iastore, 1) := by decide +kernel
theorem dX4_saveTo_84 : decode cX4_saveTo 84 = .ok (.aload_n 1, 1) := by decide +kernel
theorem dX4_saveTo_85 : decode cX4_saveTo 85 = .ok (.iload_n 3, 1) := by decide +kernel
theorem dX4_saveTo_86 : decode cX4_saveTo 86 = .ok (.iconst 5, 1) := by decide +kernel
theorem dX4_saveTo_87 : decode cX4_saveTo 87 = .ok (.iadd, 1) := by decide +kernel
theorem dX4_saveTo_88 : decode cX4_saveTo 88 = .ok (.aload_n 0, 1) := by decide +kernel
theorem dX4_saveTo_89 : decode cX4_saveTo 89 = .ok (.getfield 38, 3) := by decide +kernel
theorem dX4_saveTo_92 : decode cX4_saveTo 92 = .ok (.iastore, 1) := by decide +kernel
theorem dX4_saveTo_93 : decode cX4_saveTo 93 = .ok (.return_, 1) := by decide +kernel
set_option maxRecDepth 20000 in
theorem ggX4_loadFrom_X4_isRow : GoodIn wsX4_loadFrom wsX4_isRow := goodIn_r _ [16] (by decide +kernel) (by decide +kernel)
set_option maxRecDepth 20000 in
theorem gX4_loadFrom_X4_isRow : GoodIn wsX4_loadFrom (va_wsS RX4 102 yX4_isRow wsX4_isRow) := goodIn_app (goodIn_of _ (by decide +kernel)) ggX4_loadFrom_X4_isRow
theorem dX4_loadFrom_0 : decode cX4_loadFrom 0 = .ok (.aload_n 1, 1) := by decide +kernel
theorem dX4_loadFrom_1 : decode cX4_loadFrom 1 = .ok (.iload_n 2, 1) := by decide +kernel
theorem dX4_loadFrom_2 : decode cX4_loadFrom 2 = .ok (.invokestatic 102, 3) := by decide +kernel
theorem dX4_loadFrom_5 : decode cX4_loadFrom 5 = .ok (.ifCond .ne 4, 3) := by decide +kernel
theorem dX4_loadFrom_8 : decode cX4_loadFrom 8 = .ok (.return_, 1) := by decide +kernel
theorem dX4_loadFrom_9 : decode cX4_loadFrom 9 = .ok (.aload_n 1, 1) := by decide +kernel
theorem dX4_loadFrom_10 : decode cX4_loadFrom 10 = .ok (.iload_n 2, 1) := by decide +kernel
theorem dX4_loadFrom_11 : decode cX4_loadFrom 11 = .ok (.aload_n 0, 1) := by decide +kernel
theorem dX4_loadFrom_12 : decode cX4_loadFrom 12 = .ok (.getfield 15, 3) := by decide +kernel
theorem dX4_loadFrom_15 : decode cX4_loadFrom 15 = .ok (.iconst 0, 1) := by decide +kernel
theorem dX4_loadFrom_16 : decode cX4_loadFrom 16 = .ok (.bipush 7, 2) := by decide +kernel
theorem dX4_loadFrom_18 : decode cX4_loadFrom 18 = .ok (.invokestatic 106, 3) := by decide +kernel
theorem dX4_loadFrom_21 : decode cX4_loadFrom 21 = .ok (.aload_n 1, 1) := by decide +kernel
theorem dX4_loadFrom_22 : decode cX4_loadFrom 22 = .ok (.iload_n 2, 1) := by decide +kernel
theorem dX4_loadFrom_23 : decode cX4_loadFrom 23 = .ok (.bipush 7, 2) := by decide +kernel
theorem dX4_loadFrom_25 : decode cX4_loadFrom 25 = .ok (.iadd, 1) := by decide +kernel
theorem dX4_loadFrom_26 : decode cX4_loadFrom 26 = .ok (.aload_n 0, 1) := by decide +kernel
theorem dX4_loadFrom_27 : decode cX4_loadFrom 27 = .ok (.getfield 19, 3) := by decide +kernel
theorem dX4_loadFrom_30 : decode cX4_loadFrom 30 = .ok (.iconst 0, 1) := by decide +kernel
theorem dX4_loadFrom_31 : decode cX4_loadFrom 31 = .ok (.bipush 7, 2) := by decide +kernel
theorem dX4_loadFrom_33 : decode cX4_loadFrom 33 = .ok (.invokestatic 106, 3) := by decide +kernel
theorem dX4_loadFrom_36 : decode cX4_loadFrom 36 = .ok (.iload_n 2, 1) := by decide +kernel
theorem dX4_loadFrom_37 : decode cX4_loadFrom 37 = .ok (.bipush 14, 2) := by decide +kernel
theorem dX4_loadFrom_39 : decode cX4_loadFrom 39 = .ok (.iadd, 1) := by decide +kernel
theorem dX4_loadFrom_40 : decode cX4_loadFrom 40 = .ok (.istore_n 3, 1) := by decide +kernel
theorem dX4_loadFrom_41 : decode cX4_loadFrom 41 = .ok (.aload_n 0, 1) := by decide +kernel
theorem dX4_loadFrom_42 : decode cX4_loadFrom 42 = .ok (.aload_n 1, 1) := by decide +kernel
theorem dX4_loadFrom_43 : decode cX4_loadFrom 43 = .ok (.iload_n 3, 1) := by decide +kernel
theorem dX4_loadFrom_44 : decode cX4_loadFrom 44 = .ok (.iaload, 1) := by decide +kernel
theorem dX4_loadFrom_45 : decode cX4_loadFrom 45 = .ok (.putfield 22, 3) := by decide +kernel
theorem dX4_loadFrom_48 : decode cX4_loadFrom 48 = .ok (.aload_n 0, 1) := by decide +kernel
theorem dX4_loadFrom_49 : decode cX4_loadFrom 49 = .ok (.aload_n 1, 1) := by decide +kernel
theorem dX4_loadFrom_50 : decode cX4_loadFrom 50 = .ok (.iload_n 3, 1) := by decide +kernel
theorem dX4_loadFrom_51 : decode cX4_loadFrom 51 = .ok (.iconst 1, 1) := by decide +kernel
theorem dX4_loadFrom_52 : decode cX4_loadFrom 52 = .ok (.iadd, 1) := by decide +kernel
theorem dX4_loadFrom_53 : decode cX4_loadFrom 53 = .ok (.iaload, 1) := by decide +kernel
theorem dX4_loadFrom_54 : decode cX4_loadFrom 54 = .ok (.putfield 26, 3) := by decide +kernel
theorem dX4_loadFrom_57 : decode cX4_loadFrom 57 = .ok (.aload_n 0, 1) := by decide +kernel
theorem dX4_loadFrom_58 : decode cX4_loadFrom 58 = .ok (.aload_n 1, 1) := by decide +kernel
theorem dX4_loadFrom_59 : decode cX4_loadFrom 59 = .ok (.iload_n 3, 1) := by decide +kernel
theorem dX4_loadFrom_60 : decode cX4_loadFrom 60 = .ok (.iconst 2, 1) := by decide +kernel
theorem dX4_loadFrom_61 : decode cX4_loadFrom 61 = .ok (.iadd, 1) := by decide +kernel
theorem dX4_loadFrom_62 : decode cX4_loadFrom 62 = .ok (.iaload, 1) := by decide +kernel
theorem dX4_loadFrom_63 : decode cX4_loadFrom 63 = .ok (.putfield 29, 3) := by decide +kernel
theorem dX4_loadFrom_66 : decode cX4_loadFrom 66 = .ok (.aload_n 0, 1) := by decide +kernel
theorem dX4_loadFrom_67 : decode cX4_loadFrom 67 = .ok (.aload_n 1, 1) := by decide +kernel
theorem dX4_loadFrom_68 : decode cX4_loadFrom 68 = .ok (.iload_n 3, 1) := by decide +kernel
theorem dX4_loadFrom_69 : decode cX4_loadFrom 69 = .ok (.iconst 3, 1) := by decide +kernel
theorem dX4_loadFrom_70 : decode cX4_loadFrom 70 = .ok (.iadd, 1) := by decide +kernel
theorem dX4_loadFrom_71 : decode cX4_loadFrom 71 = .ok (.iaload, 1) := by decide +kernel
theorem dX4_loadFrom_72 : decode cX4_loadFrom 72 = .ok (.putfield 32, 3) := by decide +kernel
theorem dX4_loadFrom_75 : decode cX4_loadFrom 75 = .ok (.aload_n 0, 1) := by decide +kernel
theorem dX4_loadFrom_76 : decode cX4_loadFrom 76 = .ok (.aload_n 1, 1) := by decide +kernel
theorem dX4_loadFrom_77 : decode cX4_loadFrom 77 = .ok (.iload_n 3, 1) := by decide +kernel
theorem dX4_loadFrom_78 : decode cX4_loadFrom 78 = .ok (.iconst 4, 1) := by decide +kernel
theorem dX4_loadFrom_79 : decode cX4_loadFrom 79 = .ok (.iadd, 1) := by decide +kernel
theorem dX4_loadFrom_80 : decode cX4_loadFrom 80 = .ok (.iaload, 1) := by decide +kernel
theorem dX4_loadFrom_81 : decode cX4_loadFrom 81 = .ok (.putfield 35, 3) := by decide +kernel
theorem dX4_loadFrom_84 : decode cX4_loadFrom 84 = .ok (.aload_n 0, 1) := by decide +kernel
theorem dX4_loadFrom_85 : decode cX4_loadFrom 85 = .ok (.aload_n 1, 1) := by decide +kernel
theorem dX4_loadFrom_86 : decode cX4_loadFrom 86 = .ok (.iload_n 3, 1) := by decide +kernel
theorem dX4_loadFrom_87 : decode cX4_loadFrom 87 = .ok (.iconst 5, 1) := by decide +kernel
theorem dX4_loadFrom_88 : decode cX4_loadFrom 88 = .ok (.iadd, 1) := by decide +kernel
theorem dX4_loadFrom_89 : decode cX4_loadFrom 89 = .ok (.iaload, 1) := by decide +kernel
theorem dX4_loadFrom_90 : decode cX4_loadFrom 90 = .ok (.putfield 38, 3) := by decide +kernel
theorem dX4_loadFrom_93 : decode cX4_loadFrom 93 = .ok (.return_, 1) := by decide +kernel
theorem dX4_isRow_0 : decode cX4_isRow 0 = .ok (.aload_n 0, 1) := by decide +kernel
theorem dX4_isRow_1 : decode cX4_isRow 1 = .ok (.ifnull 20, 3) := by decide +kernel
theorem dX4_isRow_4 : decode cX4_isRow 4 = .ok (.iload_n 1, 1) := by decide +kernel
theorem dX4_isRow_5 : decode cX4_isRow 5 = .ok (.ifCond .lt 16, 3) := by decide +kernel
theorem dX4_isRow_8 : decode cX4_isRow 8 = .ok (.iload_n 1, 1) := by decide +kernel
theorem dX4_isRow_9 : decode cX4_isRow 9 = .ok (.aload_n 0, 1) := by decide +kernel
theorem dX4_isRow_10 : decode cX4_isRow 10 = .ok (.arraylength, 1) := by decide +kernel
theorem dX4_isRow_11 : decode cX4_isRow 11 = .ok (.bipush 20, 2) := by decide +kernel
theorem dX4_isRow_13 : decode cX4_isRow 13 = .ok (.isub, 1) := by decide +kernel
theorem dX4_isRow_14 : decode cX4_isRow 14 = .ok (.if_icmp .gt 7, 3) := by decide +kernel
theorem dX4_isRow_17 : decode cX4_isRow 17 = .ok (.iconst 1, 1) := by decide +kernel
theorem dX4_isRow_18 : decode cX4_isRow 18 = .ok (.goto 4, 3) := by decide +kernel
theorem dX4_isRow_21 : decode cX4_isRow 21 = .ok (.iconst 0, 1) := by decide +kernel
theorem dX4_isRow_22 : decode cX4_isRow 22 = .ok (.ireturn, 1) := by decide +kernel
theorem dX5_init_0 : decode cX5_init 0 = .ok (.aload_n 0, 1) := by decide +kernel
theorem dX5_init_1 : decode cX5_init 1 = .ok (.invokespecial 3, 3) := by decide +kernel
theorem dX5_init_4 : decode cX5_init 4 = .ok (.aload_n 0, 1) := by decide +kernel
theorem dX5_init_5 : decode cX5_init 5 = .ok (.sipush 400, 3) := by decide +kernel
theorem dX5_init_8 : decode cX5_init 8 = .ok (.newarray .int, 2) := by decide +kernel
theorem dX5_init_10 : decode cX5_init 10 = .ok (.putfield 11, 3) := by decide +kernel
theorem dX5_init_13 : decode cX5_init 13 = .ok (.aload_n 0, 1) := by decide +kernel
theorem dX5_init_14 : decode cX5_init 14 = .ok (.iconst 0, 1) := by decide +kernel
theorem dX5_init_15 : decode cX5_init 15 = .ok (.putfield 17, 3) := by decide +kernel
theorem dX5_init_18 : decode cX5_init 18 = .ok (.aload_n 0, 1) := by decide +kernel
theorem dX5_init_19 : decode cX5_init 19 = .ok (.iconst 0, 1) := by decide +kernel
theorem dX5_init_20 : decode cX5_init 20 = .ok (.putfield 21, 3) := by decide +kernel
theorem dX5_init_23 : decode cX5_init 23 = .ok (.return_, 1) := by decide +kernel
theorem dX5_forget_0 : decode cX5_forget 0 = .ok (.aload_n 0, 1) := by decide +kernel
theorem dX5_forget_1 : decode cX5_forget 1 = .ok (.iconst 0, 1) := by decide +kernel
theorem dX5_forget_2 : decode cX5_forget 2 = .ok (.putfield 17, 3) := by decide +kernel
theorem dX5_forget_5 : decode cX5_forget 5 = .ok (.aload_n 0, 1) := by decide +kernel
theorem dX5_forget_6 : decode cX5_forget 6 = .ok (.iconst 0, 1) := by decide +kernel
theorem dX5_forget_7 : decode cX5_forget 7 = .ok (.putfield 21, 3) := by decide +kernel
theorem dX5_forget_10 : decode cX5_forget 10 = .ok (.return_, 1) := by decide +kernel
set_option maxRecDepth 20000 in
theorem ggX5_remember_X4_saveTo : GoodIn wsX5_remember wsX4_saveTo := goodIn_r _ [8, 9, 10, 11, 12, 13, 14, 15, 16, 17, 18, 19, 20, 21, 22, 7, 23, 27, 28, 29, 30, 31, 32, 33, 34, 35] (by decide +kernel) (by decide +kernel)
set_option maxRecDepth 20000 in
theorem gX5_remember_X4_saveTo : GoodIn wsX5_remember (wsV RX5 24 RX4 yX4_saveTo wsX4_saveTo) := goodIn_app (goodIn_of _ (by decide +kernel)) ggX5_remember_X4_saveTo
theorem dX5_remember_0 : decode cX5_remember 0 = .ok (.aload_n 0, 1) := by decide +kernel
theorem dX5_remember_1 : decode cX5_remember 1 = .ok (.getfield 17, 3) := by decide +kernel
theorem dX5_remember_4 : decode cX5_remember 4 = .ok (.aload_n 0, 1) := by decide +kernel
theorem dX5_remember_5 : decode cX5_remember 5 = .ok (.getfield 21, 3) := by decide +kernel
theorem dX5_remember_8 : decode cX5_remember 8 = .ok (.iadd, 1) := by decide +kernel
theorem dX5_remember_9 : decode cX5_remember 9 = .ok (.bipush 20, 2) := by decide +kernel
theorem dX5_remember_11 : decode cX5_remember 11 = .ok (.irem, 1) := by decide +kernel
theorem dX5_remember_12 : decode cX5_remember 12 = .ok (.istore_n 2, 1) := by decide +kernel
theorem dX5_remember_13 : decode cX5_remember 13 = .ok (.aload_n 1, 1) := by decide +kernel
theorem dX5_remember_14 : decode cX5_remember 14 = .ok (.aload_n 0, 1) := by decide +kernel
theorem dX5_remember_15 : decode cX5_remember 15 = .ok (.getfield 11, 3) := by decide +kernel
theorem dX5_remember_18 : decode cX5_remember 18 = .ok (.iload_n 2, 1) := by decide +kernel
theorem dX5_remember_19 : decode cX5_remember 19 = .ok (.bipush 20, 2) := by decide +kernel
theorem dX5_remember_21 : decode cX5_remember 21 = .ok (.imul, 1) := by decide +kernel
theorem dX5_remember_22 : decode cX5_remember 22 = .ok (.invokevirtual 24, 3) := by decide +kernel
theorem dX5_remember_25 : decode cX5_remember 25 = .ok (.aload_n 0, 1) := by decide +kernel
theorem dX5_remember_26 : decode cX5_remember 26 = .ok (.getfield 21, 3) := by decide +kernel
theorem dX5_remember_29 : decode cX5_remember 29 = .ok (.bipush 20, 2) := by decide +kernel
theorem dX5_remember_31 : decode cX5_remember 31 = .ok (.if_icmp .ge 16, 3) := by decide +kernel
theorem dX5_remember_34 : decode cX5_remember 34 = .ok (.aload_n 0, 1) := by decide +kernel
theorem dX5_remember_35 : decode cX5_remember 35 = .ok (.dup, 1) := by decide +kernel
theorem dX5_remember_36 : decode cX5_remember 36 = .ok (.getfield 21, 3) := by decide +kernel
theorem dX5_remember_39 : decode cX5_remember 39 = .ok (.iconst 1, 1) := by decide +kernel
theorem dX5_remember_40 : decode cX5_remember 40 = .ok (.iadd, 1) := by decide +kernel
theorem dX5_remember_41 : decode cX5_remember 41 = .ok (.putfield 21, 3) := by decide +kernel
theorem dX5_remember_44 : decode cX5_remember 44 = .ok (.goto 16, 3) := by decide +kernel
theorem dX5_remember_47 : decode cX5_remember 47 = .ok (.aload_n 0, 1) := by decide +kernel
theorem dX5_remember_48 : decode cX5_remember 48 = .ok (.aload_n 0, 1) := by decide +kernel
theorem dX5_remember_49 : decode cX5_remember 49 = .ok (.getfield 17, 3) := by decide +kernel
theorem dX5_remember_52 : decode cX5_remember 52 = .ok (.iconst 1, 1) := by decide +kernel
theorem dX5_remember_53 : decode cX5_remember 53 = .ok (.iadd, 1) := by decide +kernel
theorem dX5_remember_54 : decode cX5_remember 54 = .ok (.bipush 20, 2) := by decide +kernel
theorem dX5_remember_56 : decode cX5_remember 56 = .ok (.irem, 1) := by decide +kernel
theorem dX5_remember_57 : decode cX5_remember 57 = .ok (.putfield 17, 3) := by decide +kernel
theorem dX5_remember_60 : decode cX5_remember 60 = .ok (.return_, 1) := by decide +kernel
set_option maxRecDepth 20000 in
theorem ggX5_bringBack_X4_loadFrom : GoodIn wsX5_bringBack wsX4_loadFrom := goodIn_r _ [8, 9, 10, 11, 12, 13, 14, 15, 16, 17, 18, 19, 20, 21, 22, 7, 23, 27, 28, 29, 30, 31, 32, 33, 34, 35] (by decide +kernel) (by decide +kernel)
set_option maxRecDepth 20000 in
theorem gX5_bringBack_X4_loadFrom : GoodIn wsX5_bringBack (wsV RX5 28 RX4 yX4_loadFrom wsX4_loadFrom) := goodIn_app (goodIn_of _ (by decide +kernel)) ggX5_bringBack_X4_loadFrom
theorem dX5_bringBack_0 : decode cX5_bringBack 0 = .ok (.aload_n 0, 1) := by decide +kernel
theorem dX5_bringBack_1 : decode cX5_bringBack 1 = .ok (.getfield 21, 3) := by decide +kernel
theorem dX5_bringBack_4 : decode cX5_bringBack 4 = .ok (.ifCond .gt 5, 3) := by decide +kernel
theorem dX5_bringBack_7 : decode cX5_bringBack 7 = .ok (.iconst 0, 1) := by decide +kernel
theorem dX5_bringBack_8 : decode cX5_bringBack 8 = .ok (.ireturn, 1) := by decide +kernel
theorem dX5_bringBack_9 : decode cX5_bringBack 9 = .ok (.aload_n 0, 1) := by decide +kernel
theorem dX5_bringBack_10 : decode cX5_bringBack 10 = .ok (.dup, 1) := by decide +kernel
theorem dX5_bringBack_11 : decode cX5_bringBack 11 = .ok (.getfield 21, 3) := by decide +kernel
theorem dX5_bringBack_14 : decode cX5_bringBack 14 = .ok (.iconst 1, 1) := by decide +kernel
theorem dX5_bringBack_15 : decode cX5_bringBack 15 = .ok (.isub, 1) := by decide +kernel
theorem dX5_bringBack_16 : decode cX5_bringBack 16 = .ok (.putfield 21, 3) := by decide +kernel
theorem dX5_bringBack_19 : decode cX5_bringBack 19 = .ok (.aload_n 0, 1) := by decide +kernel
theorem dX5_bringBack_20 : decode cX5_bringBack 20 = .ok (.getfield 17, 3) := by decide +kernel
theorem dX5_bringBack_23 : decode cX5_bringBack 23 = .ok (.aload_n 0, 1) := by decide +kernel
theorem dX5_bringBack_24 : decode cX5_bringBack 24 = .ok (.getfield 21, 3) := by decide +kernel
theorem dX5_bringBack_27 : decode cX5_bringBack 27 = .ok (.iadd, 1) := by decide +kernel
theorem dX5_bringBack_28 : decode cX5_bringBack 28 = .ok (.bipush 20, 2) := by decide +kernel
theorem dX5_bringBack_30 : decode cX5_bringBack 30 = .ok (.irem, 1) := by decide +kernel
theorem dX5_bringBack_31 : decode cX5_bringBack 31 = .ok (.istore_n 2, 1) := by decide +kernel
theorem dX5_bringBack_32 : decode cX5_bringBack 32 = .ok (.aload_n 1, 1) := by decide +kernel
theorem dX5_bringBack_33 : decode cX5_bringBack 33 = .ok (.aload_n 0, 1) := by decide +kernel
theorem dX5_bringBack_34 : decode cX5_bringBack 34 = .ok (.getfield 11, 3) := by decide +kernel
theorem dX5_bringBack_37 : decode cX5_bringBack 37 = .ok (.iload_n 2, 1) := by decide +kernel
theorem dX5_bringBack_38 : decode cX5_bringBack 38 = .ok (.bipush 20, 2) := by decide +kernel
theorem dX5_bringBack_40 : decode cX5_bringBack 40 = .ok (.imul, 1) := by decide +kernel
theorem dX5_bringBack_41 : decode cX5_bringBack 41 = .ok (.invokevirtual 28, 3) := by decide +kernel
theorem dX5_bringBack_44 : decode cX5_bringBack 44 = .ok (.iconst 1, 1) := by decide +kernel
theorem dX5_bringBack_45 : decode cX5_bringBack 45 = .ok (.ireturn, 1) := by decide +kernel
theorem dX6_init_0 : decode cX6_init 0 = .ok (.aload_n 0, 1) := by decide +kernel
theorem dX6_init_1 : decode cX6_init 1 = .ok (.invokespecial 3, 3) := by decide +kernel
theorem dX6_init_4 : decode cX6_init 4 = .ok (.aload_n 0, 1) := by decide +kernel
theorem dX6_init_5 : decode cX6_init 5 = .ok (.iconst 5, 1) := by decide +kernel
theorem dX6_init_6 : decode cX6_init 6 = .ok (.newarray .int, 2) := by decide +kernel
theorem dX6_init_8 : decode cX6_init 8 = .ok (.putfield 9, 3) := by decide +kernel
theorem dX6_init_11 : decode cX6_init 11 = .ok (.return_, 1) := by decide +kernel
set_option maxRecDepth 20000 in
theorem ggX6_ask_X8_hasEater : GoodIn wsX6_ask wsX8_hasEater := goodIn_r _ [6, 7, 62, 63, 64, 65, 66, 67, 68, 69, 70, 71] (by decide +kernel) (by decide +kernel)
set_option maxRecDepth 20000 in
theorem gX6_ask_X8_hasEater : GoodIn wsX6_ask (wsV RX6 15 RX8 yX8_hasEater wsX8_hasEater) := goodIn_app (goodIn_of _ (by decide +kernel)) ggX6_ask_X8_hasEater
set_option maxRecDepth 20000 in
theorem ggX6_ask_X6_liking : GoodIn wsX6_ask wsX6_liking := goodIn_r _ [11, 12, 13, 14, 15, 16, 17, 18, 19, 20, 21, 5, 22, 23, 24, 25, 26, 27, 28, 29, 30, 31, 32, 33, 34, 35, 36, 37, 38, 39, 40, 41, 42, 43, 44, 45, 46, 47, 48, 49, 50, 51, 52, 3, 4, 6, 7, 53, 54, 55, 56, 57, 58, 59, 60, 72, 73, 74, 75, 76, 77, 78, 79, 80, 62, 63, 64, 65, 66, 67, 68, 69, 70, 71] (by decide +kernel) (by decide +kernel)
set_option maxRecDepth 20000 in
theorem gX6_ask_X6_liking : GoodIn wsX6_ask (va_wsS RX6 21 yX6_liking wsX6_liking) := goodIn_app (goodIn_of _ (by decide +kernel)) ggX6_ask_X6_liking
theorem dX6_ask_0 : decode cX6_ask 0 = .ok (.iconst 0, 1) := by decide +kernel
theorem dX6_ask_1 : decode cX6_ask 1 = .ok (.istore_n 3, 1) := by decide +kernel
theorem dX6_ask_2 : decode cX6_ask 2 = .ok (.iload_n 3, 1) := by decide +kernel
theorem dX6_ask_3 : decode cX6_ask 3 = .ok (.iconst 5, 1) := by decide +kernel
theorem dX6_ask_4 : decode cX6_ask 4 = .ok (.if_icmp .ge 33, 3) := by decide +kernel
theorem dX6_ask_7 : decode cX6_ask 7 = .ok (.aload_n 0, 1) := by decide +kernel
theorem dX6_ask_8 : decode cX6_ask 8 = .ok (.getfield 9, 3) := by decide +kernel
theorem dX6_ask_11 : decode cX6_ask 11 = .ok (.iload_n 3, 1) := by decide +kernel
theorem dX6_ask_12 : decode cX6_ask 12 = .ok (.aload_n 1, 1) := by decide +kernel
theorem dX6_ask_13 : decode cX6_ask 13 = .ok (.iload_n 3, 1) := by decide +kernel
theorem dX6_ask_14 : decode cX6_ask 14 = .ok (.invokevirtual 15, 3) := by decide +kernel
theorem dX6_ask_17 : decode cX6_ask 17 = .ok (.ifCond .eq 12, 3) := by decide +kernel
theorem dX6_ask_20 : decode cX6_ask 20 = .ok (.aload_n 1, 1) := by decide +kernel
theorem dX6_ask_21 : decode cX6_ask 21 = .ok (.aload_n 2, 1) := by decide +kernel
theorem dX6_ask_22 : decode cX6_ask 22 = .ok (.iload_n 3, 1) := by decide +kernel
theorem dX6_ask_23 : decode cX6_ask 23 = .ok (.invokestatic 21, 3) := by decide +kernel
theorem dX6_ask_26 : decode cX6_ask 26 = .ok (.goto 4, 3) := by decide +kernel
theorem dX6_ask_29 : decode cX6_ask 29 = .ok (.iconst 0, 1) := by decide +kernel
theorem dX6_ask_30 : decode cX6_ask 30 = .ok (.iastore, 1) := by decide +kernel
theorem dX6_ask_31 : decode cX6_ask 31 = .ok (.iinc 3 1, 3) := by decide +kernel
theorem dX6_ask_34 : decode cX6_ask 34 = .ok (.goto (-32), 3) := by decide +kernel
theorem dX6_ask_37 : decode cX6_ask 37 = .ok (.return_, 1) := by decide +kernel
set_option maxRecDepth 20000 in
theorem ggX6_liking_X4_stateOf : GoodIn wsX6_liking wsX4_stateOf := goodIn_r _ [5, 6, 7, 8, 9, 10, 11, 12, 13, 55, 56, 57, 58, 59, 60, 61, 62, 63, 64, 65, 66, 67, 68, 69, 70, 71, 72, 73] (by decide +kernel) (by decide +kernel)
set_option maxRecDepth 20000 in
theorem gX6_liking_X4_stateOf : GoodIn wsX6_liking (wsV RX6 25 RX4 yX4_stateOf wsX4_stateOf) := goodIn_app (goodIn_of _ (by decide +kernel)) ggX6_liking_X4_stateOf
set_option maxRecDepth 20000 in
theorem ggX6_liking_X4_hardnessOf : GoodIn wsX6_liking wsX4_hardnessOf := goodIn_r _ [17, 6, 18, 19, 20, 4, 21, 22, 8, 9, 10, 11, 12, 13, 23, 24, 25, 26, 27, 28, 29, 30, 31, 32, 33, 34, 35, 36, 55, 56, 57, 58, 59, 60, 61, 62, 63, 64, 65, 66, 67, 68, 69, 70, 71, 72, 73] (by decide +kernel) (by decide +kernel)
set_option maxRecDepth 20000 in
theorem gX6_liking_X4_hardnessOf : GoodIn wsX6_liking (wsV RX6 31 RX4 yX4_hardnessOf wsX4_hardnessOf) := goodIn_app (goodIn_of _ (by decide +kernel)) ggX6_liking_X4_hardnessOf
set_option maxRecDepth 20000 in
theorem ggX6_liking_X8_softestFor : GoodIn wsX6_liking wsX8_softestFor := goodIn_r _ [40, 41, 42, 43, 44, 11, 45, 46, 64, 65, 66, 67, 68, 69, 70, 71, 72, 73] (by decide +kernel) (by decide +kernel)
set_option maxRecDepth 20000 in
theorem gX6_liking_X8_softestFor : GoodIn wsX6_liking (wsV RX6 34 RX8 yX8_softestFor wsX8_softestFor) := goodIn_app (goodIn_of _ (by decide +kernel)) ggX6_liking_X8_softestFor
set_option maxRecDepth 20000 in
theorem ggX6_liking_X8_hardestFor : GoodIn wsX6_liking wsX8_hardestFor := goodIn_r _ [50, 51, 42, 43, 44, 11, 45, 46, 64, 65, 66, 67, 68, 69, 70, 71, 72, 73] (by decide +kernel) (by decide +kernel)
set_option maxRecDepth 20000 in
theorem gX6_liking_X8_hardestFor : GoodIn wsX6_liking (wsV RX6 37 RX8 yX8_hardestFor wsX8_hardestFor) := goodIn_app (goodIn_of _ (by decide +kernel)) ggX6_liking_X8_hardestFor
set_option maxRecDepth 20000 in
theorem ggX6_liking_X10_isWithin : GoodIn wsX6_liking wsX10_isWithin := goodIn_r _ [54] (by decide +kernel) (by decide +kernel)
set_option maxRecDepth 20000 in
theorem gX6_liking_X10_isWithin_n40 : GoodIn wsX6_liking (wsX10_isWithin) := ggX6_liking_X10_isWithin
theorem dX6_liking_0 : decode cX6_liking 0 = .ok (.iconst 0, 1) := by decide +kernel
theorem dX6_liking_1 : decode cX6_liking 1 = .ok (.istore_n 3, 1) := by decide +kernel
theorem dX6_liking_2 : decode cX6_liking 2 = .ok (.iconst 0, 1) := by decide +kernel
theorem dX6_liking_3 : decode cX6_liking 3 = .ok (.istore 4, 2) := by decide +kernel
theorem dX6_liking_5 : decode cX6_liking 5 = .ok (.iload 4, 2) := by decide +kernel
theorem dX6_liking_7 : decode cX6_liking 7 = .ok (.bipush 7, 2) := by decide +kernel
theorem dX6_liking_9 : decode cX6_liking 9 = .ok (.if_icmp .ge 64, 3) := by decide +kernel
theorem dX6_liking_12 : decode cX6_liking 12 = .ok (.aload_n 1, 1) := by decide +kernel
theorem dX6_liking_13 : decode cX6_liking 13 = .ok (.iload 4, 2) := by decide +kernel
theorem dX6_liking_15 : decode cX6_liking 15 = .ok (.invokevirtual 25, 3) := by decide +kernel
theorem dX6_liking_18 : decode cX6_liking 18 = .ok (.iconst 2, 1) := by decide +kernel
theorem dX6_liking_19 : decode cX6_liking 19 = .ok (.if_icmp .ne 29, 3) := by decide +kernel
theorem dX6_liking_22 : decode cX6_liking 22 = .ok (.aload_n 1, 1) := by decide +kernel
theorem dX6_liking_23 : decode cX6_liking 23 = .ok (.iload 4, 2) := by decide +kernel
theorem dX6_liking_25 : decode cX6_liking 25 = .ok (.invokevirtual 31, 3) := by decide +kernel
theorem dX6_liking_28 : decode cX6_liking 28 = .ok (.aload_n 0, 1) := by decide +kernel
theorem dX6_liking_29 : decode cX6_liking 29 = .ok (.iload_n 2, 1) := by decide +kernel
theorem dX6_liking_30 : decode cX6_liking 30 = .ok (.invokevirtual 34, 3) := by decide +kernel
theorem dX6_liking_33 : decode cX6_liking 33 = .ok (.aload_n 0, 1) := by decide +kernel
theorem dX6_liking_34 : decode cX6_liking 34 = .ok (.iload_n 2, 1) := by decide +kernel
theorem dX6_liking_35 : decode cX6_liking 35 = .ok (.invokevirtual 37, 3) := by decide +kernel
theorem dX6_liking_38 : decode cX6_liking 38 = .ok (.invokestatic 40, 3) := by decide +kernel
theorem dX6_liking_41 : decode cX6_liking 41 = .ok (.ifCond .eq 7, 3) := by decide +kernel
theorem dX6_liking_44 : decode cX6_liking 44 = .ok (.iconst 1, 1) := by decide +kernel
theorem dX6_liking_45 : decode cX6_liking 45 = .ok (.goto 4, 3) := by decide +kernel
theorem dX6_liking_48 : decode cX6_liking 48 = .ok (.iconst 0, 1) := by decide +kernel
theorem dX6_liking_49 : decode cX6_liking 49 = .ok (.istore 5, 2) := by decide +kernel
theorem dX6_liking_51 : decode cX6_liking 51 = .ok (.iload_n 3, 1) := by decide +kernel
theorem dX6_liking_52 : decode cX6_liking 52 = .ok (.iload 5, 2) := by decide +kernel
theorem dX6_liking_54 : decode cX6_liking 54 = .ok (.ifCond .eq 10, 3) := by decide +kernel
theorem dX6_liking_57 : decode cX6_liking 57 = .ok (.iconst 1, 1) := by decide +kernel
theorem dX6_liking_58 : decode cX6_liking 58 = .ok (.iload 4, 2) := by decide +kernel
theorem dX6_liking_60 : decode cX6_liking 60 = .ok (.ishl, 1) := by decide +kernel
theorem dX6_liking_61 : decode cX6_liking 61 = .ok (.goto 4, 3) := by decide +kernel
theorem dX6_liking_64 : decode cX6_liking 64 = .ok (.iconst 0, 1) := by decide +kernel
theorem dX6_liking_65 : decode cX6_liking 65 = .ok (.ior, 1) := by decide +kernel
theorem dX6_liking_66 : decode cX6_liking 66 = .ok (.istore_n 3, 1) := by decide +kernel
theorem dX6_liking_67 : decode cX6_liking 67 = .ok (.iinc 4 1, 3) := by decide +kernel
theorem dX6_liking_70 : decode cX6_liking 70 = .ok (.goto (-65), 3) := by decide +kernel
theorem dX6_liking_73 : decode cX6_liking 73 = .ok (.iload_n 3, 1) := by decide +kernel
theorem dX6_liking_74 : decode cX6_liking 74 = .ok (.ireturn, 1) := by decide +kernel
set_option maxRecDepth 20000 in
theorem ggX6_most_X6_mostPairs : GoodIn wsX6_most wsX6_mostPairs := goodIn_r _ [5, 6, 7, 8, 9, 10, 11, 12, 2, 3, 4, 13, 14, 15, 16, 17, 18, 19] (by decide +kernel) (by decide +kernel)
set_option maxRecDepth 20000 in
theorem gX6_most_X6_mostPairs : GoodIn wsX6_most (va_wsS RX6 44 yX6_mostPairs wsX6_mostPairs) := goodIn_app (goodIn_of _ (by decide +kernel)) ggX6_most_X6_mostPairs
theorem dX6_most_0 : decode cX6_most 0 = .ok (.aload_n 0, 1) := by decide +kernel
theorem dX6_most_1 : decode cX6_most 1 = .ok (.getfield 9, 3) := by decide +kernel
theorem dX6_most_4 : decode cX6_most 4 = .ok (.iconst 0, 1) := by decide +kernel
theorem dX6_most_5 : decode cX6_most 5 = .ok (.bipush 127, 2) := by decide +kernel
theorem dX6_most_7 : decode cX6_most 7 = .ok (.invokestatic 44, 3) := by decide +kernel
theorem dX6_most_10 : decode cX6_most 10 = .ok (.ireturn, 1) := by decide +kernel
set_option maxRecDepth 20000 in
theorem ggX6_eggFor_X6_most : GoodIn wsX6_eggFor wsX6_most := goodIn_r _ [5, 6, 7, 8, 4, 9, 10, 11, 12, 13, 14, 15, 16, 17, 18, 19, 20, 21, 22, 23, 28] (by decide +kernel) (by decide +kernel)
set_option maxRecDepth 20000 in
theorem gX6_eggFor_X6_most : GoodIn wsX6_eggFor (wsV RX6 48 RX6 yX6_most wsX6_most) := goodIn_app (goodIn_of _ (by decide +kernel)) ggX6_eggFor_X6_most
set_option maxRecDepth 20000 in
theorem ggX6_eggFor_X6_firstEgg : GoodIn wsX6_eggFor wsX6_firstEgg := goodIn_r _ [27, 6, 7, 8, 4, 9, 10, 11, 12, 13, 14, 15, 16, 17, 18, 19, 20, 21, 22, 23, 28] (by decide +kernel) (by decide +kernel)
set_option maxRecDepth 20000 in
theorem gX6_eggFor_X6_firstEgg : GoodIn wsX6_eggFor (wsV RX6 52 RX6 yX6_firstEgg wsX6_firstEgg) := goodIn_app (goodIn_of _ (by decide +kernel)) ggX6_eggFor_X6_firstEgg
theorem dX6_eggFor_0 : decode cX6_eggFor 0 = .ok (.bipush 127, 2) := by decide +kernel
theorem dX6_eggFor_2 : decode cX6_eggFor 2 = .ok (.istore_n 2, 1) := by decide +kernel
theorem dX6_eggFor_3 : decode cX6_eggFor 3 = .ok (.aload_n 0, 1) := by decide +kernel
theorem dX6_eggFor_4 : decode cX6_eggFor 4 = .ok (.invokevirtual 48, 3) := by decide +kernel
theorem dX6_eggFor_7 : decode cX6_eggFor 7 = .ok (.istore_n 3, 1) := by decide +kernel
theorem dX6_eggFor_8 : decode cX6_eggFor 8 = .ok (.iconst (-1), 1) := by decide +kernel
theorem dX6_eggFor_9 : decode cX6_eggFor 9 = .ok (.istore 4, 2) := by decide +kernel
theorem dX6_eggFor_11 : decode cX6_eggFor 11 = .ok (.iconst 0, 1) := by decide +kernel
theorem dX6_eggFor_12 : decode cX6_eggFor 12 = .ok (.istore 5, 2) := by decide +kernel
theorem dX6_eggFor_14 : decode cX6_eggFor 14 = .ok (.iload 5, 2) := by decide +kernel
theorem dX6_eggFor_16 : decode cX6_eggFor 16 = .ok (.iload_n 1, 1) := by decide +kernel
theorem dX6_eggFor_17 : decode cX6_eggFor 17 = .ok (.if_icmp .gt 43, 3) := by decide +kernel
theorem dX6_eggFor_20 : decode cX6_eggFor 20 = .ok (.iload 5, 2) := by decide +kernel
theorem dX6_eggFor_22 : decode cX6_eggFor 22 = .ok (.iconst 5, 1) := by decide +kernel
theorem dX6_eggFor_23 : decode cX6_eggFor 23 = .ok (.if_icmp .ge 37, 3) := by decide +kernel
theorem dX6_eggFor_26 : decode cX6_eggFor 26 = .ok (.aload_n 0, 1) := by decide +kernel
theorem dX6_eggFor_27 : decode cX6_eggFor 27 = .ok (.iload 5, 2) := by decide +kernel
theorem dX6_eggFor_29 : decode cX6_eggFor 29 = .ok (.iload_n 2, 1) := by decide +kernel
theorem dX6_eggFor_30 : decode cX6_eggFor 30 = .ok (.iload_n 3, 1) := by decide +kernel
theorem dX6_eggFor_31 : decode cX6_eggFor 31 = .ok (.invokevirtual 52, 3) := by decide +kernel
theorem dX6_eggFor_34 : decode cX6_eggFor 34 = .ok (.istore 4, 2) := by decide +kernel
theorem dX6_eggFor_36 : decode cX6_eggFor 36 = .ok (.iload 4, 2) := by decide +kernel
theorem dX6_eggFor_38 : decode cX6_eggFor 38 = .ok (.iconst (-1), 1) := by decide +kernel
theorem dX6_eggFor_39 : decode cX6_eggFor 39 = .ok (.if_icmp .eq 15, 3) := by decide +kernel
theorem dX6_eggFor_42 : decode cX6_eggFor 42 = .ok (.iload_n 2, 1) := by decide +kernel
theorem dX6_eggFor_43 : decode cX6_eggFor 43 = .ok (.iconst 1, 1) := by decide +kernel
theorem dX6_eggFor_44 : decode cX6_eggFor 44 = .ok (.iload 4, 2) := by decide +kernel
theorem dX6_eggFor_46 : decode cX6_eggFor 46 = .ok (.ishl, 1) := by decide +kernel
theorem dX6_eggFor_47 : decode cX6_eggFor 47 = .ok (.iconst (-1), 1) := by decide +kernel
theorem dX6_eggFor_48 : decode cX6_eggFor 48 = .ok (.ixor, 1) := by decide +kernel
theorem dX6_eggFor_49 : decode cX6_eggFor 49 = .ok (.iand, 1) := by decide +kernel
theorem dX6_eggFor_50 : decode cX6_eggFor 50 = .ok (.istore_n 2, 1) := by decide +kernel
theorem dX6_eggFor_51 : decode cX6_eggFor 51 = .ok (.iinc 3 (-1), 3) := by decide +kernel
theorem dX6_eggFor_54 : decode cX6_eggFor 54 = .ok (.iinc 5 1, 3) := by decide +kernel
theorem dX6_eggFor_57 : decode cX6_eggFor 57 = .ok (.goto (-43), 3) := by decide +kernel
theorem dX6_eggFor_60 : decode cX6_eggFor 60 = .ok (.iload 4, 2) := by decide +kernel
theorem dX6_eggFor_62 : decode cX6_eggFor 62 = .ok (.ireturn, 1) := by decide +kernel
set_option maxRecDepth 20000 in
theorem ggX6_firstEgg_X6_mostPairs : GoodIn wsX6_firstEgg wsX6_mostPairs := goodIn_r _ [5, 6, 7, 8, 9, 10, 11, 12, 2, 3, 4, 13, 14, 15, 16, 17, 18, 19] (by decide +kernel) (by decide +kernel)
set_option maxRecDepth 20000 in
theorem gX6_firstEgg_X6_mostPairs : GoodIn wsX6_firstEgg (va_wsS RX6 44 yX6_mostPairs wsX6_mostPairs) := goodIn_app (goodIn_of _ (by decide +kernel)) ggX6_firstEgg_X6_mostPairs
theorem dX6_firstEgg_0 : decode cX6_firstEgg 0 = .ok (.iload_n 1, 1) := by decide +kernel
theorem dX6_firstEgg_1 : decode cX6_firstEgg 1 = .ok (.ifCond .lt 19, 3) := by decide +kernel
theorem dX6_firstEgg_4 : decode cX6_firstEgg 4 = .ok (.iload_n 1, 1) := by decide +kernel
theorem dX6_firstEgg_5 : decode cX6_firstEgg 5 = .ok (.iconst 5, 1) := by decide +kernel
theorem dX6_firstEgg_6 : decode cX6_firstEgg 6 = .ok (.if_icmp .ge 14, 3) := by decide +kernel
theorem dX6_firstEgg_9 : decode cX6_firstEgg 9 = .ok (.aload_n 0, 1) := by decide +kernel
theorem dX6_firstEgg_10 : decode cX6_firstEgg 10 = .ok (.getfield 9, 3) := by decide +kernel
theorem dX6_firstEgg_13 : decode cX6_firstEgg 13 = .ok (.iload_n 1, 1) := by decide +kernel
theorem dX6_firstEgg_14 : decode cX6_firstEgg 14 = .ok (.iaload, 1) := by decide +kernel
theorem dX6_firstEgg_15 : decode cX6_firstEgg 15 = .ok (.iload_n 2, 1) := by decide +kernel
theorem dX6_firstEgg_16 : decode cX6_firstEgg 16 = .ok (.iand, 1) := by decide +kernel
theorem dX6_firstEgg_17 : decode cX6_firstEgg 17 = .ok (.goto 4, 3) := by decide +kernel
theorem dX6_firstEgg_20 : decode cX6_firstEgg 20 = .ok (.iconst 0, 1) := by decide +kernel
theorem dX6_firstEgg_21 : decode cX6_firstEgg 21 = .ok (.istore 4, 2) := by decide +kernel
theorem dX6_firstEgg_23 : decode cX6_firstEgg 23 = .ok (.iconst 0, 1) := by decide +kernel
theorem dX6_firstEgg_24 : decode cX6_firstEgg 24 = .ok (.istore 5, 2) := by decide +kernel
theorem dX6_firstEgg_26 : decode cX6_firstEgg 26 = .ok (.iload 5, 2) := by decide +kernel
theorem dX6_firstEgg_28 : decode cX6_firstEgg 28 = .ok (.bipush 7, 2) := by decide +kernel
theorem dX6_firstEgg_30 : decode cX6_firstEgg 30 = .ok (.if_icmp .ge 59, 3) := by decide +kernel
theorem dX6_firstEgg_33 : decode cX6_firstEgg 33 = .ok (.iload 4, 2) := by decide +kernel
theorem dX6_firstEgg_35 : decode cX6_firstEgg 35 = .ok (.iload 5, 2) := by decide +kernel
theorem dX6_firstEgg_37 : decode cX6_firstEgg 37 = .ok (.ishr, 1) := by decide +kernel
theorem dX6_firstEgg_38 : decode cX6_firstEgg 38 = .ok (.iconst 1, 1) := by decide +kernel
theorem dX6_firstEgg_39 : decode cX6_firstEgg 39 = .ok (.iand, 1) := by decide +kernel
theorem dX6_firstEgg_40 : decode cX6_firstEgg 40 = .ok (.iconst 1, 1) := by decide +kernel
theorem dX6_firstEgg_41 : decode cX6_firstEgg 41 = .ok (.if_icmp .ne 7, 3) := by decide +kernel
theorem dX6_firstEgg_44 : decode cX6_firstEgg 44 = .ok (.iconst 1, 1) := by decide +kernel
theorem dX6_firstEgg_45 : decode cX6_firstEgg 45 = .ok (.goto 4, 3) := by decide +kernel
theorem dX6_firstEgg_48 : decode cX6_firstEgg 48 = .ok (.iconst 0, 1) := by decide +kernel
theorem dX6_firstEgg_49 : decode cX6_firstEgg 49 = .ok (.istore 6, 2) := by decide +kernel
theorem dX6_firstEgg_51 : decode cX6_firstEgg 51 = .ok (.iload 6, 2) := by decide +kernel
theorem dX6_firstEgg_53 : decode cX6_firstEgg 53 = .ok (.ifCond .eq 30, 3) := by decide +kernel
theorem dX6_firstEgg_56 : decode cX6_firstEgg 56 = .ok (.iconst 1, 1) := by decide +kernel
theorem dX6_firstEgg_57 : decode cX6_firstEgg 57 = .ok (.aload_n 0, 1) := by decide +kernel
theorem dX6_firstEgg_58 : decode cX6_firstEgg 58 = .ok (.getfield 9, 3) := by decide +kernel
theorem dX6_firstEgg_61 : decode cX6_firstEgg 61 = .ok (.iload_n 1, 1) := by decide +kernel
theorem dX6_firstEgg_62 : decode cX6_firstEgg 62 = .ok (.iconst 1, 1) := by decide +kernel
theorem dX6_firstEgg_63 : decode cX6_firstEgg 63 = .ok (.iadd, 1) := by decide +kernel
theorem dX6_firstEgg_64 : decode cX6_firstEgg 64 = .ok (.iload_n 2, 1) := by decide +kernel
theorem dX6_firstEgg_65 : decode cX6_firstEgg 65 = .ok (.iconst 1, 1) := by decide +kernel
theorem dX6_firstEgg_66 : decode cX6_firstEgg 66 = .ok (.iload 5, 2) := by decide +kernel
theorem dX6_firstEgg_68 : decode cX6_firstEgg 68 = .ok (.ishl, 1) := by decide +kernel
theorem dX6_firstEgg_69 : decode cX6_firstEgg 69 = .ok (.iconst (-1), 1) := by decide +kernel
theorem dX6_firstEgg_70 : decode cX6_firstEgg 70 = .ok (.ixor, 1) := by decide +kernel
theorem dX6_firstEgg_71 : decode cX6_firstEgg 71 = .ok (.iand, 1) := by decide +kernel
theorem dX6_firstEgg_72 : decode cX6_firstEgg 72 = .ok (.invokestatic 44, 3) := by decide +kernel
theorem dX6_firstEgg_75 : decode cX6_firstEgg 75 = .ok (.iadd, 1) := by decide +kernel
theorem dX6_firstEgg_76 : decode cX6_firstEgg 76 = .ok (.iload_n 3, 1) := by decide +kernel
theorem dX6_firstEgg_77 : decode cX6_firstEgg 77 = .ok (.if_icmp .ne 6, 3) := by decide +kernel
theorem dX6_firstEgg_80 : decode cX6_firstEgg 80 = .ok (.iload 5, 2) := by decide +kernel
theorem dX6_firstEgg_82 : decode cX6_firstEgg 82 = .ok (.ireturn, 1) := by decide +kernel
theorem dX6_firstEgg_83 : decode cX6_firstEgg 83 = .ok (.iinc 5 1, 3) := by decide +kernel
theorem dX6_firstEgg_86 : decode cX6_firstEgg 86 = .ok (.goto (-60), 3) := by decide +kernel
theorem dX6_firstEgg_89 : decode cX6_firstEgg 89 = .ok (.iconst (-1), 1) := by decide +kernel
theorem dX6_firstEgg_90 : decode cX6_firstEgg 90 = .ok (.ireturn, 1) := by decide +kernel
set_option maxRecDepth 20000 in
theorem ggX6_mostPairs_X6_mostPairs : GoodIn wsX6_mostPairs wsX6_mostPairs := goodIn_r _ [0, 1, 2, 3, 4, 5, 6, 7, 8, 9, 10, 11, 12, 13, 14, 15, 16, 17] (by decide +kernel) (by decide +kernel)
set_option maxRecDepth 20000 in
theorem gX6_mostPairs_X6_mostPairs : GoodIn wsX6_mostPairs (va_wsS RX6 44 yX6_mostPairs wsX6_mostPairs) := goodIn_app (goodIn_of _ (by decide +kernel)) ggX6_mostPairs_X6_mostPairs
set_option maxRecDepth 20000 in
theorem ggX6_mostPairs_J6_bitCount_0f7a4 : GoodIn wsX6_mostPairs wsJ6_bitCount_0f7a4 := goodIn_r _ [14, 15, 16, 17] (by decide +kernel) (by decide +kernel)
set_option maxRecDepth 20000 in
theorem gX6_mostPairs_J6_bitCount_0f7a4 : GoodIn wsX6_mostPairs (va_wsS RX6 56 yJ6_bitCount_0f7a4 wsJ6_bitCount_0f7a4) := goodIn_app (goodIn_of _ (by decide +kernel)) ggX6_mostPairs_J6_bitCount_0f7a4
theorem dX6_mostPairs_0 : decode cX6_mostPairs 0 = .ok (.iload_n 1, 1) := by decide +kernel
theorem dX6_mostPairs_1 : decode cX6_mostPairs 1 = .ok (.ifCond .lt 9, 3) := by decide +kernel
theorem dX6_mostPairs_4 : decode cX6_mostPairs 4 = .ok (.iload_n 1, 1) := by decide +kernel
theorem dX6_mostPairs_5 : decode cX6_mostPairs 5 = .ok (.aload_n 0, 1) := by decide +kernel
theorem dX6_mostPairs_6 : decode cX6_mostPairs 6 = .ok (.arraylength, 1) := by decide +kernel
theorem dX6_mostPairs_7 : decode cX6_mostPairs 7 = .ok (.if_icmp .lt 5, 3) := by decide +kernel
theorem dX6_mostPairs_10 : decode cX6_mostPairs 10 = .ok (.iconst 0, 1) := by decide +kernel
theorem dX6_mostPairs_11 : decode cX6_mostPairs 11 = .ok (.ireturn, 1) := by decide +kernel
theorem dX6_mostPairs_12 : decode cX6_mostPairs 12 = .ok (.aload_n 0, 1) := by decide +kernel
theorem dX6_mostPairs_13 : decode cX6_mostPairs 13 = .ok (.iload_n 1, 1) := by decide +kernel
theorem dX6_mostPairs_14 : decode cX6_mostPairs 14 = .ok (.iconst 1, 1) := by decide +kernel
theorem dX6_mostPairs_15 : decode cX6_mostPairs 15 = .ok (.iadd, 1) := by decide +kernel
theorem dX6_mostPairs_16 : decode cX6_mostPairs 16 = .ok (.iload_n 2, 1) := by decide +kernel
theorem dX6_mostPairs_17 : decode cX6_mostPairs 17 = .ok (.invokestatic 44, 3) := by decide +kernel
theorem dX6_mostPairs_20 : decode cX6_mostPairs 20 = .ok (.istore_n 3, 1) := by decide +kernel
theorem dX6_mostPairs_21 : decode cX6_mostPairs 21 = .ok (.aload_n 0, 1) := by decide +kernel
theorem dX6_mostPairs_22 : decode cX6_mostPairs 22 = .ok (.iload_n 1, 1) := by decide +kernel
theorem dX6_mostPairs_23 : decode cX6_mostPairs 23 = .ok (.iaload, 1) := by decide +kernel
theorem dX6_mostPairs_24 : decode cX6_mostPairs 24 = .ok (.iload_n 2, 1) := by decide +kernel
theorem dX6_mostPairs_25 : decode cX6_mostPairs 25 = .ok (.iand, 1) := by decide +kernel
theorem dX6_mostPairs_26 : decode cX6_mostPairs 26 = .ok (.istore 4, 2) := by decide +kernel
theorem dX6_mostPairs_28 : decode cX6_mostPairs 28 = .ok (.aload_n 0, 1) := by decide +kernel
theorem dX6_mostPairs_29 : decode cX6_mostPairs 29 = .ok (.arraylength, 1) := by decide +kernel
theorem dX6_mostPairs_30 : decode cX6_mostPairs 30 = .ok (.iload_n 1, 1) := by decide +kernel
theorem dX6_mostPairs_31 : decode cX6_mostPairs 31 = .ok (.isub, 1) := by decide +kernel
theorem dX6_mostPairs_32 : decode cX6_mostPairs 32 = .ok (.iload_n 2, 1) := by decide +kernel
theorem dX6_mostPairs_33 : decode cX6_mostPairs 33 = .ok (.invokestatic 56, 3) := by decide +kernel
theorem dX6_mostPairs_36 : decode cX6_mostPairs 36 = .ok (.invokestatic 61, 3) := by decide +kernel
theorem dX6_mostPairs_39 : decode cX6_mostPairs 39 = .ok (.istore 5, 2) := by decide +kernel
theorem dX6_mostPairs_41 : decode cX6_mostPairs 41 = .ok (.iconst 0, 1) := by decide +kernel
theorem dX6_mostPairs_42 : decode cX6_mostPairs 42 = .ok (.istore 6, 2) := by decide +kernel
theorem dX6_mostPairs_44 : decode cX6_mostPairs 44 = .ok (.iload 6, 2) := by decide +kernel
theorem dX6_mostPairs_46 : decode cX6_mostPairs 46 = .ok (.bipush 7, 2) := by decide +kernel
theorem dX6_mostPairs_48 : decode cX6_mostPairs 48 = .ok (.if_icmp .ge 48, 3) := by decide +kernel
theorem dX6_mostPairs_51 : decode cX6_mostPairs 51 = .ok (.iload_n 3, 1) := by decide +kernel
theorem dX6_mostPairs_52 : decode cX6_mostPairs 52 = .ok (.iload 5, 2) := by decide +kernel
theorem dX6_mostPairs_54 : decode cX6_mostPairs 54 = .ok (.if_icmp .ge 42, 3) := by decide +kernel
theorem dX6_mostPairs_57 : decode cX6_mostPairs 57 = .ok (.iload 4, 2) := by decide +kernel
theorem dX6_mostPairs_59 : decode cX6_mostPairs 59 = .ok (.iload 6, 2) := by decide +kernel
theorem dX6_mostPairs_61 : decode cX6_mostPairs 61 = .ok (.ishr, 1) := by decide +kernel
theorem dX6_mostPairs_62 : decode cX6_mostPairs 62 = .ok (.iconst 1, 1) := by decide +kernel
theorem dX6_mostPairs_63 : decode cX6_mostPairs 63 = .ok (.iand, 1) := by decide +kernel
theorem dX6_mostPairs_64 : decode cX6_mostPairs 64 = .ok (.iconst 1, 1) := by decide +kernel
theorem dX6_mostPairs_65 : decode cX6_mostPairs 65 = .ok (.if_icmp .ne 25, 3) := by decide +kernel
theorem dX6_mostPairs_68 : decode cX6_mostPairs 68 = .ok (.iload_n 3, 1) := by decide +kernel
theorem dX6_mostPairs_69 : decode cX6_mostPairs 69 = .ok (.iconst 1, 1) := by decide +kernel
theorem dX6_mostPairs_70 : decode cX6_mostPairs 70 = .ok (.aload_n 0, 1) := by decide +kernel
theorem dX6_mostPairs_71 : decode cX6_mostPairs 71 = .ok (.iload_n 1, 1) := by decide +kernel
theorem dX6_mostPairs_72 : decode cX6_mostPairs 72 = .ok (.iconst 1, 1) := by decide +kernel
theorem dX6_mostPairs_73 : decode cX6_mostPairs 73 = .ok (.iadd, 1) := by decide +kernel
theorem dX6_mostPairs_74 : decode cX6_mostPairs 74 = .ok (.iload_n 2, 1) := by decide +kernel
theorem dX6_mostPairs_75 : decode cX6_mostPairs 75 = .ok (.iconst 1, 1) := by decide +kernel
theorem dX6_mostPairs_76 : decode cX6_mostPairs 76 = .ok (.iload 6, 2) := by decide +kernel
theorem dX6_mostPairs_78 : decode cX6_mostPairs 78 = .ok (.ishl, 1) := by decide +kernel
theorem dX6_mostPairs_79 : decode cX6_mostPairs 79 = .ok (.iconst (-1), 1) := by decide +kernel
theorem dX6_mostPairs_80 : decode cX6_mostPairs 80 = .ok (.ixor, 1) := by decide +kernel
theorem dX6_mostPairs_81 : decode cX6_mostPairs 81 = .ok (.iand, 1) := by decide +kernel
theorem dX6_mostPairs_82 : decode cX6_mostPairs 82 = .ok (.invokestatic 44, 3) := by decide +kernel
theorem dX6_mostPairs_85 : decode cX6_mostPairs 85 = .ok (.iadd, 1) := by decide +kernel
theorem dX6_mostPairs_86 : decode cX6_mostPairs 86 = .ok (.invokestatic 67, 3) := by decide +kernel
theorem dX6_mostPairs_89 : decode cX6_mostPairs 89 = .ok (.istore_n 3, 1) := by decide +kernel
theorem dX6_mostPairs_90 : decode cX6_mostPairs 90 = .ok (.iinc 6 1, 3) := by decide +kernel
theorem dX6_mostPairs_93 : decode cX6_mostPairs 93 = .ok (.goto (-49), 3) := by decide +kernel
theorem dX6_mostPairs_96 : decode cX6_mostPairs 96 = .ok (.iload_n 3, 1) := by decide +kernel
theorem dX6_mostPairs_97 : decode cX6_mostPairs 97 = .ok (.ireturn, 1) := by decide +kernel
theorem dX7_init_0 : decode cX7_init 0 = .ok (.aload_n 0, 1) := by decide +kernel
theorem dX7_init_1 : decode cX7_init 1 = .ok (.invokespecial 3, 3) := by decide +kernel
theorem dX7_init_4 : decode cX7_init 4 = .ok (.aload_n 0, 1) := by decide +kernel
theorem dX7_init_5 : decode cX7_init 5 = .ok (.iconst 0, 1) := by decide +kernel
theorem dX7_init_6 : decode cX7_init 6 = .ok (.putfield 9, 3) := by decide +kernel
theorem dX7_init_9 : decode cX7_init 9 = .ok (.aload_n 0, 1) := by decide +kernel
theorem dX7_init_10 : decode cX7_init 10 = .ok (.iconst 0, 1) := by decide +kernel
theorem dX7_init_11 : decode cX7_init 11 = .ok (.putfield 15, 3) := by decide +kernel
theorem dX7_init_14 : decode cX7_init 14 = .ok (.aload_n 0, 1) := by decide +kernel
theorem dX7_init_15 : decode cX7_init 15 = .ok (.iconst 0, 1) := by decide +kernel
theorem dX7_init_16 : decode cX7_init 16 = .ok (.putfield 18, 3) := by decide +kernel
theorem dX7_init_19 : decode cX7_init 19 = .ok (.return_, 1) := by decide +kernel
set_option maxRecDepth 20000 in
theorem ggX7_tryAll_X4_setThatIs : GoodIn wsX7_tryAll wsX4_setThatIs := goodIn_r _ [8, 9, 10, 11, 7, 12, 13, 14, 15, 16, 17, 18, 19, 20, 67, 68, 69, 70, 71, 72, 73, 74, 75, 76, 77, 78, 79, 80, 81, 82, 83, 84, 85] (by decide +kernel) (by decide +kernel)
set_option maxRecDepth 20000 in
theorem gX7_tryAll_X4_setThatIs : GoodIn wsX7_tryAll (wsV RX7 21 RX4 yX4_setThatIs wsX4_setThatIs) := goodIn_app (goodIn_of _ (by decide +kernel)) ggX7_tryAll_X4_setThatIs
set_option maxRecDepth 20000 in
theorem ggX7_tryAll_X7_weigh : GoodIn wsX7_tryAll wsX7_weigh := goodIn_r _ [25, 1, 2, 3, 26, 27, 28, 29, 30, 31, 32, 33, 34, 35, 7, 36, 13, 37, 38, 39, 40, 41, 15, 16, 17, 18, 19, 20, 42, 43, 44, 45, 46, 47, 48, 49, 50, 51, 52, 53, 54, 55, 56, 57, 58, 59, 60, 61, 62, 63, 67, 68, 69, 70, 71, 72, 73, 74, 75, 64, 65, 66, 76, 77, 78, 79, 80, 81, 82, 83, 84, 85] (by decide +kernel) (by decide +kernel)
set_option maxRecDepth 20000 in
theorem gX7_tryAll_X7_weigh : GoodIn wsX7_tryAll (wsV RX7 27 RX7 yX7_weigh wsX7_weigh) := goodIn_app (goodIn_of _ (by decide +kernel)) ggX7_tryAll_X7_weigh
theorem dX7_tryAll_0 : decode cX7_tryAll 0 = .ok (.aload_n 0, 1) := by decide +kernel
theorem dX7_tryAll_1 : decode cX7_tryAll 1 = .ok (.iconst 0, 1) := by decide +kernel
theorem dX7_tryAll_2 : decode cX7_tryAll 2 = .ok (.putfield 9, 3) := by decide +kernel
theorem dX7_tryAll_5 : decode cX7_tryAll 5 = .ok (.aload_n 0, 1) := by decide +kernel
theorem dX7_tryAll_6 : decode cX7_tryAll 6 = .ok (.iconst 0, 1) := by decide +kernel
theorem dX7_tryAll_7 : decode cX7_tryAll 7 = .ok (.putfield 15, 3) := by decide +kernel
theorem dX7_tryAll_10 : decode cX7_tryAll 10 = .ok (.aload_n 0, 1) := by decide +kernel
theorem dX7_tryAll_11 : decode cX7_tryAll 11 = .ok (.iconst 0, 1) := by decide +kernel
theorem dX7_tryAll_12 : decode cX7_tryAll 12 = .ok (.putfield 18, 3) := by decide +kernel
theorem dX7_tryAll_15 : decode cX7_tryAll 15 = .ok (.aload_n 1, 1) := by decide +kernel
theorem dX7_tryAll_16 : decode cX7_tryAll 16 = .ok (.iconst 2, 1) := by decide +kernel
theorem dX7_tryAll_17 : decode cX7_tryAll 17 = .ok (.invokevirtual 21, 3) := by decide +kernel
theorem dX7_tryAll_20 : decode cX7_tryAll 20 = .ok (.istore_n 2, 1) := by decide +kernel
theorem dX7_tryAll_21 : decode cX7_tryAll 21 = .ok (.iconst 1, 1) := by decide +kernel
theorem dX7_tryAll_22 : decode cX7_tryAll 22 = .ok (.istore_n 3, 1) := by decide +kernel
theorem dX7_tryAll_23 : decode cX7_tryAll 23 = .ok (.iload_n 3, 1) := by decide +kernel
theorem dX7_tryAll_24 : decode cX7_tryAll 24 = .ok (.sipush 128, 3) := by decide +kernel
theorem dX7_tryAll_27 : decode cX7_tryAll 27 = .ok (.if_icmp .ge 23, 3) := by decide +kernel
theorem dX7_tryAll_30 : decode cX7_tryAll 30 = .ok (.iload_n 3, 1) := by decide +kernel
theorem dX7_tryAll_31 : decode cX7_tryAll 31 = .ok (.iload_n 2, 1) := by decide +kernel
theorem dX7_tryAll_32 : decode cX7_tryAll 32 = .ok (.iconst (-1), 1) := by decide +kernel
theorem dX7_tryAll_33 : decode cX7_tryAll 33 = .ok (.ixor, 1) := by decide +kernel
theorem dX7_tryAll_34 : decode cX7_tryAll 34 = .ok (.iand, 1) := by decide +kernel
theorem dX7_tryAll_35 : decode cX7_tryAll 35 = .ok (.ifCond .ne 9, 3) := by decide +kernel
theorem dX7_tryAll_38 : decode cX7_tryAll 38 = .ok (.aload_n 0, 1) := by decide +kernel
theorem dX7_tryAll_39 : decode cX7_tryAll 39 = .ok (.aload_n 1, 1) := by decide +kernel
theorem dX7_tryAll_40 : decode cX7_tryAll 40 = .ok (.iload_n 3, 1) := by decide +kernel
theorem dX7_tryAll_41 : decode cX7_tryAll 41 = .ok (.invokevirtual 27, 3) := by decide +kernel
theorem dX7_tryAll_44 : decode cX7_tryAll 44 = .ok (.iinc 3 1, 3) := by decide +kernel
theorem dX7_tryAll_47 : decode cX7_tryAll 47 = .ok (.goto (-24), 3) := by decide +kernel
theorem dX7_tryAll_50 : decode cX7_tryAll 50 = .ok (.return_, 1) := by decide +kernel
set_option maxRecDepth 20000 in
theorem ggX7_weigh_J6_bitCount_0f7a4 : GoodIn wsX7_weigh wsJ6_bitCount_0f7a4 := goodIn_r _ [7, 8, 9, 10] (by decide +kernel) (by decide +kernel)
set_option maxRecDepth 20000 in
theorem gX7_weigh_J6_bitCount_0f7a4 : GoodIn wsX7_weigh (va_wsS RX7 31 yJ6_bitCount_0f7a4 wsJ6_bitCount_0f7a4) := goodIn_app (goodIn_of _ (by decide +kernel)) ggX7_weigh_J6_bitCount_0f7a4
set_option maxRecDepth 20000 in
theorem ggX7_weigh_X4_reignOf : GoodIn wsX7_weigh wsX4_reignOf := goodIn_r _ [15, 16, 17, 18, 19, 14, 20, 21, 22, 23, 24, 25, 26, 27, 28, 29, 30, 31, 32, 33, 34, 35, 36, 37, 38, 39, 40, 41, 42, 43, 44, 45, 46, 47, 48, 49, 50, 51, 52, 53, 54, 55, 56, 57, 58, 62, 63, 64, 65, 66, 67, 68, 69, 70, 71] (by decide +kernel) (by decide +kernel)
set_option maxRecDepth 20000 in
theorem gX7_weigh_X4_reignOf : GoodIn wsX7_weigh (wsV RX7 36 RX4 yX4_reignOf wsX4_reignOf) := goodIn_app (goodIn_of _ (by decide +kernel)) ggX7_weigh_X4_reignOf
theorem dX7_weigh_0 : decode cX7_weigh 0 = .ok (.iload_n 2, 1) := by decide +kernel
theorem dX7_weigh_1 : decode cX7_weigh 1 = .ok (.invokestatic 31, 3) := by decide +kernel
theorem dX7_weigh_4 : decode cX7_weigh 4 = .ok (.istore_n 3, 1) := by decide +kernel
theorem dX7_weigh_5 : decode cX7_weigh 5 = .ok (.iconst 0, 1) := by decide +kernel
theorem dX7_weigh_6 : decode cX7_weigh 6 = .ok (.istore 4, 2) := by decide +kernel
theorem dX7_weigh_8 : decode cX7_weigh 8 = .ok (.iconst 0, 1) := by decide +kernel
theorem dX7_weigh_9 : decode cX7_weigh 9 = .ok (.istore 5, 2) := by decide +kernel
theorem dX7_weigh_11 : decode cX7_weigh 11 = .ok (.iload 5, 2) := by decide +kernel
theorem dX7_weigh_13 : decode cX7_weigh 13 = .ok (.bipush 7, 2) := by decide +kernel
theorem dX7_weigh_15 : decode cX7_weigh 15 = .ok (.if_icmp .ge 34, 3) := by decide +kernel
theorem dX7_weigh_18 : decode cX7_weigh 18 = .ok (.iload 4, 2) := by decide +kernel
theorem dX7_weigh_20 : decode cX7_weigh 20 = .ok (.iload_n 2, 1) := by decide +kernel
theorem dX7_weigh_21 : decode cX7_weigh 21 = .ok (.iload 5, 2) := by decide +kernel
theorem dX7_weigh_23 : decode cX7_weigh 23 = .ok (.ishr, 1) := by decide +kernel
theorem dX7_weigh_24 : decode cX7_weigh 24 = .ok (.iconst 1, 1) := by decide +kernel
theorem dX7_weigh_25 : decode cX7_weigh 25 = .ok (.iand, 1) := by decide +kernel
theorem dX7_weigh_26 : decode cX7_weigh 26 = .ok (.iconst 1, 1) := by decide +kernel
theorem dX7_weigh_27 : decode cX7_weigh 27 = .ok (.if_icmp .ne 12, 3) := by decide +kernel
theorem dX7_weigh_30 : decode cX7_weigh 30 = .ok (.aload_n 1, 1) := by decide +kernel
theorem dX7_weigh_31 : decode cX7_weigh 31 = .ok (.iload 5, 2) := by decide +kernel
theorem dX7_weigh_33 : decode cX7_weigh 33 = .ok (.invokevirtual 36, 3) := by decide +kernel
theorem dX7_weigh_36 : decode cX7_weigh 36 = .ok (.goto 4, 3) := by decide +kernel
theorem dX7_weigh_39 : decode cX7_weigh 39 = .ok (.iconst 0, 1) := by decide +kernel
theorem dX7_weigh_40 : decode cX7_weigh 40 = .ok (.iadd, 1) := by decide +kernel
theorem dX7_weigh_41 : decode cX7_weigh 41 = .ok (.istore 4, 2) := by decide +kernel
theorem dX7_weigh_43 : decode cX7_weigh 43 = .ok (.iinc 5 1, 3) := by decide +kernel
theorem dX7_weigh_46 : decode cX7_weigh 46 = .ok (.goto (-35), 3) := by decide +kernel
theorem dX7_weigh_49 : decode cX7_weigh 49 = .ok (.iconst 2, 1) := by decide +kernel
theorem dX7_weigh_50 : decode cX7_weigh 50 = .ok (.iload 4, 2) := by decide +kernel
theorem dX7_weigh_52 : decode cX7_weigh 52 = .ok (.imul, 1) := by decide +kernel
theorem dX7_weigh_53 : decode cX7_weigh 53 = .ok (.aload_n 1, 1) := by decide +kernel
theorem dX7_weigh_54 : decode cX7_weigh 54 = .ok (.getfield 39, 3) := by decide +kernel
theorem dX7_weigh_57 : decode cX7_weigh 57 = .ok (.if_icmp .gt 7, 3) := by decide +kernel
theorem dX7_weigh_60 : decode cX7_weigh 60 = .ok (.iconst 1, 1) := by decide +kernel
theorem dX7_weigh_61 : decode cX7_weigh 61 = .ok (.goto 4, 3) := by decide +kernel
theorem dX7_weigh_64 : decode cX7_weigh 64 = .ok (.iconst 0, 1) := by decide +kernel
theorem dX7_weigh_65 : decode cX7_weigh 65 = .ok (.istore 5, 2) := by decide +kernel
theorem dX7_weigh_67 : decode cX7_weigh 67 = .ok (.iload 5, 2) := by decide +kernel
theorem dX7_weigh_69 : decode cX7_weigh 69 = .ok (.ifCond .eq 44, 3) := by decide +kernel
theorem dX7_weigh_72 : decode cX7_weigh 72 = .ok (.iload_n 3, 1) := by decide +kernel
theorem dX7_weigh_73 : decode cX7_weigh 73 = .ok (.aload_n 0, 1) := by decide +kernel
theorem dX7_weigh_74 : decode cX7_weigh 74 = .ok (.getfield 9, 3) := by decide +kernel
theorem dX7_weigh_77 : decode cX7_weigh 77 = .ok (.if_icmp .gt 20, 3) := by decide +kernel
theorem dX7_weigh_80 : decode cX7_weigh 80 = .ok (.iload_n 3, 1) := by decide +kernel
theorem dX7_weigh_81 : decode cX7_weigh 81 = .ok (.aload_n 0, 1) := by decide +kernel
theorem dX7_weigh_82 : decode cX7_weigh 82 = .ok (.getfield 9, 3) := by decide +kernel
theorem dX7_weigh_85 : decode cX7_weigh 85 = .ok (.if_icmp .ne 28, 3) := by decide +kernel
theorem dX7_weigh_88 : decode cX7_weigh 88 = .ok (.iload 4, 2) := by decide +kernel
theorem dX7_weigh_90 : decode cX7_weigh 90 = .ok (.aload_n 0, 1) := by decide +kernel
theorem dX7_weigh_91 : decode cX7_weigh 91 = .ok (.getfield 15, 3) := by decide +kernel
theorem dX7_weigh_94 : decode cX7_weigh 94 = .ok (.if_icmp .le 19, 3) := by decide +kernel
theorem dX7_weigh_97 : decode cX7_weigh 97 = .ok (.aload_n 0, 1) := by decide +kernel
theorem dX7_weigh_98 : decode cX7_weigh 98 = .ok (.iload_n 3, 1) := by decide +kernel
theorem dX7_weigh_99 : decode cX7_weigh 99 = .ok (.putfield 9, 3) := by decide +kernel
theorem dX7_weigh_102 : decode cX7_weigh 102 = .ok (.aload_n 0, 1) := by decide +kernel
theorem dX7_weigh_103 : decode cX7_weigh 103 = .ok (.iload 4, 2) := by decide +kernel
theorem dX7_weigh_105 : decode cX7_weigh 105 = .ok (.putfield 15, 3) := by decide +kernel
theorem dX7_weigh_108 : decode cX7_weigh 108 = .ok (.aload_n 0, 1) := by decide +kernel
theorem dX7_weigh_109 : decode cX7_weigh 109 = .ok (.iload_n 2, 1) := by decide +kernel
theorem dX7_weigh_110 : decode cX7_weigh 110 = .ok (.putfield 18, 3) := by decide +kernel
theorem dX7_weigh_113 : decode cX7_weigh 113 = .ok (.return_, 1) := by decide +kernel
theorem dX8_init_0 : decode cX8_init 0 = .ok (.aload_n 0, 1) := by decide +kernel
theorem dX8_init_1 : decode cX8_init 1 = .ok (.invokespecial 3, 3) := by decide +kernel
theorem dX8_init_4 : decode cX8_init 4 = .ok (.aload_n 0, 1) := by decide +kernel
theorem dX8_init_5 : decode cX8_init 5 = .ok (.bipush 7, 2) := by decide +kernel
theorem dX8_init_7 : decode cX8_init 7 = .ok (.newarray .int, 2) := by decide +kernel
theorem dX8_init_9 : decode cX8_init 9 = .ok (.putfield 9, 3) := by decide +kernel
theorem dX8_init_12 : decode cX8_init 12 = .ok (.aload_n 0, 1) := by decide +kernel
theorem dX8_init_13 : decode cX8_init 13 = .ok (.bipush 7, 2) := by decide +kernel
theorem dX8_init_15 : decode cX8_init 15 = .ok (.newarray .int, 2) := by decide +kernel
theorem dX8_init_17 : decode cX8_init 17 = .ok (.putfield 15, 3) := by decide +kernel
theorem dX8_init_20 : decode cX8_init 20 = .ok (.aload_n 0, 1) := by decide +kernel
theorem dX8_init_21 : decode cX8_init 21 = .ok (.bipush 7, 2) := by decide +kernel
theorem dX8_init_23 : decode cX8_init 23 = .ok (.newarray .int, 2) := by decide +kernel
theorem dX8_init_25 : decode cX8_init 25 = .ok (.putfield 18, 3) := by decide +kernel
theorem dX8_init_28 : decode cX8_init 28 = .ok (.aload_n 0, 1) := by decide +kernel
theorem dX8_init_29 : decode cX8_init 29 = .ok (.iconst 5, 1) := by decide +kernel
theorem dX8_init_30 : decode cX8_init 30 = .ok (.newarray .int, 2) := by decide +kernel
theorem dX8_init_32 : decode cX8_init 32 = .ok (.putfield 21, 3) := by decide +kernel
theorem dX8_init_35 : decode cX8_init 35 = .ok (.aload_n 0, 1) := by decide +kernel
theorem dX8_init_36 : decode cX8_init 36 = .ok (.iconst 5, 1) := by decide +kernel
theorem dX8_init_37 : decode cX8_init 37 = .ok (.newarray .int, 2) := by decide +kernel
theorem dX8_init_39 : decode cX8_init 39 = .ok (.putfield 24, 3) := by decide +kernel
theorem dX8_init_42 : decode cX8_init 42 = .ok (.aload_n 0, 1) := by decide +kernel
theorem dX8_init_43 : decode cX8_init 43 = .ok (.iconst 0, 1) := by decide +kernel
theorem dX8_init_44 : decode cX8_init 44 = .ok (.putfield 27, 3) := by decide +kernel
theorem dX8_init_47 : decode cX8_init 47 = .ok (.aload_n 0, 1) := by decide +kernel
theorem dX8_init_48 : decode cX8_init 48 = .ok (.iconst 0, 1) := by decide +kernel
theorem dX8_init_49 : decode cX8_init 49 = .ok (.putfield 31, 3) := by decide +kernel
theorem dX8_init_52 : decode cX8_init 52 = .ok (.aload_n 0, 1) := by decide +kernel
theorem dX8_init_53 : decode cX8_init 53 = .ok (.iconst 0, 1) := by decide +kernel
theorem dX8_init_54 : decode cX8_init 54 = .ok (.putfield 34, 3) := by decide +kernel
theorem dX8_init_57 : decode cX8_init 57 = .ok (.aload_n 0, 1) := by decide +kernel
theorem dX8_init_58 : decode cX8_init 58 = .ok (.iconst 0, 1) := by decide +kernel
theorem dX8_init_59 : decode cX8_init 59 = .ok (.putfield 37, 3) := by decide +kernel
theorem dX8_init_62 : decode cX8_init 62 = .ok (.aload_n 0, 1) := by decide +kernel
theorem dX8_init_63 : decode cX8_init 63 = .ok (.iconst 0, 1) := by decide +kernel
theorem dX8_init_64 : decode cX8_init 64 = .ok (.putfield 40, 3) := by decide +kernel
theorem dX8_init_67 : decode cX8_init 67 = .ok (.return_, 1) := by decide +kernel
theorem dX8_clear_0 : decode cX8_clear 0 = .ok (.aload_n 0, 1) := by decide +kernel
theorem dX8_clear_1 : decode cX8_clear 1 = .ok (.iconst 0, 1) := by decide +kernel
theorem dX8_clear_2 : decode cX8_clear 2 = .ok (.putfield 27, 3) := by decide +kernel
theorem dX8_clear_5 : decode cX8_clear 5 = .ok (.aload_n 0, 1) := by decide +kernel
theorem dX8_clear_6 : decode cX8_clear 6 = .ok (.iconst 0, 1) := by decide +kernel
theorem dX8_clear_7 : decode cX8_clear 7 = .ok (.putfield 31, 3) := by decide +kernel
theorem dX8_clear_10 : decode cX8_clear 10 = .ok (.aload_n 0, 1) := by decide +kernel
theorem dX8_clear_11 : decode cX8_clear 11 = .ok (.iconst 0, 1) := by decide +kernel
theorem dX8_clear_12 : decode cX8_clear 12 = .ok (.putfield 34, 3) := by decide +kernel
theorem dX8_clear_15 : decode cX8_clear 15 = .ok (.aload_n 0, 1) := by decide +kernel
theorem dX8_clear_16 : decode cX8_clear 16 = .ok (.iconst 0, 1) := by decide +kernel
theorem dX8_clear_17 : decode cX8_clear 17 = .ok (.putfield 37, 3) := by decide +kernel
theorem dX8_clear_20 : decode cX8_clear 20 = .ok (.aload_n 0, 1) := by decide +kernel
theorem dX8_clear_21 : decode cX8_clear 21 = .ok (.iconst 0, 1) := by decide +kernel
theorem dX8_clear_22 : decode cX8_clear 22 = .ok (.putfield 40, 3) := by decide +kernel
theorem dX8_clear_25 : decode cX8_clear 25 = .ok (.return_, 1) := by decide +kernel
theorem dX8_layPan_0 : decode cX8_layPan 0 = .ok (.aload_n 0, 1) := by decide +kernel
theorem dX8_layPan_1 : decode cX8_layPan 1 = .ok (.iload_n 1, 1) := by decide +kernel
theorem dX8_layPan_2 : decode cX8_layPan 2 = .ok (.putfield 27, 3) := by decide +kernel
theorem dX8_layPan_5 : decode cX8_layPan 5 = .ok (.aload_n 0, 1) := by decide +kernel
theorem dX8_layPan_6 : decode cX8_layPan 6 = .ok (.iload_n 2, 1) := by decide +kernel
theorem dX8_layPan_7 : decode cX8_layPan 7 = .ok (.putfield 31, 3) := by decide +kernel
theorem dX8_layPan_10 : decode cX8_layPan 10 = .ok (.aload_n 0, 1) := by decide +kernel
theorem dX8_layPan_11 : decode cX8_layPan 11 = .ok (.iload_n 3, 1) := by decide +kernel
theorem dX8_layPan_12 : decode cX8_layPan 12 = .ok (.putfield 34, 3) := by decide +kernel
theorem dX8_layPan_15 : decode cX8_layPan 15 = .ok (.return_, 1) := by decide +kernel
theorem dX8_addEgg_0 : decode cX8_addEgg 0 = .ok (.aload_n 0, 1) := by decide +kernel
theorem dX8_addEgg_1 : decode cX8_addEgg 1 = .ok (.getfield 37, 3) := by decide +kernel
theorem dX8_addEgg_4 : decode cX8_addEgg 4 = .ok (.ifCond .lt 52, 3) := by decide +kernel
theorem dX8_addEgg_7 : decode cX8_addEgg 7 = .ok (.aload_n 0, 1) := by decide +kernel
theorem dX8_addEgg_8 : decode cX8_addEgg 8 = .ok (.getfield 37, 3) := by decide +kernel
theorem dX8_addEgg_11 : decode cX8_addEgg 11 = .ok (.bipush 7, 2) := by decide +kernel
theorem dX8_addEgg_13 : decode cX8_addEgg 13 = .ok (.if_icmp .ge 43, 3) := by decide +kernel
theorem dX8_addEgg_16 : decode cX8_addEgg 16 = .ok (.aload_n 0, 1) := by decide +kernel
theorem dX8_addEgg_17 : decode cX8_addEgg 17 = .ok (.getfield 9, 3) := by decide +kernel
theorem dX8_addEgg_20 : decode cX8_addEgg 20 = .ok (.aload_n 0, 1) := by decide +kernel
theorem dX8_addEgg_21 : decode cX8_addEgg 21 = .ok (.getfield 37, 3) := by decide +kernel
theorem dX8_addEgg_24 : decode cX8_addEgg 24 = .ok (.iload_n 1, 1) := by decide +kernel
theorem dX8_addEgg_25 : decode cX8_addEgg 25 = .ok (.iastore, 1) := by decide +kernel
theorem dX8_addEgg_26 : decode cX8_addEgg 26 = .ok (.aload_n 0, 1) := by decide +kernel
theorem dX8_addEgg_27 : decode cX8_addEgg 27 = .ok (.getfield 15, 3) := by decide +kernel
theorem dX8_addEgg_30 : decode cX8_addEgg 30 = .ok (.aload_n 0, 1) := by decide +kernel
theorem dX8_addEgg_31 : decode cX8_addEgg 31 = .ok (.getfield 37, 3) := by decide +kernel
theorem dX8_addEgg_34 : decode cX8_addEgg 34 = .ok (.iload_n 2, 1) := by decide +kernel
theorem dX8_addEgg_35 : decode cX8_addEgg 35 = .ok (.iastore, 1) := by decide +kernel
theorem dX8_addEgg_36 : decode cX8_addEgg 36 = .ok (.aload_n 0, 1) := by decide +kernel
theorem dX8_addEgg_37 : decode cX8_addEgg 37 = .ok (.getfield 18, 3) := by decide +kernel
theorem dX8_addEgg_40 : decode cX8_addEgg 40 = .ok (.aload_n 0, 1) := by decide +kernel
theorem dX8_addEgg_41 : decode cX8_addEgg 41 = .ok (.getfield 37, 3) := by decide +kernel
theorem dX8_addEgg_44 : decode cX8_addEgg 44 = .ok (.iconst 1, 1) := by decide +kernel
theorem dX8_addEgg_45 : decode cX8_addEgg 45 = .ok (.iastore, 1) := by decide +kernel
theorem dX8_addEgg_46 : decode cX8_addEgg 46 = .ok (.aload_n 0, 1) := by decide +kernel
theorem dX8_addEgg_47 : decode cX8_addEgg 47 = .ok (.dup, 1) := by decide +kernel
theorem dX8_addEgg_48 : decode cX8_addEgg 48 = .ok (.getfield 37, 3) := by decide +kernel
theorem dX8_addEgg_51 : decode cX8_addEgg 51 = .ok (.iconst 1, 1) := by decide +kernel
theorem dX8_addEgg_52 : decode cX8_addEgg 52 = .ok (.iadd, 1) := by decide +kernel
theorem dX8_addEgg_53 : decode cX8_addEgg 53 = .ok (.putfield 37, 3) := by decide +kernel
theorem dX8_addEgg_56 : decode cX8_addEgg 56 = .ok (.return_, 1) := by decide +kernel
theorem dX8_addEater_0 : decode cX8_addEater 0 = .ok (.aload_n 0, 1) := by decide +kernel
theorem dX8_addEater_1 : decode cX8_addEater 1 = .ok (.getfield 40, 3) := by decide +kernel
theorem dX8_addEater_4 : decode cX8_addEater 4 = .ok (.ifCond .lt 41, 3) := by decide +kernel
theorem dX8_addEater_7 : decode cX8_addEater 7 = .ok (.aload_n 0, 1) := by decide +kernel
theorem dX8_addEater_8 : decode cX8_addEater 8 = .ok (.getfield 40, 3) := by decide +kernel
theorem dX8_addEater_11 : decode cX8_addEater 11 = .ok (.iconst 5, 1) := by decide +kernel
theorem dX8_addEater_12 : decode cX8_addEater 12 = .ok (.if_icmp .ge 33, 3) := by decide +kernel
theorem dX8_addEater_15 : decode cX8_addEater 15 = .ok (.aload_n 0, 1) := by decide +kernel
theorem dX8_addEater_16 : decode cX8_addEater 16 = .ok (.getfield 21, 3) := by decide +kernel
theorem dX8_addEater_19 : decode cX8_addEater 19 = .ok (.aload_n 0, 1) := by decide +kernel
theorem dX8_addEater_20 : decode cX8_addEater 20 = .ok (.getfield 40, 3) := by decide +kernel
theorem dX8_addEater_23 : decode cX8_addEater 23 = .ok (.iload_n 1, 1) := by decide +kernel
theorem dX8_addEater_24 : decode cX8_addEater 24 = .ok (.iastore, 1) := by decide +kernel
theorem dX8_addEater_25 : decode cX8_addEater 25 = .ok (.aload_n 0, 1) := by decide +kernel
theorem dX8_addEater_26 : decode cX8_addEater 26 = .ok (.getfield 24, 3) := by decide +kernel
theorem dX8_addEater_29 : decode cX8_addEater 29 = .ok (.aload_n 0, 1) := by decide +kernel
theorem dX8_addEater_30 : decode cX8_addEater 30 = .ok (.getfield 40, 3) := by decide +kernel
theorem dX8_addEater_33 : decode cX8_addEater 33 = .ok (.iload_n 2, 1) := by decide +kernel
theorem dX8_addEater_34 : decode cX8_addEater 34 = .ok (.iastore, 1) := by decide +kernel
theorem dX8_addEater_35 : decode cX8_addEater 35 = .ok (.aload_n 0, 1) := by decide +kernel
theorem dX8_addEater_36 : decode cX8_addEater 36 = .ok (.dup, 1) := by decide +kernel
theorem dX8_addEater_37 : decode cX8_addEater 37 = .ok (.getfield 40, 3) := by decide +kernel
theorem dX8_addEater_40 : decode cX8_addEater 40 = .ok (.iconst 1, 1) := by decide +kernel
theorem dX8_addEater_41 : decode cX8_addEater 41 = .ok (.iadd, 1) := by decide +kernel
theorem dX8_addEater_42 : decode cX8_addEater 42 = .ok (.putfield 40, 3) := by decide +kernel
theorem dX8_addEater_45 : decode cX8_addEater 45 = .ok (.return_, 1) := by decide +kernel
set_option maxRecDepth 20000 in
theorem ggX8_become_X8_layPan : GoodIn wsX8_become wsX8_layPan := goodIn_r _ [19, 1, 2, 3, 20, 21, 22, 23, 24, 25, 26, 27, 28, 29] (by decide +kernel) (by decide +kernel)
set_option maxRecDepth 20000 in
theorem gX8_become_X8_layPan : GoodIn wsX8_become (wsV RX8 43 RX8 yX8_layPan wsX8_layPan) := goodIn_app (goodIn_of _ (by decide +kernel)) ggX8_become_X8_layPan
theorem dX8_become_0 : decode cX8_become 0 = .ok (.aload_n 0, 1) := by decide +kernel
theorem dX8_become_1 : decode cX8_become 1 = .ok (.aload_n 1, 1) := by decide +kernel
theorem dX8_become_2 : decode cX8_become 2 = .ok (.getfield 27, 3) := by decide +kernel
theorem dX8_become_5 : decode cX8_become 5 = .ok (.aload_n 1, 1) := by decide +kernel
theorem dX8_become_6 : decode cX8_become 6 = .ok (.getfield 31, 3) := by decide +kernel
theorem dX8_become_9 : decode cX8_become 9 = .ok (.aload_n 1, 1) := by decide +kernel
theorem dX8_become_10 : decode cX8_become 10 = .ok (.getfield 34, 3) := by decide +kernel
theorem dX8_become_13 : decode cX8_become 13 = .ok (.invokevirtual 43, 3) := by decide +kernel
theorem dX8_become_16 : decode cX8_become 16 = .ok (.aload_n 0, 1) := by decide +kernel
theorem dX8_become_17 : decode cX8_become 17 = .ok (.aload_n 1, 1) := by decide +kernel
theorem dX8_become_18 : decode cX8_become 18 = .ok (.getfield 37, 3) := by decide +kernel
theorem dX8_become_21 : decode cX8_become 21 = .ok (.putfield 37, 3) := by decide +kernel
theorem dX8_become_24 : decode cX8_become 24 = .ok (.aload_n 0, 1) := by decide +kernel
theorem dX8_become_25 : decode cX8_become 25 = .ok (.aload_n 1, 1) := by decide +kernel
theorem dX8_become_26 : decode cX8_become 26 = .ok (.getfield 40, 3) := by decide +kernel
theorem dX8_become_29 : decode cX8_become 29 = .ok (.putfield 40, 3) := by decide +kernel
theorem dX8_become_32 : decode cX8_become 32 = .ok (.aload_n 1, 1) := by decide +kernel
theorem dX8_become_33 : decode cX8_become 33 = .ok (.getfield 9, 3) := by decide +kernel
theorem dX8_become_36 : decode cX8_become 36 = .ok (.iconst 0, 1) := by decide +kernel
theorem dX8_become_37 : decode cX8_become 37 = .ok (.aload_n 0, 1) := by decide +kernel
theorem dX8_become_38 : decode cX8_become 38 = .ok (.getfield 9, 3) := by decide +kernel
theorem dX8_become_41 : decode cX8_become 41 = .ok (.iconst 0, 1) := by decide +kernel
theorem dX8_become_42 : decode cX8_become 42 = .ok (.bipush 7, 2) := by decide +kernel
theorem dX8_become_44 : decode cX8_become 44 = .ok (.invokestatic 47, 3) := by decide +kernel
theorem dX8_become_47 : decode cX8_become 47 = .ok (.aload_n 1, 1) := by decide +kernel
theorem dX8_become_48 : decode cX8_become 48 = .ok (.getfield 15, 3) := by decide +kernel
theorem dX8_become_51 : decode cX8_become 51 = .ok (.iconst 0, 1) := by decide +kernel
theorem dX8_become_52 : decode cX8_become 52 = .ok (.aload_n 0, 1) := by decide +kernel
theorem dX8_become_53 : decode cX8_become 53 = .ok (.getfield 15, 3) := by decide +kernel
theorem dX8_become_56 : decode cX8_become 56 = .ok (.iconst 0, 1) := by decide +kernel
theorem dX8_become_57 : decode cX8_become 57 = .ok (.bipush 7, 2) := by decide +kernel
theorem dX8_become_59 : decode cX8_become 59 = .ok (.invokestatic 47, 3) := by decide +kernel
theorem dX8_become_62 : decode cX8_become 62 = .ok (.aload_n 1, 1) := by decide +kernel
theorem dX8_become_63 : decode cX8_become 63 = .ok (.getfield 18, 3) := by decide +kernel
theorem dX8_become_66 : decode cX8_become 66 = .ok (.iconst 0, 1) := by decide +kernel
theorem dX8_become_67 : decode cX8_become 67 = .ok (.aload_n 0, 1) := by decide +kernel
theorem dX8_become_68 : decode cX8_become 68 = .ok (.getfield 18, 3) := by decide +kernel
theorem dX8_become_71 : decode cX8_become 71 = .ok (.iconst 0, 1) := by decide +kernel
theorem dX8_become_72 : decode cX8_become 72 = .ok (.bipush 7, 2) := by decide +kernel
theorem dX8_become_74 : decode cX8_become 74 = .ok (.invokestatic 47, 3) := by decide +kernel
theorem dX8_become_77 : decode cX8_become 77 = .ok (.aload_n 1, 1) := by decide +kernel
theorem dX8_become_78 : decode cX8_become 78 = .ok (.getfield 21, 3) := by decide +kernel
theorem dX8_become_81 : decode cX8_become 81 = .ok (.iconst 0, 1) := by decide +kernel
theorem dX8_become_82 : decode cX8_become 82 = .ok (.aload_n 0, 1) := by decide +kernel
theorem dX8_become_83 : decode cX8_become 83 = .ok (.getfield 21, 3) := by decide +kernel
theorem dX8_become_86 : decode cX8_become 86 = .ok (.iconst 0, 1) := by decide +kernel
theorem dX8_become_87 : decode cX8_become 87 = .ok (.iconst 5, 1) := by decide +kernel
theorem dX8_become_88 : decode cX8_become 88 = .ok (.invokestatic 47, 3) := by decide +kernel
theorem dX8_become_91 : decode cX8_become 91 = .ok (.aload_n 1, 1) := by decide +kernel
theorem dX8_become_92 : decode cX8_become 92 = .ok (.getfield 24, 3) := by decide +kernel
theorem dX8_become_95 : decode cX8_become 95 = .ok (.iconst 0, 1) := by decide +kernel
theorem dX8_become_96 : decode cX8_become 96 = .ok (.aload_n 0, 1) := by decide +kernel
theorem dX8_become_97 : decode cX8_become 97 = .ok (.getfield 24, 3) := by decide +kernel
theorem dX8_become_100 : decode cX8_become 100 = .ok (.iconst 0, 1) := by decide +kernel
theorem dX8_become_101 : decode cX8_become 101 = .ok (.iconst 5, 1) := by decide +kernel
theorem dX8_become_102 : decode cX8_become 102 = .ok (.invokestatic 47, 3) := by decide +kernel
theorem dX8_become_105 : decode cX8_become 105 = .ok (.return_, 1) := by decide +kernel
theorem dX8_isLaid_0 : decode cX8_isLaid 0 = .ok (.aload_n 0, 1) := by decide +kernel
theorem dX8_isLaid_1 : decode cX8_isLaid 1 = .ok (.getfield 27, 3) := by decide +kernel
theorem dX8_isLaid_4 : decode cX8_isLaid 4 = .ok (.ifCond .le 7, 3) := by decide +kernel
theorem dX8_isLaid_7 : decode cX8_isLaid 7 = .ok (.iconst 1, 1) := by decide +kernel
theorem dX8_isLaid_8 : decode cX8_isLaid 8 = .ok (.goto 4, 3) := by decide +kernel
theorem dX8_isLaid_11 : decode cX8_isLaid 11 = .ok (.iconst 0, 1) := by decide +kernel
theorem dX8_isLaid_12 : decode cX8_isLaid 12 = .ok (.ireturn, 1) := by decide +kernel
theorem dX8_hasEgg_0 : decode cX8_hasEgg 0 = .ok (.iload_n 1, 1) := by decide +kernel
theorem dX8_hasEgg_1 : decode cX8_hasEgg 1 = .ok (.ifCond .lt 21, 3) := by decide +kernel
theorem dX8_hasEgg_4 : decode cX8_hasEgg 4 = .ok (.iload_n 1, 1) := by decide +kernel
theorem dX8_hasEgg_5 : decode cX8_hasEgg 5 = .ok (.aload_n 0, 1) := by decide +kernel
theorem dX8_hasEgg_6 : decode cX8_hasEgg 6 = .ok (.getfield 37, 3) := by decide +kernel
theorem dX8_hasEgg_9 : decode cX8_hasEgg 9 = .ok (.if_icmp .ge 13, 3) := by decide +kernel
theorem dX8_hasEgg_12 : decode cX8_hasEgg 12 = .ok (.iload_n 1, 1) := by decide +kernel
theorem dX8_hasEgg_13 : decode cX8_hasEgg 13 = .ok (.bipush 7, 2) := by decide +kernel
theorem dX8_hasEgg_15 : decode cX8_hasEgg 15 = .ok (.if_icmp .ge 7, 3) := by decide +kernel
theorem dX8_hasEgg_18 : decode cX8_hasEgg 18 = .ok (.iconst 1, 1) := by decide +kernel
theorem dX8_hasEgg_19 : decode cX8_hasEgg 19 = .ok (.goto 4, 3) := by decide +kernel
theorem dX8_hasEgg_22 : decode cX8_hasEgg 22 = .ok (.iconst 0, 1) := by decide +kernel
theorem dX8_hasEgg_23 : decode cX8_hasEgg 23 = .ok (.ireturn, 1) := by decide +kernel
theorem dX8_hasEggs_0 : decode cX8_hasEggs 0 = .ok (.iload_n 1, 1) := by decide +kernel
theorem dX8_hasEggs_1 : decode cX8_hasEggs 1 = .ok (.ifCond .lt 21, 3) := by decide +kernel
theorem dX8_hasEggs_4 : decode cX8_hasEggs 4 = .ok (.iload_n 1, 1) := by decide +kernel
theorem dX8_hasEggs_5 : decode cX8_hasEggs 5 = .ok (.aload_n 0, 1) := by decide +kernel
theorem dX8_hasEggs_6 : decode cX8_hasEggs 6 = .ok (.getfield 37, 3) := by decide +kernel
theorem dX8_hasEggs_9 : decode cX8_hasEggs 9 = .ok (.bipush 7, 2) := by decide +kernel
theorem dX8_hasEggs_11 : decode cX8_hasEggs 11 = .ok (.invokestatic 53, 3) := by decide +kernel
theorem dX8_hasEggs_14 : decode cX8_hasEggs 14 = .ok (.ishr, 1) := by decide +kernel
theorem dX8_hasEggs_15 : decode cX8_hasEggs 15 = .ok (.ifCond .ne 7, 3) := by decide +kernel
theorem dX8_hasEggs_18 : decode cX8_hasEggs 18 = .ok (.iconst 1, 1) := by decide +kernel
theorem dX8_hasEggs_19 : decode cX8_hasEggs 19 = .ok (.goto 4, 3) := by decide +kernel
theorem dX8_hasEggs_22 : decode cX8_hasEggs 22 = .ok (.iconst 0, 1) := by decide +kernel
theorem dX8_hasEggs_23 : decode cX8_hasEggs 23 = .ok (.ireturn, 1) := by decide +kernel
theorem dX8_hasEater_0 : decode cX8_hasEater 0 = .ok (.iload_n 1, 1) := by decide +kernel
theorem dX8_hasEater_1 : decode cX8_hasEater 1 = .ok (.ifCond .lt 20, 3) := by decide +kernel
theorem dX8_hasEater_4 : decode cX8_hasEater 4 = .ok (.iload_n 1, 1) := by decide +kernel
theorem dX8_hasEater_5 : decode cX8_hasEater 5 = .ok (.aload_n 0, 1) := by decide +kernel
theorem dX8_hasEater_6 : decode cX8_hasEater 6 = .ok (.getfield 40, 3) := by decide +kernel
theorem dX8_hasEater_9 : decode cX8_hasEater 9 = .ok (.if_icmp .ge 12, 3) := by decide +kernel
theorem dX8_hasEater_12 : decode cX8_hasEater 12 = .ok (.iload_n 1, 1) := by decide +kernel
theorem dX8_hasEater_13 : decode cX8_hasEater 13 = .ok (.iconst 5, 1) := by decide +kernel
theorem dX8_hasEater_14 : decode cX8_hasEater 14 = .ok (.if_icmp .ge 7, 3) := by decide +kernel
theorem dX8_hasEater_17 : decode cX8_hasEater 17 = .ok (.iconst 1, 1) := by decide +kernel
theorem dX8_hasEater_18 : decode cX8_hasEater 18 = .ok (.goto 4, 3) := by decide +kernel
theorem dX8_hasEater_21 : decode cX8_hasEater 21 = .ok (.iconst 0, 1) := by decide +kernel
theorem dX8_hasEater_22 : decode cX8_hasEater 22 = .ok (.ireturn, 1) := by decide +kernel
set_option maxRecDepth 20000 in
theorem ggX8_ageOf_X8_hasEgg : GoodIn wsX8_ageOf wsX8_hasEgg := goodIn_r _ [6, 7, 8, 9, 10, 11, 12, 13, 14, 15, 16, 17] (by decide +kernel) (by decide +kernel)
set_option maxRecDepth 20000 in
theorem gX8_ageOf_X8_hasEgg : GoodIn wsX8_ageOf (wsV RX8 59 RX8 yX8_hasEgg wsX8_hasEgg) := goodIn_app (goodIn_of _ (by decide +kernel)) ggX8_ageOf_X8_hasEgg
theorem dX8_ageOf_0 : decode cX8_ageOf 0 = .ok (.aload_n 0, 1) := by decide +kernel
theorem dX8_ageOf_1 : decode cX8_ageOf 1 = .ok (.iload_n 1, 1) := by decide +kernel
theorem dX8_ageOf_2 : decode cX8_ageOf 2 = .ok (.invokevirtual 59, 3) := by decide +kernel
theorem dX8_ageOf_5 : decode cX8_ageOf 5 = .ok (.ifCond .eq 12, 3) := by decide +kernel
theorem dX8_ageOf_8 : decode cX8_ageOf 8 = .ok (.aload_n 0, 1) := by decide +kernel
theorem dX8_ageOf_9 : decode cX8_ageOf 9 = .ok (.getfield 9, 3) := by decide +kernel
theorem dX8_ageOf_12 : decode cX8_ageOf 12 = .ok (.iload_n 1, 1) := by decide +kernel
theorem dX8_ageOf_13 : decode cX8_ageOf 13 = .ok (.iaload, 1) := by decide +kernel
theorem dX8_ageOf_14 : decode cX8_ageOf 14 = .ok (.goto 4, 3) := by decide +kernel
theorem dX8_ageOf_17 : decode cX8_ageOf 17 = .ok (.iconst 0, 1) := by decide +kernel
theorem dX8_ageOf_18 : decode cX8_ageOf 18 = .ok (.ireturn, 1) := by decide +kernel
set_option maxRecDepth 20000 in
theorem ggX8_sizeOf_X8_hasEgg : GoodIn wsX8_sizeOf wsX8_hasEgg := goodIn_r _ [6, 7, 8, 9, 10, 11, 12, 13, 14, 15, 16, 17] (by decide +kernel) (by decide +kernel)
set_option maxRecDepth 20000 in
theorem gX8_sizeOf_X8_hasEgg : GoodIn wsX8_sizeOf (wsV RX8 59 RX8 yX8_hasEgg wsX8_hasEgg) := goodIn_app (goodIn_of _ (by decide +kernel)) ggX8_sizeOf_X8_hasEgg
theorem dX8_sizeOf_0 : decode cX8_sizeOf 0 = .ok (.aload_n 0, 1) := by decide +kernel
theorem dX8_sizeOf_1 : decode cX8_sizeOf 1 = .ok (.iload_n 1, 1) := by decide +kernel
theorem dX8_sizeOf_2 : decode cX8_sizeOf 2 = .ok (.invokevirtual 59, 3) := by decide +kernel
theorem dX8_sizeOf_5 : decode cX8_sizeOf 5 = .ok (.ifCond .eq 12, 3) := by decide +kernel
theorem dX8_sizeOf_8 : decode cX8_sizeOf 8 = .ok (.aload_n 0, 1) := by decide +kernel
theorem dX8_sizeOf_9 : decode cX8_sizeOf 9 = .ok (.getfield 15, 3) := by decide +kernel
theorem dX8_sizeOf_12 : decode cX8_sizeOf 12 = .ok (.iload_n 1, 1) := by decide +kernel
theorem dX8_sizeOf_13 : decode cX8_sizeOf 13 = .ok (.iaload, 1) := by decide +kernel
theorem dX8_sizeOf_14 : decode cX8_sizeOf 14 = .ok (.goto 4, 3) := by decide +kernel
theorem dX8_sizeOf_17 : decode cX8_sizeOf 17 = .ok (.iconst 0, 1) := by decide +kernel
theorem dX8_sizeOf_18 : decode cX8_sizeOf 18 = .ok (.ireturn, 1) := by decide +kernel
set_option maxRecDepth 20000 in
theorem ggX8_wishOf_X8_hasEgg : GoodIn wsX8_wishOf wsX8_hasEgg := goodIn_r _ [6, 7, 8, 9, 10, 11, 12, 13, 14, 15, 16, 17] (by decide +kernel) (by decide +kernel)
set_option maxRecDepth 20000 in
theorem gX8_wishOf_X8_hasEgg : GoodIn wsX8_wishOf (wsV RX8 59 RX8 yX8_hasEgg wsX8_hasEgg) := goodIn_app (goodIn_of _ (by decide +kernel)) ggX8_wishOf_X8_hasEgg
theorem dX8_wishOf_0 : decode cX8_wishOf 0 = .ok (.aload_n 0, 1) := by decide +kernel
theorem dX8_wishOf_1 : decode cX8_wishOf 1 = .ok (.iload_n 1, 1) := by decide +kernel
theorem dX8_wishOf_2 : decode cX8_wishOf 2 = .ok (.invokevirtual 59, 3) := by decide +kernel
theorem dX8_wishOf_5 : decode cX8_wishOf 5 = .ok (.ifCond .eq 12, 3) := by decide +kernel
theorem dX8_wishOf_8 : decode cX8_wishOf 8 = .ok (.aload_n 0, 1) := by decide +kernel
theorem dX8_wishOf_9 : decode cX8_wishOf 9 = .ok (.getfield 18, 3) := by decide +kernel
theorem dX8_wishOf_12 : decode cX8_wishOf 12 = .ok (.iload_n 1, 1) := by decide +kernel
theorem dX8_wishOf_13 : decode cX8_wishOf 13 = .ok (.iaload, 1) := by decide +kernel
theorem dX8_wishOf_14 : decode cX8_wishOf 14 = .ok (.goto 4, 3) := by decide +kernel
theorem dX8_wishOf_17 : decode cX8_wishOf 17 = .ok (.iconst 0, 1) := by decide +kernel
theorem dX8_wishOf_18 : decode cX8_wishOf 18 = .ok (.ireturn, 1) := by decide +kernel
set_option maxRecDepth 20000 in
theorem ggX8_setWish_X8_hasEgg : GoodIn wsX8_setWish wsX8_hasEgg := goodIn_r _ [6, 7, 8, 9, 10, 11, 12, 13, 14, 15, 16, 17] (by decide +kernel) (by decide +kernel)
set_option maxRecDepth 20000 in
theorem gX8_setWish_X8_hasEgg : GoodIn wsX8_setWish (wsV RX8 59 RX8 yX8_hasEgg wsX8_hasEgg) := goodIn_app (goodIn_of _ (by decide +kernel)) ggX8_setWish_X8_hasEgg
theorem dX8_setWish_0 : decode cX8_setWish 0 = .ok (.aload_n 0, 1) := by decide +kernel
theorem dX8_setWish_1 : decode cX8_setWish 1 = .ok (.iload_n 1, 1) := by decide +kernel
theorem dX8_setWish_2 : decode cX8_setWish 2 = .ok (.invokevirtual 59, 3) := by decide +kernel
theorem dX8_setWish_5 : decode cX8_setWish 5 = .ok (.ifCond .eq 10, 3) := by decide +kernel
theorem dX8_setWish_8 : decode cX8_setWish 8 = .ok (.aload_n 0, 1) := by decide +kernel
theorem dX8_setWish_9 : decode cX8_setWish 9 = .ok (.getfield 18, 3) := by decide +kernel
theorem dX8_setWish_12 : decode cX8_setWish 12 = .ok (.iload_n 1, 1) := by decide +kernel
theorem dX8_setWish_13 : decode cX8_setWish 13 = .ok (.iload_n 2, 1) := by decide +kernel
theorem dX8_setWish_14 : decode cX8_setWish 14 = .ok (.iastore, 1) := by decide +kernel
theorem dX8_setWish_15 : decode cX8_setWish 15 = .ok (.return_, 1) := by decide +kernel
set_option maxRecDepth 20000 in
theorem ggX8_softestFor_X8_hasEater : GoodIn wsX8_softestFor wsX8_hasEater := goodIn_r _ [6, 7, 8, 9, 10, 11, 12, 13, 14, 15, 16, 17] (by decide +kernel) (by decide +kernel)
set_option maxRecDepth 20000 in
theorem gX8_softestFor_X8_hasEater : GoodIn wsX8_softestFor (wsV RX8 63 RX8 yX8_hasEater wsX8_hasEater) := goodIn_app (goodIn_of _ (by decide +kernel)) ggX8_softestFor_X8_hasEater
theorem dX8_softestFor_0 : decode cX8_softestFor 0 = .ok (.aload_n 0, 1) := by decide +kernel
theorem dX8_softestFor_1 : decode cX8_softestFor 1 = .ok (.iload_n 1, 1) := by decide +kernel
theorem dX8_softestFor_2 : decode cX8_softestFor 2 = .ok (.invokevirtual 63, 3) := by decide +kernel
theorem dX8_softestFor_5 : decode cX8_softestFor 5 = .ok (.ifCond .eq 12, 3) := by decide +kernel
theorem dX8_softestFor_8 : decode cX8_softestFor 8 = .ok (.aload_n 0, 1) := by decide +kernel
theorem dX8_softestFor_9 : decode cX8_softestFor 9 = .ok (.getfield 21, 3) := by decide +kernel
theorem dX8_softestFor_12 : decode cX8_softestFor 12 = .ok (.iload_n 1, 1) := by decide +kernel
theorem dX8_softestFor_13 : decode cX8_softestFor 13 = .ok (.iaload, 1) := by decide +kernel
theorem dX8_softestFor_14 : decode cX8_softestFor 14 = .ok (.goto 4, 3) := by decide +kernel
theorem dX8_softestFor_17 : decode cX8_softestFor 17 = .ok (.iconst 0, 1) := by decide +kernel
theorem dX8_softestFor_18 : decode cX8_softestFor 18 = .ok (.ireturn, 1) := by decide +kernel
set_option maxRecDepth 20000 in
theorem ggX8_hardestFor_X8_hasEater : GoodIn wsX8_hardestFor wsX8_hasEater := goodIn_r _ [6, 7, 8, 9, 10, 11, 12, 13, 14, 15, 16, 17] (by decide +kernel) (by decide +kernel)
set_option maxRecDepth 20000 in
theorem gX8_hardestFor_X8_hasEater : GoodIn wsX8_hardestFor (wsV RX8 63 RX8 yX8_hasEater wsX8_hasEater) := goodIn_app (goodIn_of _ (by decide +kernel)) ggX8_hardestFor_X8_hasEater
theorem dX8_hardestFor_0 : decode cX8_hardestFor 0 = .ok (.aload_n 0, 1) := by decide +kernel
theorem dX8_hardestFor_1 : decode cX8_hardestFor 1 = .ok (.iload_n 1, 1) := by decide +kernel
theorem dX8_hardestFor_2 : decode cX8_hardestFor 2 = .ok (.invokevirtual 63, 3) := by decide +kernel
theorem dX8_hardestFor_5 : decode cX8_hardestFor 5 = .ok (.ifCond .eq 12, 3) := by decide +kernel
theorem dX8_hardestFor_8 : decode cX8_hardestFor 8 = .ok (.aload_n 0, 1) := by decide +kernel
theorem dX8_hardestFor_9 : decode cX8_hardestFor 9 = .ok (.getfield 24, 3) := by decide +kernel
theorem dX8_hardestFor_12 : decode cX8_hardestFor 12 = .ok (.iload_n 1, 1) := by decide +kernel
theorem dX8_hardestFor_13 : decode cX8_hardestFor 13 = .ok (.iaload, 1) := by decide +kernel
theorem dX8_hardestFor_14 : decode cX8_hardestFor 14 = .ok (.goto 4, 3) := by decide +kernel
theorem dX8_hardestFor_17 : decode cX8_hardestFor 17 = .ok (.iconst 0, 1) := by decide +kernel
theorem dX8_hardestFor_18 : decode cX8_hardestFor 18 = .ok (.ireturn, 1) := by decide +kernel
set_option maxRecDepth 20000 in
theorem ggX8_hardness_X8_hasEgg : GoodIn wsX8_hardness wsX8_hasEgg := goodIn_r _ [14, 15, 16, 17, 18, 19, 20, 21, 22, 23, 24, 25] (by decide +kernel) (by decide +kernel)
set_option maxRecDepth 20000 in
theorem gX8_hardness_X8_hasEgg : GoodIn wsX8_hardness (wsV RX8 59 RX8 yX8_hasEgg wsX8_hasEgg) := goodIn_app (goodIn_of _ (by decide +kernel)) ggX8_hardness_X8_hasEgg
theorem dX8_hardness_0 : decode cX8_hardness 0 = .ok (.aload_n 0, 1) := by decide +kernel
theorem dX8_hardness_1 : decode cX8_hardness 1 = .ok (.iload_n 1, 1) := by decide +kernel
theorem dX8_hardness_2 : decode cX8_hardness 2 = .ok (.invokevirtual 59, 3) := by decide +kernel
theorem dX8_hardness_5 : decode cX8_hardness 5 = .ok (.ifCond .ne 5, 3) := by decide +kernel
theorem dX8_hardness_8 : decode cX8_hardness 8 = .ok (.iconst 0, 1) := by decide +kernel
theorem dX8_hardness_9 : decode cX8_hardness 9 = .ok (.ireturn, 1) := by decide +kernel
theorem dX8_hardness_10 : decode cX8_hardness 10 = .ok (.bipush 10, 2) := by decide +kernel
theorem dX8_hardness_12 : decode cX8_hardness 12 = .ok (.iload_n 2, 1) := by decide +kernel
theorem dX8_hardness_13 : decode cX8_hardness 13 = .ok (.imul, 1) := by decide +kernel
theorem dX8_hardness_14 : decode cX8_hardness 14 = .ok (.iconst 5, 1) := by decide +kernel
theorem dX8_hardness_15 : decode cX8_hardness 15 = .ok (.aload_n 0, 1) := by decide +kernel
theorem dX8_hardness_16 : decode cX8_hardness 16 = .ok (.getfield 15, 3) := by decide +kernel
theorem dX8_hardness_19 : decode cX8_hardness 19 = .ok (.iload_n 1, 1) := by decide +kernel
theorem dX8_hardness_20 : decode cX8_hardness 20 = .ok (.iaload, 1) := by decide +kernel
theorem dX8_hardness_21 : decode cX8_hardness 21 = .ok (.imul, 1) := by decide +kernel
theorem dX8_hardness_22 : decode cX8_hardness 22 = .ok (.isub, 1) := by decide +kernel
theorem dX8_hardness_23 : decode cX8_hardness 23 = .ok (.aload_n 0, 1) := by decide +kernel
theorem dX8_hardness_24 : decode cX8_hardness 24 = .ok (.getfield 9, 3) := by decide +kernel
theorem dX8_hardness_27 : decode cX8_hardness 27 = .ok (.iload_n 1, 1) := by decide +kernel
theorem dX8_hardness_28 : decode cX8_hardness 28 = .ok (.iaload, 1) := by decide +kernel
theorem dX8_hardness_29 : decode cX8_hardness 29 = .ok (.iconst 3, 1) := by decide +kernel
theorem dX8_hardness_30 : decode cX8_hardness 30 = .ok (.idiv, 1) := by decide +kernel
theorem dX8_hardness_31 : decode cX8_hardness 31 = .ok (.iadd, 1) := by decide +kernel
theorem dX8_hardness_32 : decode cX8_hardness 32 = .ok (.istore_n 3, 1) := by decide +kernel
theorem dX8_hardness_33 : decode cX8_hardness 33 = .ok (.iconst 0, 1) := by decide +kernel
theorem dX8_hardness_34 : decode cX8_hardness 34 = .ok (.bipush 99, 2) := by decide +kernel
theorem dX8_hardness_36 : decode cX8_hardness 36 = .ok (.iload_n 3, 1) := by decide +kernel
theorem dX8_hardness_37 : decode cX8_hardness 37 = .ok (.invokestatic 53, 3) := by decide +kernel
theorem dX8_hardness_40 : decode cX8_hardness 40 = .ok (.invokestatic 66, 3) := by decide +kernel
theorem dX8_hardness_43 : decode cX8_hardness 43 = .ok (.ireturn, 1) := by decide +kernel
set_option maxRecDepth 20000 in
theorem ggX8_reign_X8_hardness : GoodIn wsX8_reign wsX8_hardness := goodIn_r _ [5, 6, 7, 8, 9, 10, 11, 12, 13, 14, 15, 16, 17, 4, 18, 19, 24, 25, 26, 27, 28, 29, 30, 31, 32, 33] (by decide +kernel) (by decide +kernel)
set_option maxRecDepth 20000 in
theorem gX8_reign_X8_hardness : GoodIn wsX8_reign (wsV RX8 69 RX8 yX8_hardness wsX8_hardness) := goodIn_app (goodIn_of _ (by decide +kernel)) ggX8_reign_X8_hardness
set_option maxRecDepth 20000 in
theorem ggX8_reign_X8_sizeOf : GoodIn wsX8_reign wsX8_sizeOf := goodIn_r _ [23, 6, 15, 16, 17, 4, 18, 19, 24, 25, 26, 27, 28, 29, 30, 31, 32, 33] (by decide +kernel) (by decide +kernel)
set_option maxRecDepth 20000 in
theorem gX8_reign_X8_sizeOf : GoodIn wsX8_reign (wsV RX8 72 RX8 yX8_sizeOf wsX8_sizeOf) := goodIn_app (goodIn_of _ (by decide +kernel)) ggX8_reign_X8_sizeOf
theorem dX8_reign_0 : decode cX8_reign 0 = .ok (.iconst 1, 1) := by decide +kernel
theorem dX8_reign_1 : decode cX8_reign 1 = .ok (.aload_n 0, 1) := by decide +kernel
theorem dX8_reign_2 : decode cX8_reign 2 = .ok (.iload_n 1, 1) := by decide +kernel
theorem dX8_reign_3 : decode cX8_reign 3 = .ok (.iload_n 2, 1) := by decide +kernel
theorem dX8_reign_4 : decode cX8_reign 4 = .ok (.invokevirtual 69, 3) := by decide +kernel
theorem dX8_reign_7 : decode cX8_reign 7 = .ok (.bipush 10, 2) := by decide +kernel
theorem dX8_reign_9 : decode cX8_reign 9 = .ok (.idiv, 1) := by decide +kernel
theorem dX8_reign_10 : decode cX8_reign 10 = .ok (.iadd, 1) := by decide +kernel
theorem dX8_reign_11 : decode cX8_reign 11 = .ok (.aload_n 0, 1) := by decide +kernel
theorem dX8_reign_12 : decode cX8_reign 12 = .ok (.iload_n 1, 1) := by decide +kernel
theorem dX8_reign_13 : decode cX8_reign 13 = .ok (.invokevirtual 72, 3) := by decide +kernel
theorem dX8_reign_16 : decode cX8_reign 16 = .ok (.iadd, 1) := by decide +kernel
theorem dX8_reign_17 : decode cX8_reign 17 = .ok (.ireturn, 1) := by decide +kernel
theorem dX9_init_0 : decode cX9_init 0 = .ok (.aload_n 0, 1) := by decide +kernel
theorem dX9_init_1 : decode cX9_init 1 = .ok (.invokespecial 3, 3) := by decide +kernel
theorem dX9_init_4 : decode cX9_init 4 = .ok (.aload_n 0, 1) := by decide +kernel
theorem dX9_init_5 : decode cX9_init 5 = .ok (.sipush 240, 3) := by decide +kernel
theorem dX9_init_8 : decode cX9_init 8 = .ok (.newarray .int, 2) := by decide +kernel
theorem dX9_init_10 : decode cX9_init 10 = .ok (.putfield 9, 3) := by decide +kernel
theorem dX9_init_13 : decode cX9_init 13 = .ok (.aload_n 0, 1) := by decide +kernel
theorem dX9_init_14 : decode cX9_init 14 = .ok (.iconst 0, 1) := by decide +kernel
theorem dX9_init_15 : decode cX9_init 15 = .ok (.putfield 15, 3) := by decide +kernel
theorem dX9_init_18 : decode cX9_init 18 = .ok (.aload_n 0, 1) := by decide +kernel
theorem dX9_init_19 : decode cX9_init 19 = .ok (.iconst 0, 1) := by decide +kernel
theorem dX9_init_20 : decode cX9_init 20 = .ok (.putfield 19, 3) := by decide +kernel
theorem dX9_init_23 : decode cX9_init 23 = .ok (.aload_n 0, 1) := by decide +kernel
theorem dX9_init_24 : decode cX9_init 24 = .ok (.iconst 0, 1) := by decide +kernel
theorem dX9_init_25 : decode cX9_init 25 = .ok (.putfield 22, 3) := by decide +kernel
theorem dX9_init_28 : decode cX9_init 28 = .ok (.aload_n 0, 1) := by decide +kernel
theorem dX9_init_29 : decode cX9_init 29 = .ok (.iconst (-1), 1) := by decide +kernel
theorem dX9_init_30 : decode cX9_init 30 = .ok (.putfield 25, 3) := by decide +kernel
theorem dX9_init_33 : decode cX9_init 33 = .ok (.return_, 1) := by decide +kernel
theorem dX9_length_0 : decode cX9_length 0 = .ok (.aload_n 0, 1) := by decide +kernel
theorem dX9_length_1 : decode cX9_length 1 = .ok (.getfield 15, 3) := by decide +kernel
theorem dX9_length_4 : decode cX9_length 4 = .ok (.ireturn, 1) := by decide +kernel
theorem dX9_empty_0 : decode cX9_empty 0 = .ok (.aload_n 0, 1) := by decide +kernel
theorem dX9_empty_1 : decode cX9_empty 1 = .ok (.iconst 0, 1) := by decide +kernel
theorem dX9_empty_2 : decode cX9_empty 2 = .ok (.putfield 15, 3) := by decide +kernel
theorem dX9_empty_5 : decode cX9_empty 5 = .ok (.return_, 1) := by decide +kernel
theorem dX9_faultPlace_0 : decode cX9_faultPlace 0 = .ok (.aload_n 0, 1) := by decide +kernel
theorem dX9_faultPlace_1 : decode cX9_faultPlace 1 = .ok (.getfield 25, 3) := by decide +kernel
theorem dX9_faultPlace_4 : decode cX9_faultPlace 4 = .ok (.ireturn, 1) := by decide +kernel
theorem dX9_add_0 : decode cX9_add 0 = .ok (.aload_n 0, 1) := by decide +kernel
theorem dX9_add_1 : decode cX9_add 1 = .ok (.getfield 15, 3) := by decide +kernel
theorem dX9_add_4 : decode cX9_add 4 = .ok (.ifCond .lt 13, 3) := by decide +kernel
theorem dX9_add_7 : decode cX9_add 7 = .ok (.aload_n 0, 1) := by decide +kernel
theorem dX9_add_8 : decode cX9_add 8 = .ok (.getfield 15, 3) := by decide +kernel
theorem dX9_add_11 : decode cX9_add 11 = .ok (.sipush 240, 3) := by decide +kernel
theorem dX9_add_14 : decode cX9_add 14 = .ok (.if_icmp .lt 5, 3) := by decide +kernel
theorem dX9_add_17 : decode cX9_add 17 = .ok (.iconst 0, 1) := by decide +kernel
theorem dX9_add_18 : decode cX9_add 18 = .ok (.ireturn, 1) := by decide +kernel
theorem dX9_add_19 : decode cX9_add 19 = .ok (.aload_n 0, 1) := by decide +kernel
theorem dX9_add_20 : decode cX9_add 20 = .ok (.getfield 9, 3) := by decide +kernel
theorem dX9_add_23 : decode cX9_add 23 = .ok (.aload_n 0, 1) := by decide +kernel
theorem dX9_add_24 : decode cX9_add 24 = .ok (.getfield 15, 3) := by decide +kernel
theorem dX9_add_27 : decode cX9_add 27 = .ok (.iload_n 1, 1) := by decide +kernel
theorem dX9_add_28 : decode cX9_add 28 = .ok (.iastore, 1) := by decide +kernel
theorem dX9_add_29 : decode cX9_add 29 = .ok (.aload_n 0, 1) := by decide +kernel
theorem dX9_add_30 : decode cX9_add 30 = .ok (.dup, 1) := by decide +kernel
theorem dX9_add_31 : decode cX9_add 31 = .ok (.getfield 15, 3) := by decide +kernel
theorem dX9_add_34 : decode cX9_add 34 = .ok (.iconst 1, 1) := by decide +kernel
theorem dX9_add_35 : decode cX9_add 35 = .ok (.iadd, 1) := by decide +kernel
theorem dX9_add_36 : decode cX9_add 36 = .ok (.putfield 15, 3) := by decide +kernel
theorem dX9_add_39 : decode cX9_add 39 = .ok (.iconst 1, 1) := by decide +kernel
theorem dX9_add_40 : decode cX9_add 40 = .ok (.ireturn, 1) := by decide +kernel
set_option maxRecDepth 20000 in
theorem ggX9_readInto_X8_clear : GoodIn wsX9_readInto wsX8_clear := goodIn_r _ [8, 9, 10, 11, 12, 13, 85, 86, 87, 88, 89, 90, 91, 92, 93, 94] (by decide +kernel) (by decide +kernel)
set_option maxRecDepth 20000 in
theorem gX9_readInto_X8_clear : GoodIn wsX9_readInto (wsV RX9 28 RX8 yX8_clear wsX8_clear) := goodIn_app (goodIn_of _ (by decide +kernel)) ggX9_readInto_X8_clear
set_option maxRecDepth 20000 in
theorem ggX9_readInto_X9_skipBlanks : GoodIn wsX9_readInto wsX9_skipBlanks := goodIn_r _ [18, 1, 19, 20, 21, 22, 17, 23, 24, 80, 81, 82, 83, 84] (by decide +kernel) (by decide +kernel)
set_option maxRecDepth 20000 in
theorem gX9_readInto_X9_skipBlanks : GoodIn wsX9_readInto (wsV RX9 33 RX9 yX9_skipBlanks wsX9_skipBlanks) := goodIn_app (goodIn_of _ (by decide +kernel)) ggX9_readInto_X9_skipBlanks
set_option maxRecDepth 20000 in
theorem ggX9_readInto_X9_readClause : GoodIn wsX9_readInto wsX9_readClause := goodIn_r _ [28, 1, 14, 15, 16, 17, 18, 19, 20, 21, 22, 23, 24, 29, 30, 31, 7, 32, 9, 33, 34, 35, 36, 2, 3, 37, 38, 39, 40, 41, 42, 43, 44, 45, 46, 47, 48, 49, 50, 51, 52, 53, 54, 55, 56, 57, 58, 10, 11, 59, 60, 61, 62, 63, 64, 65, 66, 12, 67, 68, 69, 70, 71, 72, 73, 74, 75, 76, 77, 13, 78, 79, 80, 81, 82, 83, 84, 85, 86, 87, 88, 89, 90, 91, 92, 93, 94] (by decide +kernel) (by decide +kernel)
set_option maxRecDepth 20000 in
theorem gX9_readInto_X9_readClause : GoodIn wsX9_readInto (wsV RX9 37 RX9 yX9_readClause wsX9_readClause) := goodIn_app (goodIn_of _ (by decide +kernel)) ggX9_readInto_X9_readClause
theorem dX9_readInto_0 : decode cX9_readInto 0 = .ok (.aload_n 1, 1) := by decide +kernel
theorem dX9_readInto_1 : decode cX9_readInto 1 = .ok (.invokevirtual 28, 3) := by decide +kernel
theorem dX9_readInto_4 : decode cX9_readInto 4 = .ok (.aload_n 0, 1) := by decide +kernel
theorem dX9_readInto_5 : decode cX9_readInto 5 = .ok (.iconst 0, 1) := by decide +kernel
theorem dX9_readInto_6 : decode cX9_readInto 6 = .ok (.putfield 19, 3) := by decide +kernel
theorem dX9_readInto_9 : decode cX9_readInto 9 = .ok (.aload_n 0, 1) := by decide +kernel
theorem dX9_readInto_10 : decode cX9_readInto 10 = .ok (.iconst 0, 1) := by decide +kernel
theorem dX9_readInto_11 : decode cX9_readInto 11 = .ok (.putfield 22, 3) := by decide +kernel
theorem dX9_readInto_14 : decode cX9_readInto 14 = .ok (.aload_n 0, 1) := by decide +kernel
theorem dX9_readInto_15 : decode cX9_readInto 15 = .ok (.iconst (-1), 1) := by decide +kernel
theorem dX9_readInto_16 : decode cX9_readInto 16 = .ok (.putfield 25, 3) := by decide +kernel
theorem dX9_readInto_19 : decode cX9_readInto 19 = .ok (.iconst 0, 1) := by decide +kernel
theorem dX9_readInto_20 : decode cX9_readInto 20 = .ok (.istore_n 2, 1) := by decide +kernel
theorem dX9_readInto_21 : decode cX9_readInto 21 = .ok (.iload_n 2, 1) := by decide +kernel
theorem dX9_readInto_22 : decode cX9_readInto 22 = .ok (.sipush 240, 3) := by decide +kernel
theorem dX9_readInto_25 : decode cX9_readInto 25 = .ok (.if_icmp .ge 29, 3) := by decide +kernel
theorem dX9_readInto_28 : decode cX9_readInto 28 = .ok (.aload_n 0, 1) := by decide +kernel
theorem dX9_readInto_29 : decode cX9_readInto 29 = .ok (.getfield 22, 3) := by decide +kernel
theorem dX9_readInto_32 : decode cX9_readInto 32 = .ok (.ifCond .ne 22, 3) := by decide +kernel
theorem dX9_readInto_35 : decode cX9_readInto 35 = .ok (.aload_n 0, 1) := by decide +kernel
theorem dX9_readInto_36 : decode cX9_readInto 36 = .ok (.invokevirtual 33, 3) := by decide +kernel
theorem dX9_readInto_39 : decode cX9_readInto 39 = .ok (.iconst (-1), 1) := by decide +kernel
theorem dX9_readInto_40 : decode cX9_readInto 40 = .ok (.if_icmp .eq 14, 3) := by decide +kernel
theorem dX9_readInto_43 : decode cX9_readInto 43 = .ok (.aload_n 0, 1) := by decide +kernel
theorem dX9_readInto_44 : decode cX9_readInto 44 = .ok (.aload_n 1, 1) := by decide +kernel
theorem dX9_readInto_45 : decode cX9_readInto 45 = .ok (.invokevirtual 37, 3) := by decide +kernel
theorem dX9_readInto_48 : decode cX9_readInto 48 = .ok (.iinc 2 1, 3) := by decide +kernel
theorem dX9_readInto_51 : decode cX9_readInto 51 = .ok (.goto (-30), 3) := by decide +kernel
theorem dX9_readInto_54 : decode cX9_readInto 54 = .ok (.aload_n 0, 1) := by decide +kernel
theorem dX9_readInto_55 : decode cX9_readInto 55 = .ok (.getfield 22, 3) := by decide +kernel
theorem dX9_readInto_58 : decode cX9_readInto 58 = .ok (.ireturn, 1) := by decide +kernel
set_option maxRecDepth 20000 in
theorem ggX9_readClause_X9_skipBlanks : GoodIn wsX9_readClause wsX9_skipBlanks := goodIn_r _ [6, 1, 7, 8, 9, 10, 5, 11, 12, 72, 73, 74, 75, 76] (by decide +kernel) (by decide +kernel)
set_option maxRecDepth 20000 in
theorem gX9_readClause_X9_skipBlanks : GoodIn wsX9_readClause (wsV RX9 33 RX9 yX9_skipBlanks wsX9_skipBlanks) := goodIn_app (goodIn_of _ (by decide +kernel)) ggX9_readClause_X9_skipBlanks
set_option maxRecDepth 20000 in
theorem ggX9_readClause_X8_isLaid : GoodIn wsX9_readClause wsX8_isLaid := goodIn_r _ [17, 18, 77, 78, 79, 80, 81, 82, 83, 84, 85, 86] (by decide +kernel) (by decide +kernel)
set_option maxRecDepth 20000 in
theorem gX9_readClause_X8_isLaid : GoodIn wsX9_readClause (wsV RX9 41 RX8 yX8_isLaid wsX8_isLaid) := goodIn_app (goodIn_of _ (by decide +kernel)) ggX9_readClause_X8_isLaid
set_option maxRecDepth 20000 in
theorem ggX9_readClause_X9_find : GoodIn wsX9_readClause wsX9_find := goodIn_r _ [22, 23, 24, 72, 73, 74, 75, 76] (by decide +kernel) (by decide +kernel)
set_option maxRecDepth 20000 in
theorem gX9_readClause_X9_find : GoodIn wsX9_readClause (wsV RX9 45 RX9 yX9_find wsX9_find) := goodIn_app (goodIn_of _ (by decide +kernel)) ggX9_readClause_X9_find
set_option maxRecDepth 20000 in
theorem ggX9_readClause_X9_readPan : GoodIn wsX9_readClause wsX9_readPan := goodIn_r _ [28, 1, 23, 13, 14, 15, 16, 17, 18, 19, 20, 21, 5, 22, 24, 29, 30, 31, 32, 2, 3, 4, 6, 7, 8, 9, 10, 11, 12, 33, 34, 35, 36, 37, 38, 39, 40, 41, 42, 43, 44, 45, 46, 47, 48, 72, 73, 74, 75, 76, 77, 78, 79, 80, 81, 82, 83, 84, 85, 86] (by decide +kernel) (by decide +kernel)
set_option maxRecDepth 20000 in
theorem gX9_readClause_X9_readPan : GoodIn wsX9_readClause (wsV RX9 49 RX9 yX9_readPan wsX9_readPan) := goodIn_app (goodIn_of _ (by decide +kernel)) ggX9_readClause_X9_readPan
set_option maxRecDepth 20000 in
theorem ggX9_readClause_X9_readEgg : GoodIn wsX9_readClause wsX9_readEgg := goodIn_r _ [52, 1, 23, 19, 20, 21, 5, 22, 24, 29, 30, 31, 32, 2, 3, 4, 6, 7, 8, 9, 10, 11, 12, 33, 34, 35, 36, 37, 38, 39, 40, 41, 42, 53, 54, 55, 16, 56, 57, 58, 59, 60, 77, 78, 79, 80, 81, 82, 83, 84, 85, 86, 72, 73, 74, 75, 76] (by decide +kernel) (by decide +kernel)
set_option maxRecDepth 20000 in
theorem gX9_readClause_X9_readEgg : GoodIn wsX9_readClause (wsV RX9 52 RX9 yX9_readEgg wsX9_readEgg) := goodIn_app (goodIn_of _ (by decide +kernel)) ggX9_readClause_X9_readEgg
set_option maxRecDepth 20000 in
theorem ggX9_readClause_X9_readEater : GoodIn wsX9_readClause wsX9_readEater := goodIn_r _ [64, 1, 23, 19, 20, 21, 5, 22, 24, 29, 30, 31, 32, 2, 3, 4, 6, 7, 8, 9, 10, 11, 12, 33, 34, 35, 36, 37, 38, 39, 40, 41, 42, 65, 66, 67, 16, 68, 69, 70, 71, 77, 78, 79, 80, 81, 82, 83, 84, 85, 86, 72, 73, 74, 75, 76] (by decide +kernel) (by decide +kernel)
set_option maxRecDepth 20000 in
theorem gX9_readClause_X9_readEater : GoodIn wsX9_readClause (wsV RX9 55 RX9 yX9_readEater wsX9_readEater) := goodIn_app (goodIn_of _ (by decide +kernel)) ggX9_readClause_X9_readEater
theorem dX9_readClause_0 : decode cX9_readClause 0 = .ok (.aload_n 0, 1) := by decide +kernel
theorem dX9_readClause_1 : decode cX9_readClause 1 = .ok (.invokevirtual 33, 3) := by decide +kernel
theorem dX9_readClause_4 : decode cX9_readClause 4 = .ok (.istore_n 2, 1) := by decide +kernel
theorem dX9_readClause_5 : decode cX9_readClause 5 = .ok (.iload_n 2, 1) := by decide +kernel
theorem dX9_readClause_6 : decode cX9_readClause 6 = .ok (.bipush 112, 2) := by decide +kernel
theorem dX9_readClause_8 : decode cX9_readClause 8 = .ok (.if_icmp .eq 22, 3) := by decide +kernel
theorem dX9_readClause_11 : decode cX9_readClause 11 = .ok (.aload_n 1, 1) := by decide +kernel
theorem dX9_readClause_12 : decode cX9_readClause 12 = .ok (.invokevirtual 41, 3) := by decide +kernel
theorem dX9_readClause_15 : decode cX9_readClause 15 = .ok (.ifCond .ne 15, 3) := by decide +kernel
theorem dX9_readClause_18 : decode cX9_readClause 18 = .ok (.aload_n 0, 1) := by decide +kernel
theorem dX9_readClause_19 : decode cX9_readClause 19 = .ok (.iconst 1, 1) := by decide +kernel
theorem dX9_readClause_20 : decode cX9_readClause 20 = .ok (.aload_n 0, 1) := by decide +kernel
theorem dX9_readClause_21 : decode cX9_readClause 21 = .ok (.getfield 19, 3) := by decide +kernel
theorem dX9_readClause_24 : decode cX9_readClause 24 = .ok (.invokevirtual 45, 3) := by decide +kernel
theorem dX9_readClause_27 : decode cX9_readClause 27 = .ok (.goto 54, 3) := by decide +kernel
theorem dX9_readClause_30 : decode cX9_readClause 30 = .ok (.iload_n 2, 1) := by decide +kernel
theorem dX9_readClause_31 : decode cX9_readClause 31 = .ok (.bipush 112, 2) := by decide +kernel
theorem dX9_readClause_33 : decode cX9_readClause 33 = .ok (.if_icmp .ne 11, 3) := by decide +kernel
theorem dX9_readClause_36 : decode cX9_readClause 36 = .ok (.aload_n 0, 1) := by decide +kernel
theorem dX9_readClause_37 : decode cX9_readClause 37 = .ok (.aload_n 1, 1) := by decide +kernel
theorem dX9_readClause_38 : decode cX9_readClause 38 = .ok (.invokevirtual 49, 3) := by decide +kernel
theorem dX9_readClause_41 : decode cX9_readClause 41 = .ok (.goto 40, 3) := by decide +kernel
theorem dX9_readClause_44 : decode cX9_readClause 44 = .ok (.iload_n 2, 1) := by decide +kernel
theorem dX9_readClause_45 : decode cX9_readClause 45 = .ok (.bipush 101, 2) := by decide +kernel
theorem dX9_readClause_47 : decode cX9_readClause 47 = .ok (.if_icmp .ne 11, 3) := by decide +kernel
theorem dX9_readClause_50 : decode cX9_readClause 50 = .ok (.aload_n 0, 1) := by decide +kernel
theorem dX9_readClause_51 : decode cX9_readClause 51 = .ok (.aload_n 1, 1) := by decide +kernel
theorem dX9_readClause_52 : decode cX9_readClause 52 = .ok (.invokevirtual 52, 3) := by decide +kernel
theorem dX9_readClause_55 : decode cX9_readClause 55 = .ok (.goto 26, 3) := by decide +kernel
theorem dX9_readClause_58 : decode cX9_readClause 58 = .ok (.iload_n 2, 1) := by decide +kernel
theorem dX9_readClause_59 : decode cX9_readClause 59 = .ok (.bipush 109, 2) := by decide +kernel
theorem dX9_readClause_61 : decode cX9_readClause 61 = .ok (.if_icmp .ne 11, 3) := by decide +kernel
theorem dX9_readClause_64 : decode cX9_readClause 64 = .ok (.aload_n 0, 1) := by decide +kernel
theorem dX9_readClause_65 : decode cX9_readClause 65 = .ok (.aload_n 1, 1) := by decide +kernel
theorem dX9_readClause_66 : decode cX9_readClause 66 = .ok (.invokevirtual 55, 3) := by decide +kernel
theorem dX9_readClause_69 : decode cX9_readClause 69 = .ok (.goto 12, 3) := by decide +kernel
theorem dX9_readClause_72 : decode cX9_readClause 72 = .ok (.aload_n 0, 1) := by decide +kernel
theorem dX9_readClause_73 : decode cX9_readClause 73 = .ok (.iconst 1, 1) := by decide +kernel
theorem dX9_readClause_74 : decode cX9_readClause 74 = .ok (.aload_n 0, 1) := by decide +kernel
theorem dX9_readClause_75 : decode cX9_readClause 75 = .ok (.getfield 19, 3) := by decide +kernel
theorem dX9_readClause_78 : decode cX9_readClause 78 = .ok (.invokevirtual 45, 3) := by decide +kernel
theorem dX9_readClause_81 : decode cX9_readClause 81 = .ok (.return_, 1) := by decide +kernel
set_option maxRecDepth 20000 in
theorem ggX9_readPan_X8_isLaid : GoodIn wsX9_readPan wsX8_isLaid := goodIn_r _ [7, 8, 50, 51, 52, 53, 54, 55, 56, 57, 58, 59] (by decide +kernel) (by decide +kernel)
set_option maxRecDepth 20000 in
theorem gX9_readPan_X8_isLaid : GoodIn wsX9_readPan (wsV RX9 41 RX8 yX8_isLaid wsX8_isLaid) := goodIn_app (goodIn_of _ (by decide +kernel)) ggX9_readPan_X8_isLaid
set_option maxRecDepth 20000 in
theorem ggX9_readPan_X9_find : GoodIn wsX9_readPan wsX9_find := goodIn_r _ [13, 2, 14, 45, 46, 47, 48, 49] (by decide +kernel) (by decide +kernel)
set_option maxRecDepth 20000 in
theorem gX9_readPan_X9_find : GoodIn wsX9_readPan (wsV RX9 45 RX9 yX9_find wsX9_find) := goodIn_app (goodIn_of _ (by decide +kernel)) ggX9_readPan_X9_find
set_option maxRecDepth 20000 in
theorem ggX9_readPan_X9_readNumber : GoodIn wsX9_readPan wsX9_readNumber := goodIn_r _ [18, 2, 1, 19, 20, 21, 12, 22, 23, 24, 25, 26, 27, 28, 29, 30, 31, 9, 10, 11, 13, 14, 32, 33, 34, 45, 46, 47, 48, 49] (by decide +kernel) (by decide +kernel)
set_option maxRecDepth 20000 in
theorem gX9_readPan_X9_readNumber : GoodIn wsX9_readPan (wsV RX9 58 RX9 yX9_readNumber wsX9_readNumber) := goodIn_app (goodIn_of _ (by decide +kernel)) ggX9_readPan_X9_readNumber
set_option maxRecDepth 20000 in
theorem ggX9_readPan_X9_readSemicolon : GoodIn wsX9_readPan wsX9_readSemicolon := goodIn_r _ [38, 2, 1, 19, 20, 21, 12, 22, 23, 24, 25, 26, 27, 28, 9, 10, 11, 13, 14, 45, 46, 47, 48, 49] (by decide +kernel) (by decide +kernel)
set_option maxRecDepth 20000 in
theorem gX9_readPan_X9_readSemicolon : GoodIn wsX9_readPan (wsV RX9 62 RX9 yX9_readSemicolon wsX9_readSemicolon) := goodIn_app (goodIn_of _ (by decide +kernel)) ggX9_readPan_X9_readSemicolon
set_option maxRecDepth 20000 in
theorem ggX9_readPan_X8_layPan : GoodIn wsX9_readPan wsX8_layPan := goodIn_r _ [42, 8, 43, 44, 50, 51, 52, 53, 54, 55, 56, 57, 58, 59] (by decide +kernel) (by decide +kernel)
set_option maxRecDepth 20000 in
theorem gX9_readPan_X8_layPan : GoodIn wsX9_readPan (wsV RX9 65 RX8 yX8_layPan wsX8_layPan) := goodIn_app (goodIn_of _ (by decide +kernel)) ggX9_readPan_X8_layPan
theorem dX9_readPan_0 : decode cX9_readPan 0 = .ok (.aload_n 1, 1) := by decide +kernel
theorem dX9_readPan_1 : decode cX9_readPan 1 = .ok (.invokevirtual 41, 3) := by decide +kernel
theorem dX9_readPan_4 : decode cX9_readPan 4 = .ok (.ifCond .eq 13, 3) := by decide +kernel
theorem dX9_readPan_7 : decode cX9_readPan 7 = .ok (.aload_n 0, 1) := by decide +kernel
theorem dX9_readPan_8 : decode cX9_readPan 8 = .ok (.iconst 3, 1) := by decide +kernel
theorem dX9_readPan_9 : decode cX9_readPan 9 = .ok (.aload_n 0, 1) := by decide +kernel
theorem dX9_readPan_10 : decode cX9_readPan 10 = .ok (.getfield 19, 3) := by decide +kernel
theorem dX9_readPan_13 : decode cX9_readPan 13 = .ok (.invokevirtual 45, 3) := by decide +kernel
theorem dX9_readPan_16 : decode cX9_readPan 16 = .ok (.return_, 1) := by decide +kernel
theorem dX9_readPan_17 : decode cX9_readPan 17 = .ok (.aload_n 0, 1) := by decide +kernel
theorem dX9_readPan_18 : decode cX9_readPan 18 = .ok (.dup, 1) := by decide +kernel
theorem dX9_readPan_19 : decode cX9_readPan 19 = .ok (.getfield 19, 3) := by decide +kernel
theorem dX9_readPan_22 : decode cX9_readPan 22 = .ok (.iconst 1, 1) := by decide +kernel
theorem dX9_readPan_23 : decode cX9_readPan 23 = .ok (.iadd, 1) := by decide +kernel
theorem dX9_readPan_24 : decode cX9_readPan 24 = .ok (.putfield 19, 3) := by decide +kernel
theorem dX9_readPan_27 : decode cX9_readPan 27 = .ok (.aload_n 0, 1) := by decide +kernel
theorem dX9_readPan_28 : decode cX9_readPan 28 = .ok (.iconst 1, 1) := by decide +kernel
theorem dX9_readPan_29 : decode cX9_readPan 29 = .ok (.iconst 3, 1) := by decide +kernel
theorem dX9_readPan_30 : decode cX9_readPan 30 = .ok (.invokevirtual 58, 3) := by decide +kernel
theorem dX9_readPan_33 : decode cX9_readPan 33 = .ok (.istore_n 2, 1) := by decide +kernel
theorem dX9_readPan_34 : decode cX9_readPan 34 = .ok (.aload_n 0, 1) := by decide +kernel
theorem dX9_readPan_35 : decode cX9_readPan 35 = .ok (.iconst 0, 1) := by decide +kernel
theorem dX9_readPan_36 : decode cX9_readPan 36 = .ok (.bipush 99, 2) := by decide +kernel
theorem dX9_readPan_38 : decode cX9_readPan 38 = .ok (.invokevirtual 58, 3) := by decide +kernel
theorem dX9_readPan_41 : decode cX9_readPan 41 = .ok (.istore_n 3, 1) := by decide +kernel
theorem dX9_readPan_42 : decode cX9_readPan 42 = .ok (.aload_n 0, 1) := by decide +kernel
theorem dX9_readPan_43 : decode cX9_readPan 43 = .ok (.iconst 1, 1) := by decide +kernel
theorem dX9_readPan_44 : decode cX9_readPan 44 = .ok (.bipush 30, 2) := by decide +kernel
theorem dX9_readPan_46 : decode cX9_readPan 46 = .ok (.invokevirtual 58, 3) := by decide +kernel
theorem dX9_readPan_49 : decode cX9_readPan 49 = .ok (.istore 4, 2) := by decide +kernel
theorem dX9_readPan_51 : decode cX9_readPan 51 = .ok (.aload_n 0, 1) := by decide +kernel
theorem dX9_readPan_52 : decode cX9_readPan 52 = .ok (.invokevirtual 62, 3) := by decide +kernel
theorem dX9_readPan_55 : decode cX9_readPan 55 = .ok (.aload_n 0, 1) := by decide +kernel
theorem dX9_readPan_56 : decode cX9_readPan 56 = .ok (.getfield 22, 3) := by decide +kernel
theorem dX9_readPan_59 : decode cX9_readPan 59 = .ok (.ifCond .ne 11, 3) := by decide +kernel
theorem dX9_readPan_62 : decode cX9_readPan 62 = .ok (.aload_n 1, 1) := by decide +kernel
theorem dX9_readPan_63 : decode cX9_readPan 63 = .ok (.iload_n 2, 1) := by decide +kernel
theorem dX9_readPan_64 : decode cX9_readPan 64 = .ok (.iload_n 3, 1) := by decide +kernel
theorem dX9_readPan_65 : decode cX9_readPan 65 = .ok (.iload 4, 2) := by decide +kernel
theorem dX9_readPan_67 : decode cX9_readPan 67 = .ok (.invokevirtual 65, 3) := by decide +kernel
theorem dX9_readPan_70 : decode cX9_readPan 70 = .ok (.return_, 1) := by decide +kernel
set_option maxRecDepth 20000 in
theorem ggX9_readEgg_X9_find : GoodIn wsX9_readEgg wsX9_find := goodIn_r _ [7, 2, 8, 52, 53, 54, 55, 56] (by decide +kernel) (by decide +kernel)
set_option maxRecDepth 20000 in
theorem gX9_readEgg_X9_find : GoodIn wsX9_readEgg (wsV RX9 45 RX9 yX9_find wsX9_find) := goodIn_app (goodIn_of _ (by decide +kernel)) ggX9_readEgg_X9_find
set_option maxRecDepth 20000 in
theorem ggX9_readEgg_X9_readNumber : GoodIn wsX9_readEgg wsX9_readNumber := goodIn_r _ [12, 2, 1, 13, 14, 15, 6, 16, 17, 18, 19, 20, 21, 22, 23, 24, 25, 3, 4, 5, 7, 8, 26, 27, 28, 52, 53, 54, 55, 56] (by decide +kernel) (by decide +kernel)
set_option maxRecDepth 20000 in
theorem gX9_readEgg_X9_readNumber : GoodIn wsX9_readEgg (wsV RX9 58 RX9 yX9_readNumber wsX9_readNumber) := goodIn_app (goodIn_of _ (by decide +kernel)) ggX9_readEgg_X9_readNumber
set_option maxRecDepth 20000 in
theorem ggX9_readEgg_X9_readSemicolon : GoodIn wsX9_readEgg wsX9_readSemicolon := goodIn_r _ [32, 2, 1, 13, 14, 15, 6, 16, 17, 18, 19, 20, 21, 22, 3, 4, 5, 7, 8, 52, 53, 54, 55, 56] (by decide +kernel) (by decide +kernel)
set_option maxRecDepth 20000 in
theorem gX9_readEgg_X9_readSemicolon : GoodIn wsX9_readEgg (wsV RX9 62 RX9 yX9_readSemicolon wsX9_readSemicolon) := goodIn_app (goodIn_of _ (by decide +kernel)) ggX9_readEgg_X9_readSemicolon
set_option maxRecDepth 20000 in
theorem ggX9_readEgg_X8_addEgg : GoodIn wsX9_readEgg wsX8_addEgg := goodIn_r _ [37, 38, 39, 40, 41, 42, 43, 44, 45, 46, 47, 48, 49, 50, 51] (by decide +kernel) (by decide +kernel)
set_option maxRecDepth 20000 in
theorem gX9_readEgg_X8_addEgg : GoodIn wsX9_readEgg (wsV RX9 72 RX8 yX8_addEgg wsX8_addEgg) := goodIn_app (goodIn_of _ (by decide +kernel)) ggX9_readEgg_X8_addEgg
theorem dX9_readEgg_0 : decode cX9_readEgg 0 = .ok (.aload_n 1, 1) := by decide +kernel
theorem dX9_readEgg_1 : decode cX9_readEgg 1 = .ok (.getfield 69, 3) := by decide +kernel
theorem dX9_readEgg_4 : decode cX9_readEgg 4 = .ok (.bipush 7, 2) := by decide +kernel
theorem dX9_readEgg_6 : decode cX9_readEgg 6 = .ok (.if_icmp .lt 13, 3) := by decide +kernel
theorem dX9_readEgg_9 : decode cX9_readEgg 9 = .ok (.aload_n 0, 1) := by decide +kernel
theorem dX9_readEgg_10 : decode cX9_readEgg 10 = .ok (.iconst 3, 1) := by decide +kernel
theorem dX9_readEgg_11 : decode cX9_readEgg 11 = .ok (.aload_n 0, 1) := by decide +kernel
theorem dX9_readEgg_12 : decode cX9_readEgg 12 = .ok (.getfield 19, 3) := by decide +kernel
theorem dX9_readEgg_15 : decode cX9_readEgg 15 = .ok (.invokevirtual 45, 3) := by decide +kernel
theorem dX9_readEgg_18 : decode cX9_readEgg 18 = .ok (.return_, 1) := by decide +kernel
theorem dX9_readEgg_19 : decode cX9_readEgg 19 = .ok (.aload_n 0, 1) := by decide +kernel
theorem dX9_readEgg_20 : decode cX9_readEgg 20 = .ok (.dup, 1) := by decide +kernel
theorem dX9_readEgg_21 : decode cX9_readEgg 21 = .ok (.getfield 19, 3) := by decide +kernel
theorem dX9_readEgg_24 : decode cX9_readEgg 24 = .ok (.iconst 1, 1) := by decide +kernel
theorem dX9_readEgg_25 : decode cX9_readEgg 25 = .ok (.iadd, 1) := by decide +kernel
theorem dX9_readEgg_26 : decode cX9_readEgg 26 = .ok (.putfield 19, 3) := by decide +kernel
theorem dX9_readEgg_29 : decode cX9_readEgg 29 = .ok (.aload_n 0, 1) := by decide +kernel
theorem dX9_readEgg_30 : decode cX9_readEgg 30 = .ok (.iconst 0, 1) := by decide +kernel
theorem dX9_readEgg_31 : decode cX9_readEgg 31 = .ok (.bipush 30, 2) := by decide +kernel
theorem dX9_readEgg_33 : decode cX9_readEgg 33 = .ok (.invokevirtual 58, 3) := by decide +kernel
theorem dX9_readEgg_36 : decode cX9_readEgg 36 = .ok (.istore_n 2, 1) := by decide +kernel
theorem dX9_readEgg_37 : decode cX9_readEgg 37 = .ok (.aload_n 0, 1) := by decide +kernel
theorem dX9_readEgg_38 : decode cX9_readEgg 38 = .ok (.iconst 1, 1) := by decide +kernel
theorem dX9_readEgg_39 : decode cX9_readEgg 39 = .ok (.iconst 5, 1) := by decide +kernel
theorem dX9_readEgg_40 : decode cX9_readEgg 40 = .ok (.invokevirtual 58, 3) := by decide +kernel
theorem dX9_readEgg_43 : decode cX9_readEgg 43 = .ok (.istore_n 3, 1) := by decide +kernel
theorem dX9_readEgg_44 : decode cX9_readEgg 44 = .ok (.aload_n 0, 1) := by decide +kernel
theorem dX9_readEgg_45 : decode cX9_readEgg 45 = .ok (.invokevirtual 62, 3) := by decide +kernel
theorem dX9_readEgg_48 : decode cX9_readEgg 48 = .ok (.aload_n 0, 1) := by decide +kernel
theorem dX9_readEgg_49 : decode cX9_readEgg 49 = .ok (.getfield 22, 3) := by decide +kernel
theorem dX9_readEgg_52 : decode cX9_readEgg 52 = .ok (.ifCond .ne 9, 3) := by decide +kernel
theorem dX9_readEgg_55 : decode cX9_readEgg 55 = .ok (.aload_n 1, 1) := by decide +kernel
theorem dX9_readEgg_56 : decode cX9_readEgg 56 = .ok (.iload_n 2, 1) := by decide +kernel
theorem dX9_readEgg_57 : decode cX9_readEgg 57 = .ok (.iload_n 3, 1) := by decide +kernel
theorem dX9_readEgg_58 : decode cX9_readEgg 58 = .ok (.invokevirtual 72, 3) := by decide +kernel
theorem dX9_readEgg_61 : decode cX9_readEgg 61 = .ok (.return_, 1) := by decide +kernel
set_option maxRecDepth 20000 in
theorem ggX9_readEater_X9_find : GoodIn wsX9_readEater wsX9_find := goodIn_r _ [7, 2, 8, 51, 52, 53, 54, 55] (by decide +kernel) (by decide +kernel)
set_option maxRecDepth 20000 in
theorem gX9_readEater_X9_find : GoodIn wsX9_readEater (wsV RX9 45 RX9 yX9_find wsX9_find) := goodIn_app (goodIn_of _ (by decide +kernel)) ggX9_readEater_X9_find
set_option maxRecDepth 20000 in
theorem ggX9_readEater_X9_readNumber : GoodIn wsX9_readEater wsX9_readNumber := goodIn_r _ [12, 2, 1, 13, 14, 15, 6, 16, 17, 18, 19, 20, 21, 22, 23, 24, 25, 3, 4, 5, 7, 8, 26, 27, 28, 51, 52, 53, 54, 55] (by decide +kernel) (by decide +kernel)
set_option maxRecDepth 20000 in
theorem gX9_readEater_X9_readNumber : GoodIn wsX9_readEater (wsV RX9 58 RX9 yX9_readNumber wsX9_readNumber) := goodIn_app (goodIn_of _ (by decide +kernel)) ggX9_readEater_X9_readNumber
set_option maxRecDepth 20000 in
theorem ggX9_readEater_X9_readSemicolon : GoodIn wsX9_readEater wsX9_readSemicolon := goodIn_r _ [32, 2, 1, 13, 14, 15, 6, 16, 17, 18, 19, 20, 21, 22, 3, 4, 5, 7, 8, 51, 52, 53, 54, 55] (by decide +kernel) (by decide +kernel)
set_option maxRecDepth 20000 in
theorem gX9_readEater_X9_readSemicolon : GoodIn wsX9_readEater (wsV RX9 62 RX9 yX9_readSemicolon wsX9_readSemicolon) := goodIn_app (goodIn_of _ (by decide +kernel)) ggX9_readEater_X9_readSemicolon
set_option maxRecDepth 20000 in
theorem ggX9_readEater_X8_addEater : GoodIn wsX9_readEater wsX8_addEater := goodIn_r _ [37, 38, 39, 40, 41, 42, 43, 44, 45, 46, 47, 48, 49, 50] (by decide +kernel) (by decide +kernel)
set_option maxRecDepth 20000 in
theorem gX9_readEater_X8_addEater : GoodIn wsX9_readEater (wsV RX9 78 RX8 yX8_addEater wsX8_addEater) := goodIn_app (goodIn_of _ (by decide +kernel)) ggX9_readEater_X8_addEater
theorem dX9_readEater_0 : decode cX9_readEater 0 = .ok (.aload_n 1, 1) := by decide +kernel
theorem dX9_readEater_1 : decode cX9_readEater 1 = .ok (.getfield 75, 3) := by decide +kernel
theorem dX9_readEater_4 : decode cX9_readEater 4 = .ok (.iconst 5, 1) := by decide +kernel
theorem dX9_readEater_5 : decode cX9_readEater 5 = .ok (.if_icmp .lt 13, 3) := by decide +kernel
theorem dX9_readEater_8 : decode cX9_readEater 8 = .ok (.aload_n 0, 1) := by decide +kernel
theorem dX9_readEater_9 : decode cX9_readEater 9 = .ok (.iconst 3, 1) := by decide +kernel
theorem dX9_readEater_10 : decode cX9_readEater 10 = .ok (.aload_n 0, 1) := by decide +kernel
theorem dX9_readEater_11 : decode cX9_readEater 11 = .ok (.getfield 19, 3) := by decide +kernel
theorem dX9_readEater_14 : decode cX9_readEater 14 = .ok (.invokevirtual 45, 3) := by decide +kernel
theorem dX9_readEater_17 : decode cX9_readEater 17 = .ok (.return_, 1) := by decide +kernel
theorem dX9_readEater_18 : decode cX9_readEater 18 = .ok (.aload_n 0, 1) := by decide +kernel
theorem dX9_readEater_19 : decode cX9_readEater 19 = .ok (.dup, 1) := by decide +kernel
theorem dX9_readEater_20 : decode cX9_readEater 20 = .ok (.getfield 19, 3) := by decide +kernel
theorem dX9_readEater_23 : decode cX9_readEater 23 = .ok (.iconst 1, 1) := by decide +kernel
theorem dX9_readEater_24 : decode cX9_readEater 24 = .ok (.iadd, 1) := by decide +kernel
theorem dX9_readEater_25 : decode cX9_readEater 25 = .ok (.putfield 19, 3) := by decide +kernel
theorem dX9_readEater_28 : decode cX9_readEater 28 = .ok (.aload_n 0, 1) := by decide +kernel
theorem dX9_readEater_29 : decode cX9_readEater 29 = .ok (.iconst 0, 1) := by decide +kernel
theorem dX9_readEater_30 : decode cX9_readEater 30 = .ok (.bipush 99, 2) := by decide +kernel
theorem dX9_readEater_32 : decode cX9_readEater 32 = .ok (.invokevirtual 58, 3) := by decide +kernel
theorem dX9_readEater_35 : decode cX9_readEater 35 = .ok (.istore_n 2, 1) := by decide +kernel
theorem dX9_readEater_36 : decode cX9_readEater 36 = .ok (.aload_n 0, 1) := by decide +kernel
theorem dX9_readEater_37 : decode cX9_readEater 37 = .ok (.iload_n 2, 1) := by decide +kernel
theorem dX9_readEater_38 : decode cX9_readEater 38 = .ok (.bipush 99, 2) := by decide +kernel
theorem dX9_readEater_40 : decode cX9_readEater 40 = .ok (.invokevirtual 58, 3) := by decide +kernel
theorem dX9_readEater_43 : decode cX9_readEater 43 = .ok (.istore_n 3, 1) := by decide +kernel
theorem dX9_readEater_44 : decode cX9_readEater 44 = .ok (.aload_n 0, 1) := by decide +kernel
end
section
theorem dX9_readEater_45 : decode cX9_readEater 45 = .ok (.invokevirtual 62, 3) := by decide +kernel
theorem dX9_readEater_48 : decode cX9_readEater 48 = .ok (.aload_n 0, 1) := by decide +kernel
theorem dX9_readEater_49 : decode cX9_readEater 49 = .ok (.getfield 22, 3) := by decide +kernel
theorem dX9_readEater_52 : decode cX9_readEater 52 = .ok (.ifCond .ne 9, 3) := by decide +kernel
theorem dX9_readEater_55 : decode cX9_readEater 55 = .ok (.aload_n 1, 1) := by decide +kernel
theorem dX9_readEater_56 : decode cX9_readEater 56 = .ok (.iload_n 2, 1) := by decide +kernel
theorem dX9_readEater_57 : decode cX9_readEater 57 = .ok (.iload_n 3, 1) := by decide +kernel
theorem dX9_readEater_58 : decode cX9_readEater 58 = .ok (.invokevirtual 78, 3) := by decide +kernel
theorem dX9_readEater_61 : decode cX9_readEater 61 = .ok (.return_, 1) := by decide +kernel
set_option maxRecDepth 20000 in
theorem ggX9_readNumber_X9_skipBlanks : GoodIn wsX9_readNumber wsX9_skipBlanks := goodIn_r _ [7, 2, 8, 9, 10, 11, 6, 12, 13, 25, 26, 27, 28, 29] (by decide +kernel) (by decide +kernel)
set_option maxRecDepth 20000 in
theorem gX9_readNumber_X9_skipBlanks : GoodIn wsX9_readNumber (wsV RX9 33 RX9 yX9_skipBlanks wsX9_skipBlanks) := goodIn_app (goodIn_of _ (by decide +kernel)) ggX9_readNumber_X9_skipBlanks
set_option maxRecDepth 20000 in
theorem ggX9_readNumber_X9_isFigure : GoodIn wsX9_readNumber wsX9_isFigure := goodIn_r _ [16] (by decide +kernel) (by decide +kernel)
set_option maxRecDepth 20000 in
theorem gX9_readNumber_X9_isFigure : GoodIn wsX9_readNumber (va_wsS RX9 81 yX9_isFigure wsX9_isFigure) := goodIn_app (goodIn_of _ (by decide +kernel)) ggX9_readNumber_X9_isFigure
set_option maxRecDepth 20000 in
theorem ggX9_readNumber_X9_letterAt : GoodIn wsX9_readNumber wsX9_letterAt := goodIn_r _ [12, 8, 13, 25, 26, 27, 28, 29] (by decide +kernel) (by decide +kernel)
set_option maxRecDepth 20000 in
theorem gX9_readNumber_X9_letterAt : GoodIn wsX9_readNumber (wsV RX9 85 RX9 yX9_letterAt wsX9_letterAt) := goodIn_app (goodIn_of _ (by decide +kernel)) ggX9_readNumber_X9_letterAt
set_option maxRecDepth 20000 in
theorem ggX9_readNumber_X9_find : GoodIn wsX9_readNumber wsX9_find := goodIn_r _ [20, 1, 21, 25, 26, 27, 28, 29] (by decide +kernel) (by decide +kernel)
set_option maxRecDepth 20000 in
theorem gX9_readNumber_X9_find : GoodIn wsX9_readNumber (wsV RX9 45 RX9 yX9_find wsX9_find) := goodIn_app (goodIn_of _ (by decide +kernel)) ggX9_readNumber_X9_find
set_option maxRecDepth 20000 in
theorem ggX9_readNumber_X10_isWithin : GoodIn wsX9_readNumber wsX10_isWithin := goodIn_r _ [24] (by decide +kernel) (by decide +kernel)
set_option maxRecDepth 20000 in
theorem gX9_readNumber_X10_isWithin_n89 : GoodIn wsX9_readNumber (wsX10_isWithin) := ggX9_readNumber_X10_isWithin
theorem dX9_readNumber_0 : decode cX9_readNumber 0 = .ok (.aload_n 0, 1) := by decide +kernel
theorem dX9_readNumber_1 : decode cX9_readNumber 1 = .ok (.getfield 22, 3) := by decide +kernel
theorem dX9_readNumber_4 : decode cX9_readNumber 4 = .ok (.ifCond .eq 5, 3) := by decide +kernel
theorem dX9_readNumber_7 : decode cX9_readNumber 7 = .ok (.iconst 0, 1) := by decide +kernel
theorem dX9_readNumber_8 : decode cX9_readNumber 8 = .ok (.ireturn, 1) := by decide +kernel
theorem dX9_readNumber_9 : decode cX9_readNumber 9 = .ok (.aload_n 0, 1) := by decide +kernel
theorem dX9_readNumber_10 : decode cX9_readNumber 10 = .ok (.invokevirtual 33, 3) := by decide +kernel
theorem dX9_readNumber_13 : decode cX9_readNumber 13 = .ok (.istore_n 3, 1) := by decide +kernel
theorem dX9_readNumber_14 : decode cX9_readNumber 14 = .ok (.aload_n 0, 1) := by decide +kernel
theorem dX9_readNumber_15 : decode cX9_readNumber 15 = .ok (.getfield 19, 3) := by decide +kernel
theorem dX9_readNumber_18 : decode cX9_readNumber 18 = .ok (.istore 4, 2) := by decide +kernel
theorem dX9_readNumber_20 : decode cX9_readNumber 20 = .ok (.iconst 0, 1) := by decide +kernel
theorem dX9_readNumber_21 : decode cX9_readNumber 21 = .ok (.istore 5, 2) := by decide +kernel
theorem dX9_readNumber_23 : decode cX9_readNumber 23 = .ok (.iconst 0, 1) := by decide +kernel
theorem dX9_readNumber_24 : decode cX9_readNumber 24 = .ok (.istore 6, 2) := by decide +kernel
theorem dX9_readNumber_26 : decode cX9_readNumber 26 = .ok (.iload 5, 2) := by decide +kernel
theorem dX9_readNumber_28 : decode cX9_readNumber 28 = .ok (.sipush 240, 3) := by decide +kernel
theorem dX9_readNumber_31 : decode cX9_readNumber 31 = .ok (.if_icmp .ge 58, 3) := by decide +kernel
theorem dX9_readNumber_34 : decode cX9_readNumber 34 = .ok (.iload_n 3, 1) := by decide +kernel
theorem dX9_readNumber_35 : decode cX9_readNumber 35 = .ok (.invokestatic 81, 3) := by decide +kernel
theorem dX9_readNumber_38 : decode cX9_readNumber 38 = .ok (.ifCond .eq 51, 3) := by decide +kernel
theorem dX9_readNumber_41 : decode cX9_readNumber 41 = .ok (.iload 5, 2) := by decide +kernel
theorem dX9_readNumber_43 : decode cX9_readNumber 43 = .ok (.iconst 3, 1) := by decide +kernel
theorem dX9_readNumber_44 : decode cX9_readNumber 44 = .ok (.if_icmp .ge 16, 3) := by decide +kernel
theorem dX9_readNumber_47 : decode cX9_readNumber 47 = .ok (.iload 6, 2) := by decide +kernel
theorem dX9_readNumber_49 : decode cX9_readNumber 49 = .ok (.bipush 10, 2) := by decide +kernel
theorem dX9_readNumber_51 : decode cX9_readNumber 51 = .ok (.imul, 1) := by decide +kernel
theorem dX9_readNumber_52 : decode cX9_readNumber 52 = .ok (.iload_n 3, 1) := by decide +kernel
theorem dX9_readNumber_53 : decode cX9_readNumber 53 = .ok (.iadd, 1) := by decide +kernel
theorem dX9_readNumber_54 : decode cX9_readNumber 54 = .ok (.bipush 48, 2) := by decide +kernel
theorem dX9_readNumber_56 : decode cX9_readNumber 56 = .ok (.isub, 1) := by decide +kernel
theorem dX9_readNumber_57 : decode cX9_readNumber 57 = .ok (.goto 5, 3) := by decide +kernel
theorem dX9_readNumber_60 : decode cX9_readNumber 60 = .ok (.iload 6, 2) := by decide +kernel
theorem dX9_readNumber_62 : decode cX9_readNumber 62 = .ok (.istore 6, 2) := by decide +kernel
theorem dX9_readNumber_64 : decode cX9_readNumber 64 = .ok (.iinc 5 1, 3) := by decide +kernel
theorem dX9_readNumber_67 : decode cX9_readNumber 67 = .ok (.aload_n 0, 1) := by decide +kernel
theorem dX9_readNumber_68 : decode cX9_readNumber 68 = .ok (.dup, 1) := by decide +kernel
theorem dX9_readNumber_69 : decode cX9_readNumber 69 = .ok (.getfield 19, 3) := by decide +kernel
theorem dX9_readNumber_72 : decode cX9_readNumber 72 = .ok (.iconst 1, 1) := by decide +kernel
theorem dX9_readNumber_73 : decode cX9_readNumber 73 = .ok (.iadd, 1) := by decide +kernel
theorem dX9_readNumber_74 : decode cX9_readNumber 74 = .ok (.putfield 19, 3) := by decide +kernel
theorem dX9_readNumber_77 : decode cX9_readNumber 77 = .ok (.aload_n 0, 1) := by decide +kernel
theorem dX9_readNumber_78 : decode cX9_readNumber 78 = .ok (.aload_n 0, 1) := by decide +kernel
theorem dX9_readNumber_79 : decode cX9_readNumber 79 = .ok (.getfield 19, 3) := by decide +kernel
theorem dX9_readNumber_82 : decode cX9_readNumber 82 = .ok (.invokevirtual 85, 3) := by decide +kernel
theorem dX9_readNumber_85 : decode cX9_readNumber 85 = .ok (.istore_n 3, 1) := by decide +kernel
theorem dX9_readNumber_86 : decode cX9_readNumber 86 = .ok (.goto (-60), 3) := by decide +kernel
theorem dX9_readNumber_89 : decode cX9_readNumber 89 = .ok (.iload 5, 2) := by decide +kernel
theorem dX9_readNumber_91 : decode cX9_readNumber 91 = .ok (.ifCond .ne 13, 3) := by decide +kernel
theorem dX9_readNumber_94 : decode cX9_readNumber 94 = .ok (.aload_n 0, 1) := by decide +kernel
theorem dX9_readNumber_95 : decode cX9_readNumber 95 = .ok (.iconst 1, 1) := by decide +kernel
theorem dX9_readNumber_96 : decode cX9_readNumber 96 = .ok (.iload 4, 2) := by decide +kernel
theorem dX9_readNumber_98 : decode cX9_readNumber 98 = .ok (.invokevirtual 45, 3) := by decide +kernel
theorem dX9_readNumber_101 : decode cX9_readNumber 101 = .ok (.goto 26, 3) := by decide +kernel
theorem dX9_readNumber_104 : decode cX9_readNumber 104 = .ok (.iload 5, 2) := by decide +kernel
theorem dX9_readNumber_106 : decode cX9_readNumber 106 = .ok (.iconst 3, 1) := by decide +kernel
theorem dX9_readNumber_107 : decode cX9_readNumber 107 = .ok (.if_icmp .gt 13, 3) := by decide +kernel
theorem dX9_readNumber_110 : decode cX9_readNumber 110 = .ok (.iload 6, 2) := by decide +kernel
theorem dX9_readNumber_112 : decode cX9_readNumber 112 = .ok (.iload_n 1, 1) := by decide +kernel
theorem dX9_readNumber_113 : decode cX9_readNumber 113 = .ok (.iload_n 2, 1) := by decide +kernel
theorem dX9_readNumber_114 : decode cX9_readNumber 114 = .ok (.invokestatic 89, 3) := by decide +kernel
theorem dX9_readNumber_117 : decode cX9_readNumber 117 = .ok (.ifCond .ne 10, 3) := by decide +kernel
theorem dX9_readNumber_120 : decode cX9_readNumber 120 = .ok (.aload_n 0, 1) := by decide +kernel
theorem dX9_readNumber_121 : decode cX9_readNumber 121 = .ok (.iconst 2, 1) := by decide +kernel
theorem dX9_readNumber_122 : decode cX9_readNumber 122 = .ok (.iload 4, 2) := by decide +kernel
theorem dX9_readNumber_124 : decode cX9_readNumber 124 = .ok (.invokevirtual 45, 3) := by decide +kernel
theorem dX9_readNumber_127 : decode cX9_readNumber 127 = .ok (.iload 6, 2) := by decide +kernel
theorem dX9_readNumber_129 : decode cX9_readNumber 129 = .ok (.ireturn, 1) := by decide +kernel
set_option maxRecDepth 20000 in
theorem ggX9_readSemicolon_X9_skipBlanks : GoodIn wsX9_readSemicolon wsX9_skipBlanks := goodIn_r _ [7, 2, 8, 9, 10, 11, 6, 12, 13, 19, 20, 21, 22, 23] (by decide +kernel) (by decide +kernel)
set_option maxRecDepth 20000 in
theorem gX9_readSemicolon_X9_skipBlanks : GoodIn wsX9_readSemicolon (wsV RX9 33 RX9 yX9_skipBlanks wsX9_skipBlanks) := goodIn_app (goodIn_of _ (by decide +kernel)) ggX9_readSemicolon_X9_skipBlanks
set_option maxRecDepth 20000 in
theorem ggX9_readSemicolon_X9_find : GoodIn wsX9_readSemicolon wsX9_find := goodIn_r _ [17, 1, 18, 19, 20, 21, 22, 23] (by decide +kernel) (by decide +kernel)
set_option maxRecDepth 20000 in
theorem gX9_readSemicolon_X9_find : GoodIn wsX9_readSemicolon (wsV RX9 45 RX9 yX9_find wsX9_find) := goodIn_app (goodIn_of _ (by decide +kernel)) ggX9_readSemicolon_X9_find
theorem dX9_readSemicolon_0 : decode cX9_readSemicolon 0 = .ok (.aload_n 0, 1) := by decide +kernel
theorem dX9_readSemicolon_1 : decode cX9_readSemicolon 1 = .ok (.getfield 22, 3) := by decide +kernel
theorem dX9_readSemicolon_4 : decode cX9_readSemicolon 4 = .ok (.ifCond .eq 4, 3) := by decide +kernel
theorem dX9_readSemicolon_7 : decode cX9_readSemicolon 7 = .ok (.return_, 1) := by decide +kernel
theorem dX9_readSemicolon_8 : decode cX9_readSemicolon 8 = .ok (.aload_n 0, 1) := by decide +kernel
theorem dX9_readSemicolon_9 : decode cX9_readSemicolon 9 = .ok (.invokevirtual 33, 3) := by decide +kernel
theorem dX9_readSemicolon_12 : decode cX9_readSemicolon 12 = .ok (.bipush 59, 2) := by decide +kernel
theorem dX9_readSemicolon_14 : decode cX9_readSemicolon 14 = .ok (.if_icmp .ne 16, 3) := by decide +kernel
theorem dX9_readSemicolon_17 : decode cX9_readSemicolon 17 = .ok (.aload_n 0, 1) := by decide +kernel
theorem dX9_readSemicolon_18 : decode cX9_readSemicolon 18 = .ok (.dup, 1) := by decide +kernel
theorem dX9_readSemicolon_19 : decode cX9_readSemicolon 19 = .ok (.getfield 19, 3) := by decide +kernel
theorem dX9_readSemicolon_22 : decode cX9_readSemicolon 22 = .ok (.iconst 1, 1) := by decide +kernel
theorem dX9_readSemicolon_23 : decode cX9_readSemicolon 23 = .ok (.iadd, 1) := by decide +kernel
theorem dX9_readSemicolon_24 : decode cX9_readSemicolon 24 = .ok (.putfield 19, 3) := by decide +kernel
theorem dX9_readSemicolon_27 : decode cX9_readSemicolon 27 = .ok (.goto 12, 3) := by decide +kernel
theorem dX9_readSemicolon_30 : decode cX9_readSemicolon 30 = .ok (.aload_n 0, 1) := by decide +kernel
theorem dX9_readSemicolon_31 : decode cX9_readSemicolon 31 = .ok (.iconst 1, 1) := by decide +kernel
theorem dX9_readSemicolon_32 : decode cX9_readSemicolon 32 = .ok (.aload_n 0, 1) := by decide +kernel
theorem dX9_readSemicolon_33 : decode cX9_readSemicolon 33 = .ok (.getfield 19, 3) := by decide +kernel
theorem dX9_readSemicolon_36 : decode cX9_readSemicolon 36 = .ok (.invokevirtual 45, 3) := by decide +kernel
theorem dX9_readSemicolon_39 : decode cX9_readSemicolon 39 = .ok (.return_, 1) := by decide +kernel
theorem dX9_find_0 : decode cX9_find 0 = .ok (.aload_n 0, 1) := by decide +kernel
theorem dX9_find_1 : decode cX9_find 1 = .ok (.iload_n 1, 1) := by decide +kernel
theorem dX9_find_2 : decode cX9_find 2 = .ok (.putfield 22, 3) := by decide +kernel
theorem dX9_find_5 : decode cX9_find 5 = .ok (.aload_n 0, 1) := by decide +kernel
theorem dX9_find_6 : decode cX9_find 6 = .ok (.iload_n 2, 1) := by decide +kernel
theorem dX9_find_7 : decode cX9_find 7 = .ok (.putfield 25, 3) := by decide +kernel
theorem dX9_find_10 : decode cX9_find 10 = .ok (.return_, 1) := by decide +kernel
set_option maxRecDepth 20000 in
theorem ggX9_skipBlanks_X9_letterAt : GoodIn wsX9_skipBlanks wsX9_letterAt := goodIn_r _ [7, 2, 8, 9, 10, 11, 12, 13] (by decide +kernel) (by decide +kernel)
set_option maxRecDepth 20000 in
theorem gX9_skipBlanks_X9_letterAt : GoodIn wsX9_skipBlanks (wsV RX9 85 RX9 yX9_letterAt wsX9_letterAt) := goodIn_app (goodIn_of _ (by decide +kernel)) ggX9_skipBlanks_X9_letterAt
theorem dX9_skipBlanks_0 : decode cX9_skipBlanks 0 = .ok (.aload_n 0, 1) := by decide +kernel
theorem dX9_skipBlanks_1 : decode cX9_skipBlanks 1 = .ok (.getfield 19, 3) := by decide +kernel
theorem dX9_skipBlanks_4 : decode cX9_skipBlanks 4 = .ok (.aload_n 0, 1) := by decide +kernel
theorem dX9_skipBlanks_5 : decode cX9_skipBlanks 5 = .ok (.getfield 15, 3) := by decide +kernel
theorem dX9_skipBlanks_8 : decode cX9_skipBlanks 8 = .ok (.if_icmp .ge 29, 3) := by decide +kernel
theorem dX9_skipBlanks_11 : decode cX9_skipBlanks 11 = .ok (.aload_n 0, 1) := by decide +kernel
theorem dX9_skipBlanks_12 : decode cX9_skipBlanks 12 = .ok (.aload_n 0, 1) := by decide +kernel
theorem dX9_skipBlanks_13 : decode cX9_skipBlanks 13 = .ok (.getfield 19, 3) := by decide +kernel
theorem dX9_skipBlanks_16 : decode cX9_skipBlanks 16 = .ok (.invokevirtual 85, 3) := by decide +kernel
theorem dX9_skipBlanks_19 : decode cX9_skipBlanks 19 = .ok (.bipush 32, 2) := by decide +kernel
theorem dX9_skipBlanks_21 : decode cX9_skipBlanks 21 = .ok (.if_icmp .ne 16, 3) := by decide +kernel
theorem dX9_skipBlanks_24 : decode cX9_skipBlanks 24 = .ok (.aload_n 0, 1) := by decide +kernel
theorem dX9_skipBlanks_25 : decode cX9_skipBlanks 25 = .ok (.dup, 1) := by decide +kernel
theorem dX9_skipBlanks_26 : decode cX9_skipBlanks 26 = .ok (.getfield 19, 3) := by decide +kernel
theorem dX9_skipBlanks_29 : decode cX9_skipBlanks 29 = .ok (.iconst 1, 1) := by decide +kernel
theorem dX9_skipBlanks_30 : decode cX9_skipBlanks 30 = .ok (.iadd, 1) := by decide +kernel
theorem dX9_skipBlanks_31 : decode cX9_skipBlanks 31 = .ok (.putfield 19, 3) := by decide +kernel
theorem dX9_skipBlanks_34 : decode cX9_skipBlanks 34 = .ok (.goto (-34), 3) := by decide +kernel
theorem dX9_skipBlanks_37 : decode cX9_skipBlanks 37 = .ok (.aload_n 0, 1) := by decide +kernel
theorem dX9_skipBlanks_38 : decode cX9_skipBlanks 38 = .ok (.aload_n 0, 1) := by decide +kernel
theorem dX9_skipBlanks_39 : decode cX9_skipBlanks 39 = .ok (.getfield 19, 3) := by decide +kernel
theorem dX9_skipBlanks_42 : decode cX9_skipBlanks 42 = .ok (.invokevirtual 85, 3) := by decide +kernel
theorem dX9_skipBlanks_45 : decode cX9_skipBlanks 45 = .ok (.ireturn, 1) := by decide +kernel
theorem dX9_letterAt_0 : decode cX9_letterAt 0 = .ok (.iload_n 1, 1) := by decide +kernel
theorem dX9_letterAt_1 : decode cX9_letterAt 1 = .ok (.ifCond .lt 27, 3) := by decide +kernel
theorem dX9_letterAt_4 : decode cX9_letterAt 4 = .ok (.iload_n 1, 1) := by decide +kernel
theorem dX9_letterAt_5 : decode cX9_letterAt 5 = .ok (.aload_n 0, 1) := by decide +kernel
theorem dX9_letterAt_6 : decode cX9_letterAt 6 = .ok (.getfield 15, 3) := by decide +kernel
theorem dX9_letterAt_9 : decode cX9_letterAt 9 = .ok (.if_icmp .ge 19, 3) := by decide +kernel
theorem dX9_letterAt_12 : decode cX9_letterAt 12 = .ok (.iload_n 1, 1) := by decide +kernel
theorem dX9_letterAt_13 : decode cX9_letterAt 13 = .ok (.sipush 240, 3) := by decide +kernel
theorem dX9_letterAt_16 : decode cX9_letterAt 16 = .ok (.if_icmp .ge 12, 3) := by decide +kernel
theorem dX9_letterAt_19 : decode cX9_letterAt 19 = .ok (.aload_n 0, 1) := by decide +kernel
theorem dX9_letterAt_20 : decode cX9_letterAt 20 = .ok (.getfield 9, 3) := by decide +kernel
theorem dX9_letterAt_23 : decode cX9_letterAt 23 = .ok (.iload_n 1, 1) := by decide +kernel
theorem dX9_letterAt_24 : decode cX9_letterAt 24 = .ok (.iaload, 1) := by decide +kernel
theorem dX9_letterAt_25 : decode cX9_letterAt 25 = .ok (.goto 4, 3) := by decide +kernel
theorem dX9_letterAt_28 : decode cX9_letterAt 28 = .ok (.iconst (-1), 1) := by decide +kernel
theorem dX9_letterAt_29 : decode cX9_letterAt 29 = .ok (.ireturn, 1) := by decide +kernel
theorem dX9_isFigure_0 : decode cX9_isFigure 0 = .ok (.iload_n 0, 1) := by decide +kernel
theorem dX9_isFigure_1 : decode cX9_isFigure 1 = .ok (.bipush 48, 2) := by decide +kernel
theorem dX9_isFigure_3 : decode cX9_isFigure 3 = .ok (.if_icmp .lt 13, 3) := by decide +kernel
theorem dX9_isFigure_6 : decode cX9_isFigure 6 = .ok (.iload_n 0, 1) := by decide +kernel
theorem dX9_isFigure_7 : decode cX9_isFigure 7 = .ok (.bipush 57, 2) := by decide +kernel
theorem dX9_isFigure_9 : decode cX9_isFigure 9 = .ok (.if_icmp .gt 7, 3) := by decide +kernel
theorem dX9_isFigure_12 : decode cX9_isFigure 12 = .ok (.iconst 1, 1) := by decide +kernel
theorem dX9_isFigure_13 : decode cX9_isFigure 13 = .ok (.goto 4, 3) := by decide +kernel
theorem dX9_isFigure_16 : decode cX9_isFigure 16 = .ok (.iconst 0, 1) := by decide +kernel
theorem dX9_isFigure_17 : decode cX9_isFigure 17 = .ok (.ireturn, 1) := by decide +kernel
set_option maxRecDepth 20000 in
theorem ggX10_init_X8_init : GoodIn wsX10_init wsX8_init := goodIn_r _ [49, 50, 2, 3, 51, 52, 53, 54, 55, 56, 57, 58, 59, 60, 61, 135, 136, 137, 138, 139, 140, 141, 142, 143, 144] (by decide +kernel) (by decide +kernel)
set_option maxRecDepth 20000 in
theorem gX10_init_X8_init : GoodIn wsX10_init (wsX8_init) := ggX10_init_X8_init
set_option maxRecDepth 20000 in
theorem ggX10_init_X9_init : GoodIn wsX10_init wsX9_init := goodIn_r _ [64, 65, 2, 3, 51, 66, 67, 68, 69, 70, 145, 146, 147, 148, 149] (by decide +kernel) (by decide +kernel)
set_option maxRecDepth 20000 in
theorem gX10_init_X9_init : GoodIn wsX10_init (wsX9_init) := ggX10_init_X9_init
set_option maxRecDepth 20000 in
theorem ggX10_init_X4_init : GoodIn wsX10_init wsX4_init := goodIn_r _ [73, 74, 2, 3, 75, 51, 76, 77, 78, 79, 80, 81, 82, 83, 163, 164, 165, 166, 167, 168, 169, 170, 171] (by decide +kernel) (by decide +kernel)
set_option maxRecDepth 20000 in
theorem gX10_init_X4_init : GoodIn wsX10_init (wsX4_init) := ggX10_init_X4_init
set_option maxRecDepth 20000 in
theorem ggX10_init_X5_init : GoodIn wsX10_init wsX5_init := goodIn_r _ [86, 87, 2, 3, 51, 88, 89, 90, 172, 173, 174] (by decide +kernel) (by decide +kernel)
set_option maxRecDepth 20000 in
theorem gX10_init_X5_init : GoodIn wsX10_init (wsX5_init) := ggX10_init_X5_init
set_option maxRecDepth 20000 in
theorem ggX10_init_X3_init : GoodIn wsX10_init wsX3_init := goodIn_r _ [93, 94, 2, 3, 51, 95, 96, 97, 98, 175, 176, 177] (by decide +kernel) (by decide +kernel)
set_option maxRecDepth 20000 in
theorem gX10_init_X3_init : GoodIn wsX10_init (wsX3_init) := ggX10_init_X3_init
set_option maxRecDepth 20000 in
theorem ggX10_init_X2_init : GoodIn wsX10_init wsX2_init := goodIn_r _ [101, 102, 2, 3, 51, 103, 104, 105, 178, 179, 180] (by decide +kernel) (by decide +kernel)
set_option maxRecDepth 20000 in
theorem gX10_init_X2_init : GoodIn wsX10_init (wsX2_init) := ggX10_init_X2_init
set_option maxRecDepth 20000 in
theorem ggX10_init_X1_init : GoodIn wsX10_init wsX1_init := goodIn_r _ [108, 109, 2, 3, 51, 110, 111, 112, 181, 182, 183] (by decide +kernel) (by decide +kernel)
set_option maxRecDepth 20000 in
theorem gX10_init_X1_init : GoodIn wsX10_init (wsX1_init) := ggX10_init_X1_init
set_option maxRecDepth 20000 in
theorem ggX10_init_X0_init : GoodIn wsX10_init wsX0_init := goodIn_r _ [115, 116, 2, 3, 51, 117, 118, 119, 120, 121, 122, 184, 185, 186, 187, 188, 189] (by decide +kernel) (by decide +kernel)
set_option maxRecDepth 20000 in
theorem gX10_init_X0_init : GoodIn wsX10_init (wsX0_init) := ggX10_init_X0_init
set_option maxRecDepth 20000 in
theorem ggX10_init_X7_init : GoodIn wsX10_init wsX7_init := goodIn_r _ [125, 126, 2, 3, 127, 128, 129, 190, 191, 192] (by decide +kernel) (by decide +kernel)
set_option maxRecDepth 20000 in
theorem gX10_init_X7_init : GoodIn wsX10_init (wsX7_init) := ggX10_init_X7_init
set_option maxRecDepth 20000 in
theorem ggX10_init_X6_init : GoodIn wsX10_init wsX6_init := goodIn_r _ [132, 133, 2, 3, 51, 134, 193] (by decide +kernel) (by decide +kernel)
set_option maxRecDepth 20000 in
theorem gX10_init_X6_init : GoodIn wsX10_init (wsX6_init) := ggX10_init_X6_init
theorem dX10_init_0 : decode cX10_init 0 = .ok (.aload_n 0, 1) := by decide +kernel
theorem dX10_init_1 : decode cX10_init 1 = .ok (.invokespecial 1, 3) := by decide +kernel
theorem dX10_init_4 : decode cX10_init 4 = .ok (.new 7, 3) := by decide +kernel
theorem dX10_init_7 : decode cX10_init 7 = .ok (.dup, 1) := by decide +kernel
theorem dX10_init_8 : decode cX10_init 8 = .ok (.invokespecial 9, 3) := by decide +kernel
theorem dX10_init_11 : decode cX10_init 11 = .ok (.astore_n 1, 1) := by decide +kernel
theorem dX10_init_12 : decode cX10_init 12 = .ok (.aload_n 0, 1) := by decide +kernel
theorem dX10_init_13 : decode cX10_init 13 = .ok (.new 10, 3) := by decide +kernel
theorem dX10_init_16 : decode cX10_init 16 = .ok (.dup, 1) := by decide +kernel
theorem dX10_init_17 : decode cX10_init 17 = .ok (.invokespecial 12, 3) := by decide +kernel
theorem dX10_init_20 : decode cX10_init 20 = .ok (.putfield 13, 3) := by decide +kernel
theorem dX10_init_23 : decode cX10_init 23 = .ok (.aload_n 0, 1) := by decide +kernel
theorem dX10_init_24 : decode cX10_init 24 = .ok (.aload_n 1, 1) := by decide +kernel
theorem dX10_init_25 : decode cX10_init 25 = .ok (.putfield 19, 3) := by decide +kernel
theorem dX10_init_28 : decode cX10_init 28 = .ok (.aload_n 0, 1) := by decide +kernel
theorem dX10_init_29 : decode cX10_init 29 = .ok (.new 7, 3) := by decide +kernel
theorem dX10_init_32 : decode cX10_init 32 = .ok (.dup, 1) := by decide +kernel
theorem dX10_init_33 : decode cX10_init 33 = .ok (.invokespecial 9, 3) := by decide +kernel
theorem dX10_init_36 : decode cX10_init 36 = .ok (.putfield 23, 3) := by decide +kernel
theorem dX10_init_39 : decode cX10_init 39 = .ok (.aload_n 0, 1) := by decide +kernel
theorem dX10_init_40 : decode cX10_init 40 = .ok (.new 26, 3) := by decide +kernel
theorem dX10_init_43 : decode cX10_init 43 = .ok (.dup, 1) := by decide +kernel
theorem dX10_init_44 : decode cX10_init 44 = .ok (.aload_n 1, 1) := by decide +kernel
theorem dX10_init_45 : decode cX10_init 45 = .ok (.invokespecial 28, 3) := by decide +kernel
theorem dX10_init_48 : decode cX10_init 48 = .ok (.putfield 31, 3) := by decide +kernel
theorem dX10_init_51 : decode cX10_init 51 = .ok (.aload_n 0, 1) := by decide +kernel
theorem dX10_init_52 : decode cX10_init 52 = .ok (.new 35, 3) := by decide +kernel
theorem dX10_init_55 : decode cX10_init 55 = .ok (.dup, 1) := by decide +kernel
theorem dX10_init_56 : decode cX10_init 56 = .ok (.invokespecial 37, 3) := by decide +kernel
theorem dX10_init_59 : decode cX10_init 59 = .ok (.putfield 38, 3) := by decide +kernel
theorem dX10_init_62 : decode cX10_init 62 = .ok (.aload_n 0, 1) := by decide +kernel
theorem dX10_init_63 : decode cX10_init 63 = .ok (.new 42, 3) := by decide +kernel
theorem dX10_init_66 : decode cX10_init 66 = .ok (.dup, 1) := by decide +kernel
theorem dX10_init_67 : decode cX10_init 67 = .ok (.invokespecial 44, 3) := by decide +kernel
theorem dX10_init_70 : decode cX10_init 70 = .ok (.putfield 45, 3) := by decide +kernel
theorem dX10_init_73 : decode cX10_init 73 = .ok (.aload_n 0, 1) := by decide +kernel
theorem dX10_init_74 : decode cX10_init 74 = .ok (.new 49, 3) := by decide +kernel
theorem dX10_init_77 : decode cX10_init 77 = .ok (.dup, 1) := by decide +kernel
theorem dX10_init_78 : decode cX10_init 78 = .ok (.invokespecial 51, 3) := by decide +kernel
theorem dX10_init_81 : decode cX10_init 81 = .ok (.putfield 52, 3) := by decide +kernel
theorem dX10_init_84 : decode cX10_init 84 = .ok (.aload_n 0, 1) := by decide +kernel
theorem dX10_init_85 : decode cX10_init 85 = .ok (.new 56, 3) := by decide +kernel
theorem dX10_init_88 : decode cX10_init 88 = .ok (.dup, 1) := by decide +kernel
theorem dX10_init_89 : decode cX10_init 89 = .ok (.invokespecial 58, 3) := by decide +kernel
theorem dX10_init_92 : decode cX10_init 92 = .ok (.putfield 59, 3) := by decide +kernel
theorem dX10_init_95 : decode cX10_init 95 = .ok (.aload_n 0, 1) := by decide +kernel
theorem dX10_init_96 : decode cX10_init 96 = .ok (.new 63, 3) := by decide +kernel
theorem dX10_init_99 : decode cX10_init 99 = .ok (.dup, 1) := by decide +kernel
theorem dX10_init_100 : decode cX10_init 100 = .ok (.invokespecial 65, 3) := by decide +kernel
theorem dX10_init_103 : decode cX10_init 103 = .ok (.putfield 66, 3) := by decide +kernel
theorem dX10_init_106 : decode cX10_init 106 = .ok (.aload_n 0, 1) := by decide +kernel
theorem dX10_init_107 : decode cX10_init 107 = .ok (.new 70, 3) := by decide +kernel
theorem dX10_init_110 : decode cX10_init 110 = .ok (.dup, 1) := by decide +kernel
theorem dX10_init_111 : decode cX10_init 111 = .ok (.invokespecial 72, 3) := by decide +kernel
theorem dX10_init_114 : decode cX10_init 114 = .ok (.putfield 73, 3) := by decide +kernel
theorem dX10_init_117 : decode cX10_init 117 = .ok (.aload_n 0, 1) := by decide +kernel
theorem dX10_init_118 : decode cX10_init 118 = .ok (.new 77, 3) := by decide +kernel
theorem dX10_init_121 : decode cX10_init 121 = .ok (.dup, 1) := by decide +kernel
theorem dX10_init_122 : decode cX10_init 122 = .ok (.invokespecial 79, 3) := by decide +kernel
theorem dX10_init_125 : decode cX10_init 125 = .ok (.putfield 80, 3) := by decide +kernel
theorem dX10_init_128 : decode cX10_init 128 = .ok (.aload_n 0, 1) := by decide +kernel
theorem dX10_init_129 : decode cX10_init 129 = .ok (.iconst (-1), 1) := by decide +kernel
theorem dX10_init_130 : decode cX10_init 130 = .ok (.putfield 84, 3) := by decide +kernel
theorem dX10_init_133 : decode cX10_init 133 = .ok (.aload_n 0, 1) := by decide +kernel
theorem dX10_init_134 : decode cX10_init 134 = .ok (.iconst 0, 1) := by decide +kernel
theorem dX10_init_135 : decode cX10_init 135 = .ok (.putfield 88, 3) := by decide +kernel
theorem dX10_init_138 : decode cX10_init 138 = .ok (.return_, 1) := by decide +kernel
set_option maxRecDepth 20000 in
theorem ggX10_feed_X10_isWithin : GoodIn wsX10_feed wsX10_isWithin := goodIn_r _ [7] (by decide +kernel) (by decide +kernel)
set_option maxRecDepth 20000 in
theorem gX10_feed_X10_isWithin : GoodIn wsX10_feed (va_wsS RX10 91 yX10_isWithin wsX10_isWithin) := goodIn_app (goodIn_of _ (by decide +kernel)) ggX10_feed_X10_isWithin
set_option maxRecDepth 20000 in
theorem ggX10_feed_X9_add : GoodIn wsX10_feed wsX9_add := goodIn_r _ [12, 13, 14, 32, 33, 34, 35, 36] (by decide +kernel) (by decide +kernel)
set_option maxRecDepth 20000 in
theorem gX10_feed_X9_add : GoodIn wsX10_feed (wsV RX10 96 RX9 yX9_add wsX9_add) := goodIn_app (goodIn_of _ (by decide +kernel)) ggX10_feed_X9_add
set_option maxRecDepth 20000 in
theorem ggX10_feed_X9_length : GoodIn wsX10_feed wsX9_length := goodIn_r _ [18, 13, 32, 33, 34, 35, 36] (by decide +kernel) (by decide +kernel)
set_option maxRecDepth 20000 in
theorem gX10_feed_X9_length : GoodIn wsX10_feed (wsV RX10 100 RX9 yX9_length wsX9_length) := goodIn_app (goodIn_of _ (by decide +kernel)) ggX10_feed_X9_length
theorem dX10_feed_0 : decode cX10_feed 0 = .ok (.iload_n 1, 1) := by decide +kernel
theorem dX10_feed_1 : decode cX10_feed 1 = .ok (.iconst 0, 1) := by decide +kernel
theorem dX10_feed_2 : decode cX10_feed 2 = .ok (.sipush 255, 3) := by decide +kernel
theorem dX10_feed_5 : decode cX10_feed 5 = .ok (.invokestatic 91, 3) := by decide +kernel
theorem dX10_feed_8 : decode cX10_feed 8 = .ok (.ifCond .ne 6, 3) := by decide +kernel
theorem dX10_feed_11 : decode cX10_feed 11 = .ok (.ldc 95, 2) := by decide +kernel
theorem dX10_feed_13 : decode cX10_feed 13 = .ok (.ireturn, 1) := by decide +kernel
theorem dX10_feed_14 : decode cX10_feed 14 = .ok (.aload_n 0, 1) := by decide +kernel
theorem dX10_feed_15 : decode cX10_feed 15 = .ok (.getfield 13, 3) := by decide +kernel
theorem dX10_feed_18 : decode cX10_feed 18 = .ok (.iload_n 1, 1) := by decide +kernel
theorem dX10_feed_19 : decode cX10_feed 19 = .ok (.invokevirtual 96, 3) := by decide +kernel
theorem dX10_feed_22 : decode cX10_feed 22 = .ok (.ifCond .eq 13, 3) := by decide +kernel
theorem dX10_feed_25 : decode cX10_feed 25 = .ok (.aload_n 0, 1) := by decide +kernel
theorem dX10_feed_26 : decode cX10_feed 26 = .ok (.getfield 13, 3) := by decide +kernel
theorem dX10_feed_29 : decode cX10_feed 29 = .ok (.invokevirtual 100, 3) := by decide +kernel
theorem dX10_feed_32 : decode cX10_feed 32 = .ok (.goto 5, 3) := by decide +kernel
theorem dX10_feed_35 : decode cX10_feed 35 = .ok (.ldc 104, 2) := by decide +kernel
theorem dX10_feed_37 : decode cX10_feed 37 = .ok (.ireturn, 1) := by decide +kernel
set_option maxRecDepth 20000 in
theorem ggX10_table_X9_readInto : GoodIn wsX10_table wsX9_readInto := goodIn_r _ [14, 15, 16, 17, 18, 19, 20, 21, 22, 23, 24, 25, 26, 27, 28, 29, 30, 13, 31, 32, 33, 34, 35, 36, 37, 38, 39, 40, 41, 42, 43, 44, 45, 46, 47, 48, 49, 50, 51, 52, 53, 54, 55, 56, 57, 58, 59, 60, 61, 62, 63, 64, 65, 66, 67, 68, 69, 70, 71, 72, 73, 74, 75, 76, 77, 78, 79, 80, 81, 82, 83, 84, 85, 86, 87, 88, 89, 90, 91, 92, 172, 173, 174, 175, 176, 162, 163, 164, 165, 166, 167, 168, 169, 170, 171] (by decide +kernel) (by decide +kernel)
set_option maxRecDepth 20000 in
theorem gX10_table_X9_readInto : GoodIn wsX10_table (wsV RX10 105 RX9 yX9_readInto wsX9_readInto) := goodIn_app (goodIn_of _ (by decide +kernel)) ggX10_table_X9_readInto
set_option maxRecDepth 20000 in
theorem ggX10_table_X9_faultPlace : GoodIn wsX10_table wsX9_faultPlace := goodIn_r _ [96, 17, 172, 173, 174, 175, 176] (by decide +kernel) (by decide +kernel)
set_option maxRecDepth 20000 in
theorem gX10_table_X9_faultPlace : GoodIn wsX10_table (wsV RX10 109 RX9 yX9_faultPlace wsX9_faultPlace) := goodIn_app (goodIn_of _ (by decide +kernel)) ggX10_table_X9_faultPlace
set_option maxRecDepth 20000 in
theorem ggX10_table_X9_empty : GoodIn wsX10_table wsX9_empty := goodIn_r _ [100, 32, 172, 173, 174, 175, 176] (by decide +kernel) (by decide +kernel)
set_option maxRecDepth 20000 in
theorem gX10_table_X9_empty : GoodIn wsX10_table (wsV RX10 112 RX9 yX9_empty wsX9_empty) := goodIn_app (goodIn_of _ (by decide +kernel)) ggX10_table_X9_empty
set_option maxRecDepth 20000 in
theorem ggX10_table_X8_become : GoodIn wsX10_table wsX8_become := goodIn_r _ [104, 23, 24, 25, 26, 27, 80, 105, 106, 107, 108, 81, 82, 91, 92, 109, 69, 70, 21, 71, 162, 163, 164, 165, 166, 167, 168, 169, 170, 171] (by decide +kernel) (by decide +kernel)
set_option maxRecDepth 20000 in
theorem gX10_table_X8_become : GoodIn wsX10_table (wsV RX10 115 RX8 yX8_become wsX8_become) := goodIn_app (goodIn_of _ (by decide +kernel)) ggX10_table_X8_become
set_option maxRecDepth 20000 in
theorem ggX10_table_X4_begin : GoodIn wsX10_table wsX4_begin := goodIn_r _ [114, 115, 116, 117, 118, 119, 120, 121, 122, 123, 177, 178, 179, 180, 181, 182, 183, 184, 185, 162, 163, 164, 165, 166, 167, 168, 169, 170, 171] (by decide +kernel) (by decide +kernel)
set_option maxRecDepth 20000 in
theorem gX10_table_X4_begin : GoodIn wsX10_table (wsV RX10 118 RX4 yX4_begin wsX4_begin) := goodIn_app (goodIn_of _ (by decide +kernel)) ggX10_table_X4_begin
set_option maxRecDepth 20000 in
theorem ggX10_table_X5_forget : GoodIn wsX10_table wsX5_forget := goodIn_r _ [128, 129, 130, 186, 187, 188] (by decide +kernel) (by decide +kernel)
set_option maxRecDepth 20000 in
theorem gX10_table_X5_forget : GoodIn wsX10_table (wsV RX10 121 RX5 yX5_forget wsX5_forget) := goodIn_app (goodIn_of _ (by decide +kernel)) ggX10_table_X5_forget
set_option maxRecDepth 20000 in
theorem ggX10_table_X3_forget : GoodIn wsX10_table wsX3_forget := goodIn_r _ [135, 136, 189, 190, 191] (by decide +kernel) (by decide +kernel)
set_option maxRecDepth 20000 in
theorem gX10_table_X3_forget : GoodIn wsX10_table (wsV RX10 124 RX3 yX3_forget wsX3_forget) := goodIn_app (goodIn_of _ (by decide +kernel)) ggX10_table_X3_forget
set_option maxRecDepth 20000 in
theorem ggX10_table_X2_forget : GoodIn wsX10_table wsX2_forget := goodIn_r _ [141, 142, 192, 193, 194] (by decide +kernel) (by decide +kernel)
set_option maxRecDepth 20000 in
theorem gX10_table_X2_forget : GoodIn wsX10_table (wsV RX10 125 RX2 yX2_forget wsX2_forget) := goodIn_app (goodIn_of _ (by decide +kernel)) ggX10_table_X2_forget
set_option maxRecDepth 20000 in
theorem ggX10_table_X1_forget : GoodIn wsX10_table wsX1_forget := goodIn_r _ [147, 148, 195, 196, 197] (by decide +kernel) (by decide +kernel)
set_option maxRecDepth 20000 in
theorem gX10_table_X1_forget : GoodIn wsX10_table (wsV RX10 126 RX1 yX1_forget wsX1_forget) := goodIn_app (goodIn_of _ (by decide +kernel)) ggX10_table_X1_forget
theorem dX10_table_0 : decode cX10_table 0 = .ok (.aload_n 0, 1) := by decide +kernel
theorem dX10_table_1 : decode cX10_table 1 = .ok (.getfield 13, 3) := by decide +kernel
theorem dX10_table_4 : decode cX10_table 4 = .ok (.aload_n 0, 1) := by decide +kernel
theorem dX10_table_5 : decode cX10_table 5 = .ok (.getfield 23, 3) := by decide +kernel
theorem dX10_table_8 : decode cX10_table 8 = .ok (.invokevirtual 105, 3) := by decide +kernel
theorem dX10_table_11 : decode cX10_table 11 = .ok (.istore_n 1, 1) := by decide +kernel
theorem dX10_table_12 : decode cX10_table 12 = .ok (.aload_n 0, 1) := by decide +kernel
theorem dX10_table_13 : decode cX10_table 13 = .ok (.aload_n 0, 1) := by decide +kernel
theorem dX10_table_14 : decode cX10_table 14 = .ok (.getfield 13, 3) := by decide +kernel
theorem dX10_table_17 : decode cX10_table 17 = .ok (.invokevirtual 109, 3) := by decide +kernel
theorem dX10_table_20 : decode cX10_table 20 = .ok (.putfield 84, 3) := by decide +kernel
theorem dX10_table_23 : decode cX10_table 23 = .ok (.aload_n 0, 1) := by decide +kernel
theorem dX10_table_24 : decode cX10_table 24 = .ok (.getfield 13, 3) := by decide +kernel
theorem dX10_table_27 : decode cX10_table 27 = .ok (.invokevirtual 112, 3) := by decide +kernel
theorem dX10_table_30 : decode cX10_table 30 = .ok (.iload_n 1, 1) := by decide +kernel
theorem dX10_table_31 : decode cX10_table 31 = .ok (.ifCond .eq 8, 3) := by decide +kernel
theorem dX10_table_34 : decode cX10_table 34 = .ok (.bipush (-10), 2) := by decide +kernel
theorem dX10_table_36 : decode cX10_table 36 = .ok (.iload_n 1, 1) := by decide +kernel
theorem dX10_table_37 : decode cX10_table 37 = .ok (.isub, 1) := by decide +kernel
theorem dX10_table_38 : decode cX10_table 38 = .ok (.ireturn, 1) := by decide +kernel
theorem dX10_table_39 : decode cX10_table 39 = .ok (.aload_n 0, 1) := by decide +kernel
theorem dX10_table_40 : decode cX10_table 40 = .ok (.getfield 19, 3) := by decide +kernel
theorem dX10_table_43 : decode cX10_table 43 = .ok (.aload_n 0, 1) := by decide +kernel
theorem dX10_table_44 : decode cX10_table 44 = .ok (.getfield 23, 3) := by decide +kernel
theorem dX10_table_47 : decode cX10_table 47 = .ok (.invokevirtual 115, 3) := by decide +kernel
theorem dX10_table_50 : decode cX10_table 50 = .ok (.aload_n 0, 1) := by decide +kernel
theorem dX10_table_51 : decode cX10_table 51 = .ok (.getfield 31, 3) := by decide +kernel
theorem dX10_table_54 : decode cX10_table 54 = .ok (.invokevirtual 118, 3) := by decide +kernel
theorem dX10_table_57 : decode cX10_table 57 = .ok (.aload_n 0, 1) := by decide +kernel
theorem dX10_table_58 : decode cX10_table 58 = .ok (.getfield 38, 3) := by decide +kernel
theorem dX10_table_61 : decode cX10_table 61 = .ok (.invokevirtual 121, 3) := by decide +kernel
theorem dX10_table_64 : decode cX10_table 64 = .ok (.aload_n 0, 1) := by decide +kernel
theorem dX10_table_65 : decode cX10_table 65 = .ok (.getfield 45, 3) := by decide +kernel
theorem dX10_table_68 : decode cX10_table 68 = .ok (.invokevirtual 124, 3) := by decide +kernel
theorem dX10_table_71 : decode cX10_table 71 = .ok (.aload_n 0, 1) := by decide +kernel
theorem dX10_table_72 : decode cX10_table 72 = .ok (.getfield 52, 3) := by decide +kernel
theorem dX10_table_75 : decode cX10_table 75 = .ok (.invokevirtual 125, 3) := by decide +kernel
theorem dX10_table_78 : decode cX10_table 78 = .ok (.aload_n 0, 1) := by decide +kernel
theorem dX10_table_79 : decode cX10_table 79 = .ok (.getfield 59, 3) := by decide +kernel
theorem dX10_table_82 : decode cX10_table 82 = .ok (.invokevirtual 126, 3) := by decide +kernel
theorem dX10_table_85 : decode cX10_table 85 = .ok (.aload_n 0, 1) := by decide +kernel
theorem dX10_table_86 : decode cX10_table 86 = .ok (.getfield 19, 3) := by decide +kernel
theorem dX10_table_89 : decode cX10_table 89 = .ok (.getfield 127, 3) := by decide +kernel
theorem dX10_table_92 : decode cX10_table 92 = .ok (.ireturn, 1) := by decide +kernel
theorem dX10_fault_0 : decode cX10_fault 0 = .ok (.aload_n 0, 1) := by decide +kernel
theorem dX10_fault_1 : decode cX10_fault 1 = .ok (.getfield 84, 3) := by decide +kernel
theorem dX10_fault_4 : decode cX10_fault 4 = .ok (.ireturn, 1) := by decide +kernel
set_option maxRecDepth 20000 in
theorem ggX10_told_X9_length : GoodIn wsX10_told wsX9_length := goodIn_r _ [12, 13, 116, 117, 118, 119, 120] (by decide +kernel) (by decide +kernel)
set_option maxRecDepth 20000 in
theorem gX10_told_X9_length : GoodIn wsX10_told (wsV RX10 100 RX9 yX9_length wsX9_length) := goodIn_app (goodIn_of _ (by decide +kernel)) ggX10_told_X9_length
set_option maxRecDepth 20000 in
theorem ggX10_told_X4_setThatIs : GoodIn wsX10_told wsX4_setThatIs := goodIn_r _ [18, 19, 20, 21, 17, 22, 23, 24, 25, 26, 27, 28, 29, 30, 98, 99, 100, 101, 102, 103, 104, 105, 106, 88, 89, 90, 91, 92, 93, 94, 95, 96, 97] (by decide +kernel) (by decide +kernel)
set_option maxRecDepth 20000 in
theorem gX10_told_X4_setThatIs : GoodIn wsX10_told (wsV RX10 157 RX4 yX4_setThatIs wsX4_setThatIs) := goodIn_app (goodIn_of _ (by decide +kernel)) ggX10_told_X4_setThatIs
set_option maxRecDepth 20000 in
theorem ggX10_told_X4_pretenders : GoodIn wsX10_told wsX4_pretenders := goodIn_r _ [34, 19, 20, 21, 17, 22, 23, 24, 25, 26, 27, 28, 29, 30, 35, 36, 37, 38, 39, 40, 41, 42, 43, 44, 45, 46, 47, 48, 49, 50, 51, 52, 53, 54, 55, 56, 57, 98, 99, 100, 101, 102, 103, 104, 105, 106, 88, 89, 90, 91, 92, 93, 94, 95, 96, 97] (by decide +kernel) (by decide +kernel)
set_option maxRecDepth 20000 in
theorem gX10_told_X4_pretenders : GoodIn wsX10_told (wsV RX10 161 RX4 yX4_pretenders wsX4_pretenders) := goodIn_app (goodIn_of _ (by decide +kernel)) ggX10_told_X4_pretenders
set_option maxRecDepth 20000 in
theorem ggX10_told_X4_heir : GoodIn wsX10_told wsX4_heir := goodIn_r _ [61, 19, 20, 21, 17, 22, 23, 24, 25, 26, 27, 28, 29, 30, 62, 63, 64, 65, 39, 40, 41, 42, 43, 66, 67, 68, 69, 70, 45, 46, 47, 48, 49, 50, 51, 52, 53, 54, 55, 56, 57, 71, 72, 73, 74, 98, 99, 100, 101, 102, 103, 104, 105, 106, 88, 89, 90, 91, 92, 93, 94, 95, 96, 97] (by decide +kernel) (by decide +kernel)
set_option maxRecDepth 20000 in
theorem gX10_told_X4_heir : GoodIn wsX10_told (wsV RX10 164 RX4 yX4_heir wsX4_heir) := goodIn_app (goodIn_of _ (by decide +kernel)) ggX10_told_X4_heir
theorem dX10_told_0 : decode cX10_told 0 = .ok (.iload_n 1, 1) := by decide +kernel
theorem dX10_told_1 : decode cX10_told 1 = .ok (.tableswitch 233 0 17 #[87, 95, 103, 111, 119, 127, 135, 143, 151, 159, 167, 175, 184, 193, 201, 209, 217, 225], 87) := by decide +kernel
theorem dX10_told_88 : decode cX10_told 88 = .ok (.aload_n 0, 1) := by decide +kernel
theorem dX10_told_89 : decode cX10_told 89 = .ok (.getfield 19, 3) := by decide +kernel
theorem dX10_told_92 : decode cX10_told 92 = .ok (.getfield 130, 3) := by decide +kernel
theorem dX10_told_95 : decode cX10_told 95 = .ok (.ireturn, 1) := by decide +kernel
theorem dX10_told_96 : decode cX10_told 96 = .ok (.aload_n 0, 1) := by decide +kernel
theorem dX10_told_97 : decode cX10_told 97 = .ok (.getfield 31, 3) := by decide +kernel
theorem dX10_told_100 : decode cX10_told 100 = .ok (.getfield 133, 3) := by decide +kernel
theorem dX10_told_103 : decode cX10_told 103 = .ok (.ireturn, 1) := by decide +kernel
theorem dX10_told_104 : decode cX10_told 104 = .ok (.aload_n 0, 1) := by decide +kernel
theorem dX10_told_105 : decode cX10_told 105 = .ok (.getfield 19, 3) := by decide +kernel
theorem dX10_told_108 : decode cX10_told 108 = .ok (.getfield 136, 3) := by decide +kernel
theorem dX10_told_111 : decode cX10_told 111 = .ok (.ireturn, 1) := by decide +kernel
theorem dX10_told_112 : decode cX10_told 112 = .ok (.aload_n 0, 1) := by decide +kernel
theorem dX10_told_113 : decode cX10_told 113 = .ok (.getfield 19, 3) := by decide +kernel
theorem dX10_told_116 : decode cX10_told 116 = .ok (.getfield 127, 3) := by decide +kernel
theorem dX10_told_119 : decode cX10_told 119 = .ok (.ireturn, 1) := by decide +kernel
theorem dX10_told_120 : decode cX10_told 120 = .ok (.aload_n 0, 1) := by decide +kernel
theorem dX10_told_121 : decode cX10_told 121 = .ok (.getfield 19, 3) := by decide +kernel
theorem dX10_told_124 : decode cX10_told 124 = .ok (.getfield 139, 3) := by decide +kernel
theorem dX10_told_127 : decode cX10_told 127 = .ok (.ireturn, 1) := by decide +kernel
theorem dX10_told_128 : decode cX10_told 128 = .ok (.aload_n 0, 1) := by decide +kernel
theorem dX10_told_129 : decode cX10_told 129 = .ok (.getfield 13, 3) := by decide +kernel
theorem dX10_told_132 : decode cX10_told 132 = .ok (.invokevirtual 100, 3) := by decide +kernel
theorem dX10_told_135 : decode cX10_told 135 = .ok (.ireturn, 1) := by decide +kernel
theorem dX10_told_136 : decode cX10_told 136 = .ok (.aload_n 0, 1) := by decide +kernel
theorem dX10_told_137 : decode cX10_told 137 = .ok (.getfield 31, 3) := by decide +kernel
theorem dX10_told_140 : decode cX10_told 140 = .ok (.getfield 142, 3) := by decide +kernel
theorem dX10_told_143 : decode cX10_told 143 = .ok (.ireturn, 1) := by decide +kernel
theorem dX10_told_144 : decode cX10_told 144 = .ok (.aload_n 0, 1) := by decide +kernel
theorem dX10_told_145 : decode cX10_told 145 = .ok (.getfield 31, 3) := by decide +kernel
theorem dX10_told_148 : decode cX10_told 148 = .ok (.getfield 145, 3) := by decide +kernel
theorem dX10_told_151 : decode cX10_told 151 = .ok (.ireturn, 1) := by decide +kernel
theorem dX10_told_152 : decode cX10_told 152 = .ok (.aload_n 0, 1) := by decide +kernel
theorem dX10_told_153 : decode cX10_told 153 = .ok (.getfield 31, 3) := by decide +kernel
theorem dX10_told_156 : decode cX10_told 156 = .ok (.getfield 148, 3) := by decide +kernel
theorem dX10_told_159 : decode cX10_told 159 = .ok (.ireturn, 1) := by decide +kernel
theorem dX10_told_160 : decode cX10_told 160 = .ok (.aload_n 0, 1) := by decide +kernel
theorem dX10_told_161 : decode cX10_told 161 = .ok (.getfield 31, 3) := by decide +kernel
theorem dX10_told_164 : decode cX10_told 164 = .ok (.getfield 151, 3) := by decide +kernel
theorem dX10_told_167 : decode cX10_told 167 = .ok (.ireturn, 1) := by decide +kernel
theorem dX10_told_168 : decode cX10_told 168 = .ok (.aload_n 0, 1) := by decide +kernel
theorem dX10_told_169 : decode cX10_told 169 = .ok (.getfield 31, 3) := by decide +kernel
theorem dX10_told_172 : decode cX10_told 172 = .ok (.getfield 154, 3) := by decide +kernel
theorem dX10_told_175 : decode cX10_told 175 = .ok (.ireturn, 1) := by decide +kernel
theorem dX10_told_176 : decode cX10_told 176 = .ok (.aload_n 0, 1) := by decide +kernel
theorem dX10_told_177 : decode cX10_told 177 = .ok (.getfield 31, 3) := by decide +kernel
theorem dX10_told_180 : decode cX10_told 180 = .ok (.iconst 1, 1) := by decide +kernel
theorem dX10_told_181 : decode cX10_told 181 = .ok (.invokevirtual 157, 3) := by decide +kernel
theorem dX10_told_184 : decode cX10_told 184 = .ok (.ireturn, 1) := by decide +kernel
theorem dX10_told_185 : decode cX10_told 185 = .ok (.aload_n 0, 1) := by decide +kernel
theorem dX10_told_186 : decode cX10_told 186 = .ok (.getfield 31, 3) := by decide +kernel
theorem dX10_told_189 : decode cX10_told 189 = .ok (.iconst 2, 1) := by decide +kernel
theorem dX10_told_190 : decode cX10_told 190 = .ok (.invokevirtual 157, 3) := by decide +kernel
theorem dX10_told_193 : decode cX10_told 193 = .ok (.ireturn, 1) := by decide +kernel
theorem dX10_told_194 : decode cX10_told 194 = .ok (.aload_n 0, 1) := by decide +kernel
theorem dX10_told_195 : decode cX10_told 195 = .ok (.getfield 31, 3) := by decide +kernel
theorem dX10_told_198 : decode cX10_told 198 = .ok (.invokevirtual 161, 3) := by decide +kernel
theorem dX10_told_201 : decode cX10_told 201 = .ok (.ireturn, 1) := by decide +kernel
theorem dX10_told_202 : decode cX10_told 202 = .ok (.aload_n 0, 1) := by decide +kernel
theorem dX10_told_203 : decode cX10_told 203 = .ok (.getfield 31, 3) := by decide +kernel
theorem dX10_told_206 : decode cX10_told 206 = .ok (.invokevirtual 164, 3) := by decide +kernel
theorem dX10_told_209 : decode cX10_told 209 = .ok (.ireturn, 1) := by decide +kernel
theorem dX10_told_210 : decode cX10_told 210 = .ok (.aload_n 0, 1) := by decide +kernel
theorem dX10_told_211 : decode cX10_told 211 = .ok (.getfield 52, 3) := by decide +kernel
theorem dX10_told_214 : decode cX10_told 214 = .ok (.getfield 167, 3) := by decide +kernel
theorem dX10_told_217 : decode cX10_told 217 = .ok (.ireturn, 1) := by decide +kernel
theorem dX10_told_218 : decode cX10_told 218 = .ok (.aload_n 0, 1) := by decide +kernel
theorem dX10_told_219 : decode cX10_told 219 = .ok (.getfield 59, 3) := by decide +kernel
theorem dX10_told_222 : decode cX10_told 222 = .ok (.getfield 170, 3) := by decide +kernel
theorem dX10_told_225 : decode cX10_told 225 = .ok (.ireturn, 1) := by decide +kernel
theorem dX10_told_226 : decode cX10_told 226 = .ok (.aload_n 0, 1) := by decide +kernel
theorem dX10_told_227 : decode cX10_told 227 = .ok (.getfield 38, 3) := by decide +kernel
theorem dX10_told_230 : decode cX10_told 230 = .ok (.getfield 171, 3) := by decide +kernel
theorem dX10_told_233 : decode cX10_told 233 = .ok (.ireturn, 1) := by decide +kernel
theorem dX10_told_234 : decode cX10_told 234 = .ok (.ldc 95, 2) := by decide +kernel
theorem dX10_told_236 : decode cX10_told 236 = .ok (.ireturn, 1) := by decide +kernel
set_option maxRecDepth 20000 in
theorem ggX10_egg_X8_hasEgg : GoodIn wsX10_egg wsX8_hasEgg := goodIn_r _ [9, 10, 79, 80, 81, 82, 83, 84, 85, 86, 87, 88] (by decide +kernel) (by decide +kernel)
set_option maxRecDepth 20000 in
theorem gX10_egg_X8_hasEgg : GoodIn wsX10_egg (wsV RX10 172 RX8 yX8_hasEgg wsX8_hasEgg) := goodIn_app (goodIn_of _ (by decide +kernel)) ggX10_egg_X8_hasEgg
set_option maxRecDepth 20000 in
theorem ggX10_egg_X8_ageOf : GoodIn wsX10_egg wsX8_ageOf := goodIn_r _ [14, 15, 16, 6, 7, 8, 9, 10, 79, 80, 81, 82, 83, 84, 85, 86, 87, 88] (by decide +kernel) (by decide +kernel)
set_option maxRecDepth 20000 in
theorem gX10_egg_X8_ageOf : GoodIn wsX10_egg (wsV RX10 176 RX8 yX8_ageOf wsX8_ageOf) := goodIn_app (goodIn_of _ (by decide +kernel)) ggX10_egg_X8_ageOf
set_option maxRecDepth 20000 in
theorem ggX10_egg_X8_sizeOf : GoodIn wsX10_egg wsX8_sizeOf := goodIn_r _ [20, 21, 16, 6, 7, 8, 9, 10, 79, 80, 81, 82, 83, 84, 85, 86, 87, 88] (by decide +kernel) (by decide +kernel)
set_option maxRecDepth 20000 in
theorem gX10_egg_X8_sizeOf : GoodIn wsX10_egg (wsV RX10 179 RX8 yX8_sizeOf wsX8_sizeOf) := goodIn_app (goodIn_of _ (by decide +kernel)) ggX10_egg_X8_sizeOf
set_option maxRecDepth 20000 in
theorem ggX10_egg_X4_stateOf : GoodIn wsX10_egg wsX4_stateOf := goodIn_r _ [26, 27, 28, 29, 6, 7, 8, 9, 10, 89, 90, 91, 92, 93, 94, 95, 96, 97, 79, 80, 81, 82, 83, 84, 85, 86, 87, 88] (by decide +kernel) (by decide +kernel)
set_option maxRecDepth 20000 in
theorem gX10_egg_X4_stateOf : GoodIn wsX10_egg (wsV RX10 182 RX4 yX4_stateOf wsX4_stateOf) := goodIn_app (goodIn_of _ (by decide +kernel)) ggX10_egg_X4_stateOf
set_option maxRecDepth 20000 in
theorem ggX10_egg_X4_boiledOf : GoodIn wsX10_egg wsX4_boiledOf := goodIn_r _ [33, 27, 34, 29, 6, 7, 8, 9, 10, 89, 90, 91, 92, 93, 94, 95, 96, 97, 79, 80, 81, 82, 83, 84, 85, 86, 87, 88] (by decide +kernel) (by decide +kernel)
set_option maxRecDepth 20000 in
theorem gX10_egg_X4_boiledOf : GoodIn wsX10_egg (wsV RX10 185 RX4 yX4_boiledOf wsX4_boiledOf) := goodIn_app (goodIn_of _ (by decide +kernel)) ggX10_egg_X4_boiledOf
set_option maxRecDepth 20000 in
theorem ggX10_egg_X4_hardnessOf : GoodIn wsX10_egg wsX4_hardnessOf := goodIn_r _ [38, 27, 39, 31, 32, 25, 33, 34, 29, 6, 7, 8, 9, 10, 40, 41, 42, 43, 21, 15, 44, 45, 46, 47, 48, 49, 50, 16, 89, 90, 91, 92, 93, 94, 95, 96, 97, 79, 80, 81, 82, 83, 84, 85, 86, 87, 88] (by decide +kernel) (by decide +kernel)
set_option maxRecDepth 20000 in
theorem gX10_egg_X4_hardnessOf : GoodIn wsX10_egg (wsV RX10 188 RX4 yX4_hardnessOf wsX4_hardnessOf) := goodIn_app (goodIn_of _ (by decide +kernel)) ggX10_egg_X4_hardnessOf
set_option maxRecDepth 20000 in
theorem ggX10_egg_X4_reignOf : GoodIn wsX10_egg wsX4_reignOf := goodIn_r _ [54, 27, 39, 31, 32, 25, 33, 34, 29, 6, 7, 8, 9, 10, 55, 56, 57, 58, 59, 41, 42, 43, 21, 15, 44, 45, 46, 47, 48, 49, 50, 16, 60, 18, 19, 20, 89, 90, 91, 92, 93, 94, 95, 96, 97, 79, 80, 81, 82, 83, 84, 85, 86, 87, 88] (by decide +kernel) (by decide +kernel)
set_option maxRecDepth 20000 in
theorem gX10_egg_X4_reignOf : GoodIn wsX10_egg (wsV RX10 191 RX4 yX4_reignOf wsX4_reignOf) := goodIn_app (goodIn_of _ (by decide +kernel)) ggX10_egg_X4_reignOf
set_option maxRecDepth 20000 in
theorem ggX10_egg_X8_wishOf : GoodIn wsX10_egg wsX8_wishOf := goodIn_r _ [64, 65, 16, 6, 7, 8, 9, 10, 79, 80, 81, 82, 83, 84, 85, 86, 87, 88] (by decide +kernel) (by decide +kernel)
set_option maxRecDepth 20000 in
theorem gX10_egg_X8_wishOf : GoodIn wsX10_egg (wsV RX10 194 RX8 yX8_wishOf wsX8_wishOf) := goodIn_app (goodIn_of _ (by decide +kernel)) ggX10_egg_X8_wishOf
theorem dX10_egg_0 : decode cX10_egg 0 = .ok (.aload_n 0, 1) := by decide +kernel
theorem dX10_egg_1 : decode cX10_egg 1 = .ok (.getfield 19, 3) := by decide +kernel
theorem dX10_egg_4 : decode cX10_egg 4 = .ok (.iload_n 1, 1) := by decide +kernel
theorem dX10_egg_5 : decode cX10_egg 5 = .ok (.invokevirtual 172, 3) := by decide +kernel
theorem dX10_egg_8 : decode cX10_egg 8 = .ok (.ifCond .ne 6, 3) := by decide +kernel
theorem dX10_egg_11 : decode cX10_egg 11 = .ok (.ldc 175, 2) := by decide +kernel
theorem dX10_egg_13 : decode cX10_egg 13 = .ok (.ireturn, 1) := by decide +kernel
theorem dX10_egg_14 : decode cX10_egg 14 = .ok (.iload_n 2, 1) := by decide +kernel
theorem dX10_egg_15 : decode cX10_egg 15 = .ok (.tableswitch 104 0 6 #[41, 50, 59, 68, 77, 86, 95], 41) := by decide +kernel
theorem dX10_egg_56 : decode cX10_egg 56 = .ok (.aload_n 0, 1) := by decide +kernel
theorem dX10_egg_57 : decode cX10_egg 57 = .ok (.getfield 19, 3) := by decide +kernel
theorem dX10_egg_60 : decode cX10_egg 60 = .ok (.iload_n 1, 1) := by decide +kernel
theorem dX10_egg_61 : decode cX10_egg 61 = .ok (.invokevirtual 176, 3) := by decide +kernel
theorem dX10_egg_64 : decode cX10_egg 64 = .ok (.ireturn, 1) := by decide +kernel
theorem dX10_egg_65 : decode cX10_egg 65 = .ok (.aload_n 0, 1) := by decide +kernel
theorem dX10_egg_66 : decode cX10_egg 66 = .ok (.getfield 19, 3) := by decide +kernel
theorem dX10_egg_69 : decode cX10_egg 69 = .ok (.iload_n 1, 1) := by decide +kernel
theorem dX10_egg_70 : decode cX10_egg 70 = .ok (.invokevirtual 179, 3) := by decide +kernel
theorem dX10_egg_73 : decode cX10_egg 73 = .ok (.ireturn, 1) := by decide +kernel
theorem dX10_egg_74 : decode cX10_egg 74 = .ok (.aload_n 0, 1) := by decide +kernel
theorem dX10_egg_75 : decode cX10_egg 75 = .ok (.getfield 31, 3) := by decide +kernel
theorem dX10_egg_78 : decode cX10_egg 78 = .ok (.iload_n 1, 1) := by decide +kernel
theorem dX10_egg_79 : decode cX10_egg 79 = .ok (.invokevirtual 182, 3) := by decide +kernel
theorem dX10_egg_82 : decode cX10_egg 82 = .ok (.ireturn, 1) := by decide +kernel
theorem dX10_egg_83 : decode cX10_egg 83 = .ok (.aload_n 0, 1) := by decide +kernel
theorem dX10_egg_84 : decode cX10_egg 84 = .ok (.getfield 31, 3) := by decide +kernel
theorem dX10_egg_87 : decode cX10_egg 87 = .ok (.iload_n 1, 1) := by decide +kernel
theorem dX10_egg_88 : decode cX10_egg 88 = .ok (.invokevirtual 185, 3) := by decide +kernel
theorem dX10_egg_91 : decode cX10_egg 91 = .ok (.ireturn, 1) := by decide +kernel
theorem dX10_egg_92 : decode cX10_egg 92 = .ok (.aload_n 0, 1) := by decide +kernel
theorem dX10_egg_93 : decode cX10_egg 93 = .ok (.getfield 31, 3) := by decide +kernel
theorem dX10_egg_96 : decode cX10_egg 96 = .ok (.iload_n 1, 1) := by decide +kernel
theorem dX10_egg_97 : decode cX10_egg 97 = .ok (.invokevirtual 188, 3) := by decide +kernel
theorem dX10_egg_100 : decode cX10_egg 100 = .ok (.ireturn, 1) := by decide +kernel
theorem dX10_egg_101 : decode cX10_egg 101 = .ok (.aload_n 0, 1) := by decide +kernel
theorem dX10_egg_102 : decode cX10_egg 102 = .ok (.getfield 31, 3) := by decide +kernel
theorem dX10_egg_105 : decode cX10_egg 105 = .ok (.iload_n 1, 1) := by decide +kernel
theorem dX10_egg_106 : decode cX10_egg 106 = .ok (.invokevirtual 191, 3) := by decide +kernel
theorem dX10_egg_109 : decode cX10_egg 109 = .ok (.ireturn, 1) := by decide +kernel
theorem dX10_egg_110 : decode cX10_egg 110 = .ok (.aload_n 0, 1) := by decide +kernel
theorem dX10_egg_111 : decode cX10_egg 111 = .ok (.getfield 19, 3) := by decide +kernel
theorem dX10_egg_114 : decode cX10_egg 114 = .ok (.iload_n 1, 1) := by decide +kernel
theorem dX10_egg_115 : decode cX10_egg 115 = .ok (.invokevirtual 194, 3) := by decide +kernel
theorem dX10_egg_118 : decode cX10_egg 118 = .ok (.ireturn, 1) := by decide +kernel
theorem dX10_egg_119 : decode cX10_egg 119 = .ok (.ldc 95, 2) := by decide +kernel
theorem dX10_egg_121 : decode cX10_egg 121 = .ok (.ireturn, 1) := by decide +kernel
set_option maxRecDepth 20000 in
theorem ggX10_eater_X8_hasEater : GoodIn wsX10_eater wsX8_hasEater := goodIn_r _ [8, 9, 34, 35, 36, 37, 38, 39, 40, 41, 42, 43] (by decide +kernel) (by decide +kernel)
set_option maxRecDepth 20000 in
theorem gX10_eater_X8_hasEater : GoodIn wsX10_eater (wsV RX10 197 RX8 yX8_hasEater wsX8_hasEater) := goodIn_app (goodIn_of _ (by decide +kernel)) ggX10_eater_X8_hasEater
set_option maxRecDepth 20000 in
theorem ggX10_eater_X8_softestFor : GoodIn wsX10_eater wsX8_softestFor := goodIn_r _ [13, 14, 15, 5, 6, 7, 8, 9, 34, 35, 36, 37, 38, 39, 40, 41, 42, 43] (by decide +kernel) (by decide +kernel)
set_option maxRecDepth 20000 in
theorem gX10_eater_X8_softestFor : GoodIn wsX10_eater (wsV RX10 200 RX8 yX8_softestFor wsX8_softestFor) := goodIn_app (goodIn_of _ (by decide +kernel)) ggX10_eater_X8_softestFor
set_option maxRecDepth 20000 in
theorem ggX10_eater_X8_hardestFor : GoodIn wsX10_eater wsX8_hardestFor := goodIn_r _ [19, 20, 15, 5, 6, 7, 8, 9, 34, 35, 36, 37, 38, 39, 40, 41, 42, 43] (by decide +kernel) (by decide +kernel)
set_option maxRecDepth 20000 in
theorem gX10_eater_X8_hardestFor : GoodIn wsX10_eater (wsV RX10 203 RX8 yX8_hardestFor wsX8_hardestFor) := goodIn_app (goodIn_of _ (by decide +kernel)) ggX10_eater_X8_hardestFor
theorem dX10_eater_0 : decode cX10_eater 0 = .ok (.aload_n 0, 1) := by decide +kernel
theorem dX10_eater_1 : decode cX10_eater 1 = .ok (.getfield 19, 3) := by decide +kernel
theorem dX10_eater_4 : decode cX10_eater 4 = .ok (.iload_n 1, 1) := by decide +kernel
theorem dX10_eater_5 : decode cX10_eater 5 = .ok (.invokevirtual 197, 3) := by decide +kernel
theorem dX10_eater_8 : decode cX10_eater 8 = .ok (.ifCond .ne 6, 3) := by decide +kernel
theorem dX10_eater_11 : decode cX10_eater 11 = .ok (.ldc 175, 2) := by decide +kernel
theorem dX10_eater_13 : decode cX10_eater 13 = .ok (.ireturn, 1) := by decide +kernel
theorem dX10_eater_14 : decode cX10_eater 14 = .ok (.iload_n 2, 1) := by decide +kernel
theorem dX10_eater_15 : decode cX10_eater 15 = .ok (.lookupswitch 43 #[(0, 25), (1, 34)], 25) := by decide +kernel
theorem dX10_eater_40 : decode cX10_eater 40 = .ok (.aload_n 0, 1) := by decide +kernel
theorem dX10_eater_41 : decode cX10_eater 41 = .ok (.getfield 19, 3) := by decide +kernel
theorem dX10_eater_44 : decode cX10_eater 44 = .ok (.iload_n 1, 1) := by decide +kernel
theorem dX10_eater_45 : decode cX10_eater 45 = .ok (.invokevirtual 200, 3) := by decide +kernel
theorem dX10_eater_48 : decode cX10_eater 48 = .ok (.ireturn, 1) := by decide +kernel
theorem dX10_eater_49 : decode cX10_eater 49 = .ok (.aload_n 0, 1) := by decide +kernel
theorem dX10_eater_50 : decode cX10_eater 50 = .ok (.getfield 19, 3) := by decide +kernel
theorem dX10_eater_53 : decode cX10_eater 53 = .ok (.iload_n 1, 1) := by decide +kernel
theorem dX10_eater_54 : decode cX10_eater 54 = .ok (.invokevirtual 203, 3) := by decide +kernel
theorem dX10_eater_57 : decode cX10_eater 57 = .ok (.ireturn, 1) := by decide +kernel
theorem dX10_eater_58 : decode cX10_eater 58 = .ok (.ldc 95, 2) := by decide +kernel
theorem dX10_eater_60 : decode cX10_eater 60 = .ok (.ireturn, 1) := by decide +kernel
set_option maxRecDepth 20000 in
theorem ggX10_minute_X10_refusalOfMinutes : GoodIn wsX10_minute wsX10_refusalOfMinutes := goodIn_r _ [7, 8, 9, 10, 2, 11, 12, 13, 6, 14, 15, 16, 17, 18, 19, 20, 79, 80, 81, 82, 83, 84, 85, 86, 87, 88, 89, 90, 91, 92, 93, 94, 95, 96, 97, 98, 99, 100, 101, 102, 103, 104, 105, 106, 107, 108, 109, 110] (by decide +kernel) (by decide +kernel)
set_option maxRecDepth 20000 in
theorem gX10_minute_X10_refusalOfMinutes : GoodIn wsX10_minute (wsV RX10 206 RX10 yX10_refusalOfMinutes wsX10_refusalOfMinutes) := goodIn_app (goodIn_of _ (by decide +kernel)) ggX10_minute_X10_refusalOfMinutes
set_option maxRecDepth 20000 in
theorem ggX10_minute_X5_remember : GoodIn wsX10_minute wsX5_remember := goodIn_r _ [25, 26, 27, 28, 29, 30, 31, 32, 33, 34, 35, 36, 37, 38, 39, 40, 41, 42, 43, 44, 45, 46, 47, 48, 111, 112, 113, 92, 93, 94, 95, 96, 97, 98, 99, 100] (by decide +kernel) (by decide +kernel)
set_option maxRecDepth 20000 in
theorem gX10_minute_X5_remember : GoodIn wsX10_minute (wsV RX10 209 RX5 yX5_remember wsX5_remember) := goodIn_app (goodIn_of _ (by decide +kernel)) ggX10_minute_X5_remember
set_option maxRecDepth 20000 in
theorem ggX10_minute_X4_passMinute : GoodIn wsX10_minute wsX4_passMinute := goodIn_r _ [52, 43, 40, 53, 54, 55, 32, 56, 57, 34, 58, 59, 60, 18, 61, 62, 63, 64, 65, 66, 39, 67, 68, 69, 70, 42, 44, 41, 45, 71, 72, 73, 74, 75, 76, 77, 78, 92, 93, 94, 95, 96, 97, 98, 99, 100, 101, 102, 103, 104, 105, 106, 107, 108, 109, 110] (by decide +kernel) (by decide +kernel)
set_option maxRecDepth 20000 in
theorem gX10_minute_X4_passMinute : GoodIn wsX10_minute (wsV RX10 213 RX4 yX4_passMinute wsX4_passMinute) := goodIn_app (goodIn_of _ (by decide +kernel)) ggX10_minute_X4_passMinute
theorem dX10_minute_0 : decode cX10_minute 0 = .ok (.aload_n 0, 1) := by decide +kernel
theorem dX10_minute_1 : decode cX10_minute 1 = .ok (.iload_n 1, 1) := by decide +kernel
theorem dX10_minute_2 : decode cX10_minute 2 = .ok (.invokevirtual 206, 3) := by decide +kernel
theorem dX10_minute_5 : decode cX10_minute 5 = .ok (.istore_n 2, 1) := by decide +kernel
theorem dX10_minute_6 : decode cX10_minute 6 = .ok (.iload_n 2, 1) := by decide +kernel
theorem dX10_minute_7 : decode cX10_minute 7 = .ok (.ifCond .eq 5, 3) := by decide +kernel
theorem dX10_minute_10 : decode cX10_minute 10 = .ok (.iload_n 2, 1) := by decide +kernel
theorem dX10_minute_11 : decode cX10_minute 11 = .ok (.ireturn, 1) := by decide +kernel
theorem dX10_minute_12 : decode cX10_minute 12 = .ok (.aload_n 0, 1) := by decide +kernel
theorem dX10_minute_13 : decode cX10_minute 13 = .ok (.getfield 38, 3) := by decide +kernel
theorem dX10_minute_16 : decode cX10_minute 16 = .ok (.aload_n 0, 1) := by decide +kernel
theorem dX10_minute_17 : decode cX10_minute 17 = .ok (.getfield 31, 3) := by decide +kernel
theorem dX10_minute_20 : decode cX10_minute 20 = .ok (.invokevirtual 209, 3) := by decide +kernel
theorem dX10_minute_23 : decode cX10_minute 23 = .ok (.iconst 0, 1) := by decide +kernel
theorem dX10_minute_24 : decode cX10_minute 24 = .ok (.istore_n 3, 1) := by decide +kernel
theorem dX10_minute_25 : decode cX10_minute 25 = .ok (.iload_n 3, 1) := by decide +kernel
theorem dX10_minute_26 : decode cX10_minute 26 = .ok (.iload_n 1, 1) := by decide +kernel
theorem dX10_minute_27 : decode cX10_minute 27 = .ok (.if_icmp .ge 16, 3) := by decide +kernel
theorem dX10_minute_30 : decode cX10_minute 30 = .ok (.aload_n 0, 1) := by decide +kernel
theorem dX10_minute_31 : decode cX10_minute 31 = .ok (.getfield 31, 3) := by decide +kernel
theorem dX10_minute_34 : decode cX10_minute 34 = .ok (.invokevirtual 213, 3) := by decide +kernel
theorem dX10_minute_37 : decode cX10_minute 37 = .ok (.iinc 3 1, 3) := by decide +kernel
theorem dX10_minute_40 : decode cX10_minute 40 = .ok (.goto (-15), 3) := by decide +kernel
theorem dX10_minute_43 : decode cX10_minute 43 = .ok (.aload_n 0, 1) := by decide +kernel
theorem dX10_minute_44 : decode cX10_minute 44 = .ok (.getfield 31, 3) := by decide +kernel
theorem dX10_minute_47 : decode cX10_minute 47 = .ok (.getfield 142, 3) := by decide +kernel
theorem dX10_minute_50 : decode cX10_minute 50 = .ok (.ireturn, 1) := by decide +kernel
set_option maxRecDepth 20000 in
theorem ggX10_put_X8_hasEgg : GoodIn wsX10_put wsX8_hasEgg := goodIn_r _ [10, 11, 87, 88, 89, 90, 91, 92, 93, 94, 95, 96] (by decide +kernel) (by decide +kernel)
set_option maxRecDepth 20000 in
theorem gX10_put_X8_hasEgg : GoodIn wsX10_put (wsV RX10 172 RX8 yX8_hasEgg wsX8_hasEgg) := goodIn_app (goodIn_of _ (by decide +kernel)) ggX10_put_X8_hasEgg
set_option maxRecDepth 20000 in
theorem ggX10_put_X4_canGoIn : GoodIn wsX10_put wsX4_canGoIn := goodIn_r _ [16, 17, 18, 19, 20, 15, 21, 22, 23, 7, 8, 9, 10, 11, 24, 25, 26, 27, 28, 29, 30, 31, 32, 33, 34, 35, 36, 37, 38, 97, 98, 99, 100, 101, 102, 103, 104, 105, 87, 88, 89, 90, 91, 92, 93, 94, 95, 96] (by decide +kernel) (by decide +kernel)
set_option maxRecDepth 20000 in
theorem gX10_put_X4_canGoIn : GoodIn wsX10_put (wsV RX10 216 RX4 yX4_canGoIn wsX4_canGoIn) := goodIn_app (goodIn_of _ (by decide +kernel)) ggX10_put_X4_canGoIn
set_option maxRecDepth 20000 in
theorem ggX10_put_X5_remember : GoodIn wsX10_put wsX5_remember := goodIn_r _ [43, 44, 45, 46, 47, 48, 49, 15, 50, 22, 51, 52, 53, 54, 55, 56, 57, 58, 59, 60, 61, 62, 63, 64, 106, 107, 108, 97, 98, 99, 100, 101, 102, 103, 104, 105] (by decide +kernel) (by decide +kernel)
set_option maxRecDepth 20000 in
theorem gX10_put_X5_remember : GoodIn wsX10_put (wsV RX10 209 RX5 yX5_remember wsX5_remember) := goodIn_app (goodIn_of _ (by decide +kernel)) ggX10_put_X5_remember
set_option maxRecDepth 20000 in
theorem ggX10_put_X4_goIn : GoodIn wsX10_put wsX4_goIn := goodIn_r _ [68, 69, 70, 71, 15, 72, 17, 22, 23, 7, 8, 9, 10, 11, 97, 98, 99, 100, 101, 102, 103, 104, 105, 87, 88, 89, 90, 91, 92, 93, 94, 95, 96] (by decide +kernel) (by decide +kernel)
set_option maxRecDepth 20000 in
theorem gX10_put_X4_goIn : GoodIn wsX10_put (wsV RX10 220 RX4 yX4_goIn wsX4_goIn) := goodIn_app (goodIn_of _ (by decide +kernel)) ggX10_put_X4_goIn
set_option maxRecDepth 20000 in
theorem ggX10_put_X4_howManyInPan : GoodIn wsX10_put wsX4_howManyInPan := goodIn_r _ [27, 28, 29, 30, 15, 31, 18, 19, 20, 21, 17, 22, 23, 7, 8, 9, 10, 11, 32, 33, 34, 35, 36, 37, 38, 97, 98, 99, 100, 101, 102, 103, 104, 105, 87, 88, 89, 90, 91, 92, 93, 94, 95, 96] (by decide +kernel) (by decide +kernel)
set_option maxRecDepth 20000 in
theorem gX10_put_X4_howManyInPan : GoodIn wsX10_put (wsV RX10 224 RX4 yX4_howManyInPan wsX4_howManyInPan) := goodIn_app (goodIn_of _ (by decide +kernel)) ggX10_put_X4_howManyInPan
theorem dX10_put_0 : decode cX10_put 0 = .ok (.aload_n 0, 1) := by decide +kernel
theorem dX10_put_1 : decode cX10_put 1 = .ok (.getfield 19, 3) := by decide +kernel
theorem dX10_put_4 : decode cX10_put 4 = .ok (.iload_n 1, 1) := by decide +kernel
theorem dX10_put_5 : decode cX10_put 5 = .ok (.invokevirtual 172, 3) := by decide +kernel
theorem dX10_put_8 : decode cX10_put 8 = .ok (.ifCond .ne 6, 3) := by decide +kernel
theorem dX10_put_11 : decode cX10_put 11 = .ok (.ldc 175, 2) := by decide +kernel
theorem dX10_put_13 : decode cX10_put 13 = .ok (.ireturn, 1) := by decide +kernel
theorem dX10_put_14 : decode cX10_put 14 = .ok (.aload_n 0, 1) := by decide +kernel
theorem dX10_put_15 : decode cX10_put 15 = .ok (.getfield 31, 3) := by decide +kernel
theorem dX10_put_18 : decode cX10_put 18 = .ok (.iload_n 1, 1) := by decide +kernel
theorem dX10_put_19 : decode cX10_put 19 = .ok (.invokevirtual 216, 3) := by decide +kernel
theorem dX10_put_22 : decode cX10_put 22 = .ok (.ifCond .ne 6, 3) := by decide +kernel
theorem dX10_put_25 : decode cX10_put 25 = .ok (.ldc 219, 2) := by decide +kernel
theorem dX10_put_27 : decode cX10_put 27 = .ok (.ireturn, 1) := by decide +kernel
theorem dX10_put_28 : decode cX10_put 28 = .ok (.aload_n 0, 1) := by decide +kernel
theorem dX10_put_29 : decode cX10_put 29 = .ok (.getfield 38, 3) := by decide +kernel
theorem dX10_put_32 : decode cX10_put 32 = .ok (.aload_n 0, 1) := by decide +kernel
theorem dX10_put_33 : decode cX10_put 33 = .ok (.getfield 31, 3) := by decide +kernel
theorem dX10_put_36 : decode cX10_put 36 = .ok (.invokevirtual 209, 3) := by decide +kernel
theorem dX10_put_39 : decode cX10_put 39 = .ok (.aload_n 0, 1) := by decide +kernel
theorem dX10_put_40 : decode cX10_put 40 = .ok (.getfield 31, 3) := by decide +kernel
theorem dX10_put_43 : decode cX10_put 43 = .ok (.iload_n 1, 1) := by decide +kernel
theorem dX10_put_44 : decode cX10_put 44 = .ok (.invokevirtual 220, 3) := by decide +kernel
theorem dX10_put_47 : decode cX10_put 47 = .ok (.aload_n 0, 1) := by decide +kernel
theorem dX10_put_48 : decode cX10_put 48 = .ok (.getfield 31, 3) := by decide +kernel
theorem dX10_put_51 : decode cX10_put 51 = .ok (.invokevirtual 224, 3) := by decide +kernel
theorem dX10_put_54 : decode cX10_put 54 = .ok (.ireturn, 1) := by decide +kernel
set_option maxRecDepth 20000 in
theorem ggX10_takeOut_X8_hasEgg : GoodIn wsX10_takeOut wsX8_hasEgg := goodIn_r _ [10, 11, 93, 94, 95, 96, 97, 98, 99, 100, 101, 102] (by decide +kernel) (by decide +kernel)
set_option maxRecDepth 20000 in
theorem gX10_takeOut_X8_hasEgg : GoodIn wsX10_takeOut (wsV RX10 172 RX8 yX8_hasEgg wsX8_hasEgg) := goodIn_app (goodIn_of _ (by decide +kernel)) ggX10_takeOut_X8_hasEgg
set_option maxRecDepth 20000 in
theorem ggX10_takeOut_X4_canComeOut : GoodIn wsX10_takeOut wsX4_canComeOut := goodIn_r _ [16, 17, 18, 19, 15, 20, 21, 22, 23, 7, 8, 9, 10, 11, 103, 104, 105, 106, 107, 108, 109, 110, 111, 93, 94, 95, 96, 97, 98, 99, 100, 101, 102] (by decide +kernel) (by decide +kernel)
set_option maxRecDepth 20000 in
theorem gX10_takeOut_X4_canComeOut : GoodIn wsX10_takeOut (wsV RX10 227 RX4 yX4_canComeOut wsX4_canComeOut) := goodIn_app (goodIn_of _ (by decide +kernel)) ggX10_takeOut_X4_canComeOut
set_option maxRecDepth 20000 in
theorem ggX10_takeOut_X5_remember : GoodIn wsX10_takeOut wsX5_remember := goodIn_r _ [28, 29, 30, 31, 32, 33, 34, 15, 35, 22, 36, 37, 38, 39, 40, 41, 42, 43, 44, 45, 46, 47, 48, 49, 112, 113, 114, 103, 104, 105, 106, 107, 108, 109, 110, 111] (by decide +kernel) (by decide +kernel)
set_option maxRecDepth 20000 in
theorem gX10_takeOut_X5_remember : GoodIn wsX10_takeOut (wsV RX10 209 RX5 yX5_remember wsX5_remember) := goodIn_app (goodIn_of _ (by decide +kernel)) ggX10_takeOut_X5_remember
set_option maxRecDepth 20000 in
theorem ggX10_takeOut_X4_comeOut : GoodIn wsX10_takeOut wsX4_comeOut := goodIn_r _ [53, 54, 55, 56, 15, 57, 21, 22, 23, 7, 8, 9, 10, 11, 103, 104, 105, 106, 107, 108, 109, 110, 111, 93, 94, 95, 96, 97, 98, 99, 100, 101, 102] (by decide +kernel) (by decide +kernel)
set_option maxRecDepth 20000 in
theorem gX10_takeOut_X4_comeOut : GoodIn wsX10_takeOut (wsV RX10 230 RX4 yX4_comeOut wsX4_comeOut) := goodIn_app (goodIn_of _ (by decide +kernel)) ggX10_takeOut_X4_comeOut
set_option maxRecDepth 20000 in
theorem ggX10_takeOut_X4_hardnessOf : GoodIn wsX10_takeOut wsX4_hardnessOf := goodIn_r _ [61, 21, 62, 63, 64, 15, 65, 40, 23, 7, 8, 9, 10, 11, 66, 67, 68, 69, 70, 71, 72, 73, 74, 75, 76, 77, 78, 79, 103, 104, 105, 106, 107, 108, 109, 110, 111, 93, 94, 95, 96, 97, 98, 99, 100, 101, 102] (by decide +kernel) (by decide +kernel)
set_option maxRecDepth 20000 in
theorem gX10_takeOut_X4_hardnessOf : GoodIn wsX10_takeOut (wsV RX10 188 RX4 yX4_hardnessOf wsX4_hardnessOf) := goodIn_app (goodIn_of _ (by decide +kernel)) ggX10_takeOut_X4_hardnessOf
theorem dX10_takeOut_0 : decode cX10_takeOut 0 = .ok (.aload_n 0, 1) := by decide +kernel
theorem dX10_takeOut_1 : decode cX10_takeOut 1 = .ok (.getfield 19, 3) := by decide +kernel
theorem dX10_takeOut_4 : decode cX10_takeOut 4 = .ok (.iload_n 1, 1) := by decide +kernel
theorem dX10_takeOut_5 : decode cX10_takeOut 5 = .ok (.invokevirtual 172, 3) := by decide +kernel
theorem dX10_takeOut_8 : decode cX10_takeOut 8 = .ok (.ifCond .ne 6, 3) := by decide +kernel
theorem dX10_takeOut_11 : decode cX10_takeOut 11 = .ok (.ldc 175, 2) := by decide +kernel
theorem dX10_takeOut_13 : decode cX10_takeOut 13 = .ok (.ireturn, 1) := by decide +kernel
theorem dX10_takeOut_14 : decode cX10_takeOut 14 = .ok (.aload_n 0, 1) := by decide +kernel
theorem dX10_takeOut_15 : decode cX10_takeOut 15 = .ok (.getfield 31, 3) := by decide +kernel
theorem dX10_takeOut_18 : decode cX10_takeOut 18 = .ok (.iload_n 1, 1) := by decide +kernel
theorem dX10_takeOut_19 : decode cX10_takeOut 19 = .ok (.invokevirtual 227, 3) := by decide +kernel
theorem dX10_takeOut_22 : decode cX10_takeOut 22 = .ok (.ifCond .ne 6, 3) := by decide +kernel
theorem dX10_takeOut_25 : decode cX10_takeOut 25 = .ok (.ldc 219, 2) := by decide +kernel
theorem dX10_takeOut_27 : decode cX10_takeOut 27 = .ok (.ireturn, 1) := by decide +kernel
theorem dX10_takeOut_28 : decode cX10_takeOut 28 = .ok (.aload_n 0, 1) := by decide +kernel
theorem dX10_takeOut_29 : decode cX10_takeOut 29 = .ok (.getfield 38, 3) := by decide +kernel
theorem dX10_takeOut_32 : decode cX10_takeOut 32 = .ok (.aload_n 0, 1) := by decide +kernel
theorem dX10_takeOut_33 : decode cX10_takeOut 33 = .ok (.getfield 31, 3) := by decide +kernel
theorem dX10_takeOut_36 : decode cX10_takeOut 36 = .ok (.invokevirtual 209, 3) := by decide +kernel
theorem dX10_takeOut_39 : decode cX10_takeOut 39 = .ok (.aload_n 0, 1) := by decide +kernel
theorem dX10_takeOut_40 : decode cX10_takeOut 40 = .ok (.getfield 31, 3) := by decide +kernel
theorem dX10_takeOut_43 : decode cX10_takeOut 43 = .ok (.iload_n 1, 1) := by decide +kernel
theorem dX10_takeOut_44 : decode cX10_takeOut 44 = .ok (.invokevirtual 230, 3) := by decide +kernel
theorem dX10_takeOut_47 : decode cX10_takeOut 47 = .ok (.aload_n 0, 1) := by decide +kernel
theorem dX10_takeOut_48 : decode cX10_takeOut 48 = .ok (.getfield 31, 3) := by decide +kernel
theorem dX10_takeOut_51 : decode cX10_takeOut 51 = .ok (.iload_n 1, 1) := by decide +kernel
theorem dX10_takeOut_52 : decode cX10_takeOut 52 = .ok (.invokevirtual 188, 3) := by decide +kernel
theorem dX10_takeOut_55 : decode cX10_takeOut 55 = .ok (.ireturn, 1) := by decide +kernel
set_option maxRecDepth 20000 in
theorem ggX10_crown_X8_hasEgg : GoodIn wsX10_crown wsX8_hasEgg := goodIn_r _ [10, 11, 110, 111, 112, 113, 114, 115, 116, 117, 118, 119] (by decide +kernel) (by decide +kernel)
set_option maxRecDepth 20000 in
theorem gX10_crown_X8_hasEgg : GoodIn wsX10_crown (wsV RX10 172 RX8 yX8_hasEgg wsX8_hasEgg) := goodIn_app (goodIn_of _ (by decide +kernel)) ggX10_crown_X8_hasEgg
set_option maxRecDepth 20000 in
theorem ggX10_crown_X4_canBeKing : GoodIn wsX10_crown wsX4_canBeKing := goodIn_r _ [16, 17, 18, 19, 20, 15, 21, 22, 23, 24, 7, 8, 9, 10, 11, 101, 102, 103, 104, 105, 106, 107, 108, 109, 110, 111, 112, 113, 114, 115, 116, 117, 118, 119] (by decide +kernel) (by decide +kernel)
set_option maxRecDepth 20000 in
theorem gX10_crown_X4_canBeKing : GoodIn wsX10_crown (wsV RX10 233 RX4 yX4_canBeKing wsX4_canBeKing) := goodIn_app (goodIn_of _ (by decide +kernel)) ggX10_crown_X4_canBeKing
set_option maxRecDepth 20000 in
theorem ggX10_crown_X5_remember : GoodIn wsX10_crown wsX5_remember := goodIn_r _ [29, 30, 31, 32, 33, 34, 35, 15, 36, 23, 37, 38, 39, 40, 41, 17, 42, 43, 44, 45, 46, 47, 48, 49, 120, 121, 122, 101, 102, 103, 104, 105, 106, 107, 108, 109] (by decide +kernel) (by decide +kernel)
set_option maxRecDepth 20000 in
theorem gX10_crown_X5_remember : GoodIn wsX10_crown (wsV RX10 209 RX5 yX5_remember wsX5_remember) := goodIn_app (goodIn_of _ (by decide +kernel)) ggX10_crown_X5_remember
set_option maxRecDepth 20000 in
theorem ggX10_crown_X4_becomeKing : GoodIn wsX10_crown wsX4_becomeKing := goodIn_r _ [53, 17, 42, 54, 55, 56, 15, 57, 22, 23, 24, 7, 8, 9, 10, 11, 58, 59, 60, 61, 62, 63, 64, 65, 41, 66, 67, 68, 69, 70, 71, 72, 73, 74, 75, 76, 77, 78, 79, 80, 81, 82, 83, 84, 85, 86, 87, 101, 102, 103, 104, 105, 106, 107, 108, 109, 110, 111, 112, 113, 114, 115, 116, 117, 118, 119] (by decide +kernel) (by decide +kernel)
set_option maxRecDepth 20000 in
theorem gX10_crown_X4_becomeKing : GoodIn wsX10_crown (wsV RX10 236 RX4 yX4_becomeKing wsX4_becomeKing) := goodIn_app (goodIn_of _ (by decide +kernel)) ggX10_crown_X4_becomeKing
theorem dX10_crown_0 : decode cX10_crown 0 = .ok (.aload_n 0, 1) := by decide +kernel
theorem dX10_crown_1 : decode cX10_crown 1 = .ok (.getfield 19, 3) := by decide +kernel
theorem dX10_crown_4 : decode cX10_crown 4 = .ok (.iload_n 1, 1) := by decide +kernel
theorem dX10_crown_5 : decode cX10_crown 5 = .ok (.invokevirtual 172, 3) := by decide +kernel
theorem dX10_crown_8 : decode cX10_crown 8 = .ok (.ifCond .ne 6, 3) := by decide +kernel
theorem dX10_crown_11 : decode cX10_crown 11 = .ok (.ldc 175, 2) := by decide +kernel
theorem dX10_crown_13 : decode cX10_crown 13 = .ok (.ireturn, 1) := by decide +kernel
theorem dX10_crown_14 : decode cX10_crown 14 = .ok (.aload_n 0, 1) := by decide +kernel
theorem dX10_crown_15 : decode cX10_crown 15 = .ok (.getfield 31, 3) := by decide +kernel
theorem dX10_crown_18 : decode cX10_crown 18 = .ok (.iload_n 1, 1) := by decide +kernel
theorem dX10_crown_19 : decode cX10_crown 19 = .ok (.invokevirtual 233, 3) := by decide +kernel
theorem dX10_crown_22 : decode cX10_crown 22 = .ok (.ifCond .ne 6, 3) := by decide +kernel
theorem dX10_crown_25 : decode cX10_crown 25 = .ok (.ldc 219, 2) := by decide +kernel
theorem dX10_crown_27 : decode cX10_crown 27 = .ok (.ireturn, 1) := by decide +kernel
theorem dX10_crown_28 : decode cX10_crown 28 = .ok (.aload_n 0, 1) := by decide +kernel
theorem dX10_crown_29 : decode cX10_crown 29 = .ok (.getfield 38, 3) := by decide +kernel
theorem dX10_crown_32 : decode cX10_crown 32 = .ok (.aload_n 0, 1) := by decide +kernel
theorem dX10_crown_33 : decode cX10_crown 33 = .ok (.getfield 31, 3) := by decide +kernel
theorem dX10_crown_36 : decode cX10_crown 36 = .ok (.invokevirtual 209, 3) := by decide +kernel
theorem dX10_crown_39 : decode cX10_crown 39 = .ok (.aload_n 0, 1) := by decide +kernel
theorem dX10_crown_40 : decode cX10_crown 40 = .ok (.getfield 31, 3) := by decide +kernel
theorem dX10_crown_43 : decode cX10_crown 43 = .ok (.iload_n 1, 1) := by decide +kernel
theorem dX10_crown_44 : decode cX10_crown 44 = .ok (.invokevirtual 236, 3) := by decide +kernel
theorem dX10_crown_47 : decode cX10_crown 47 = .ok (.aload_n 0, 1) := by decide +kernel
theorem dX10_crown_48 : decode cX10_crown 48 = .ok (.getfield 31, 3) := by decide +kernel
theorem dX10_crown_51 : decode cX10_crown 51 = .ok (.getfield 148, 3) := by decide +kernel
theorem dX10_crown_54 : decode cX10_crown 54 = .ok (.ireturn, 1) := by decide +kernel
set_option maxRecDepth 20000 in
theorem ggX10_cutToast_X10_isWithin : GoodIn wsX10_cutToast wsX10_isWithin := goodIn_r _ [13] (by decide +kernel) (by decide +kernel)
set_option maxRecDepth 20000 in
theorem gX10_cutToast_X10_isWithin : GoodIn wsX10_cutToast (va_wsS RX10 91 yX10_isWithin wsX10_isWithin) := goodIn_app (goodIn_of _ (by decide +kernel)) ggX10_cutToast_X10_isWithin
set_option maxRecDepth 20000 in
theorem ggX10_cutToast_X8_isLaid : GoodIn wsX10_cutToast wsX8_isLaid := goodIn_r _ [18, 19, 70, 71, 72, 73, 74, 75, 76, 77, 78, 79] (by decide +kernel) (by decide +kernel)
set_option maxRecDepth 20000 in
theorem gX10_cutToast_X8_isLaid : GoodIn wsX10_cutToast (wsV RX10 239 RX8 yX8_isLaid wsX8_isLaid) := goodIn_app (goodIn_of _ (by decide +kernel)) ggX10_cutToast_X8_isLaid
set_option maxRecDepth 20000 in
theorem ggX10_cutToast_X5_remember : GoodIn wsX10_cutToast wsX5_remember := goodIn_r _ [24, 25, 26, 27, 28, 29, 30, 31, 32, 33, 34, 35, 36, 37, 38, 39, 40, 41, 42, 43, 44, 45, 46, 47, 80, 81, 82, 61, 62, 63, 64, 65, 66, 67, 68, 69] (by decide +kernel) (by decide +kernel)
set_option maxRecDepth 20000 in
theorem gX10_cutToast_X5_remember : GoodIn wsX10_cutToast (wsV RX10 209 RX5 yX5_remember wsX5_remember) := goodIn_app (goodIn_of _ (by decide +kernel)) ggX10_cutToast_X5_remember
theorem dX10_cutToast_0 : decode cX10_cutToast 0 = .ok (.iload_n 1, 1) := by decide +kernel
theorem dX10_cutToast_1 : decode cX10_cutToast 1 = .ok (.iconst 1, 1) := by decide +kernel
theorem dX10_cutToast_2 : decode cX10_cutToast 2 = .ok (.bipush 99, 2) := by decide +kernel
theorem dX10_cutToast_4 : decode cX10_cutToast 4 = .ok (.invokestatic 91, 3) := by decide +kernel
theorem dX10_cutToast_7 : decode cX10_cutToast 7 = .ok (.ifCond .ne 6, 3) := by decide +kernel
theorem dX10_cutToast_10 : decode cX10_cutToast 10 = .ok (.ldc 95, 2) := by decide +kernel
theorem dX10_cutToast_12 : decode cX10_cutToast 12 = .ok (.ireturn, 1) := by decide +kernel
theorem dX10_cutToast_13 : decode cX10_cutToast 13 = .ok (.aload_n 0, 1) := by decide +kernel
theorem dX10_cutToast_14 : decode cX10_cutToast 14 = .ok (.getfield 19, 3) := by decide +kernel
theorem dX10_cutToast_17 : decode cX10_cutToast 17 = .ok (.invokevirtual 239, 3) := by decide +kernel
theorem dX10_cutToast_20 : decode cX10_cutToast 20 = .ok (.ifCond .ne 6, 3) := by decide +kernel
theorem dX10_cutToast_23 : decode cX10_cutToast 23 = .ok (.ldc 219, 2) := by decide +kernel
theorem dX10_cutToast_25 : decode cX10_cutToast 25 = .ok (.ireturn, 1) := by decide +kernel
theorem dX10_cutToast_26 : decode cX10_cutToast 26 = .ok (.aload_n 0, 1) := by decide +kernel
theorem dX10_cutToast_27 : decode cX10_cutToast 27 = .ok (.getfield 38, 3) := by decide +kernel
theorem dX10_cutToast_30 : decode cX10_cutToast 30 = .ok (.aload_n 0, 1) := by decide +kernel
theorem dX10_cutToast_31 : decode cX10_cutToast 31 = .ok (.getfield 31, 3) := by decide +kernel
theorem dX10_cutToast_34 : decode cX10_cutToast 34 = .ok (.invokevirtual 209, 3) := by decide +kernel
theorem dX10_cutToast_37 : decode cX10_cutToast 37 = .ok (.aload_n 0, 1) := by decide +kernel
theorem dX10_cutToast_38 : decode cX10_cutToast 38 = .ok (.getfield 31, 3) := by decide +kernel
theorem dX10_cutToast_41 : decode cX10_cutToast 41 = .ok (.sipush 999, 3) := by decide +kernel
theorem dX10_cutToast_44 : decode cX10_cutToast 44 = .ok (.aload_n 0, 1) := by decide +kernel
theorem dX10_cutToast_45 : decode cX10_cutToast 45 = .ok (.getfield 31, 3) := by decide +kernel
theorem dX10_cutToast_48 : decode cX10_cutToast 48 = .ok (.getfield 133, 3) := by decide +kernel
theorem dX10_cutToast_51 : decode cX10_cutToast 51 = .ok (.iload_n 1, 1) := by decide +kernel
theorem dX10_cutToast_52 : decode cX10_cutToast 52 = .ok (.iadd, 1) := by decide +kernel
theorem dX10_cutToast_53 : decode cX10_cutToast 53 = .ok (.invokestatic 243, 3) := by decide +kernel
theorem dX10_cutToast_56 : decode cX10_cutToast 56 = .ok (.putfield 133, 3) := by decide +kernel
theorem dX10_cutToast_59 : decode cX10_cutToast 59 = .ok (.aload_n 0, 1) := by decide +kernel
theorem dX10_cutToast_60 : decode cX10_cutToast 60 = .ok (.getfield 31, 3) := by decide +kernel
theorem dX10_cutToast_63 : decode cX10_cutToast 63 = .ok (.getfield 133, 3) := by decide +kernel
theorem dX10_cutToast_66 : decode cX10_cutToast 66 = .ok (.ireturn, 1) := by decide +kernel
set_option maxRecDepth 20000 in
theorem ggX10_drift_X10_refusalOfMinutes : GoodIn wsX10_drift wsX10_refusalOfMinutes := goodIn_r _ [7, 8, 9, 10, 2, 11, 12, 13, 6, 14, 15, 16, 17, 18, 19, 20, 161, 162, 163, 164, 165, 166, 167, 168, 169, 170, 171, 172, 173, 174, 175, 176, 177, 178, 179, 180, 181, 182, 183, 184, 185, 186, 187, 188, 189, 190, 191, 192] (by decide +kernel) (by decide +kernel)
set_option maxRecDepth 20000 in
theorem gX10_drift_X10_refusalOfMinutes : GoodIn wsX10_drift (wsV RX10 206 RX10 yX10_refusalOfMinutes wsX10_refusalOfMinutes) := goodIn_app (goodIn_of _ (by decide +kernel)) ggX10_drift_X10_refusalOfMinutes
set_option maxRecDepth 20000 in
theorem ggX10_drift_X5_remember : GoodIn wsX10_drift wsX5_remember := goodIn_r _ [25, 26, 27, 28, 29, 30, 31, 32, 33, 34, 35, 36, 37, 38, 39, 40, 41, 42, 43, 44, 45, 46, 47, 48, 193, 194, 195, 174, 175, 176, 177, 178, 179, 180, 181, 182] (by decide +kernel) (by decide +kernel)
set_option maxRecDepth 20000 in
theorem gX10_drift_X5_remember : GoodIn wsX10_drift (wsV RX10 209 RX5 yX5_remember wsX5_remember) := goodIn_app (goodIn_of _ (by decide +kernel)) ggX10_drift_X5_remember
set_option maxRecDepth 20000 in
theorem ggX10_drift_X10_actByDraws : GoodIn wsX10_drift wsX10_actByDraws := goodIn_r _ [52, 9, 2, 53, 54, 55, 6, 56, 57, 58, 59, 60, 61, 62, 63, 64, 32, 65, 66, 67, 68, 69, 70, 34, 71, 72, 73, 18, 74, 75, 76, 77, 78, 79, 80, 81, 82, 83, 84, 85, 86, 87, 88, 89, 90, 91, 92, 93, 94, 95, 96, 97, 98, 99, 100, 101, 102, 103, 104, 105, 106, 107, 108, 109, 110, 40, 111, 112, 113, 114, 41, 115, 116, 117, 118, 119, 120, 121, 122, 39, 123, 124, 125, 126, 127, 128, 129, 130, 131, 132, 133, 134, 135, 136, 137, 138, 139, 140, 141, 142, 143, 144, 161, 162, 163, 164, 165, 166, 167, 168, 169, 170, 171, 172, 173, 183, 184, 185, 186, 187, 188, 189, 190, 191, 192, 174, 175, 176, 177, 178, 179, 180, 181, 182] (by decide +kernel) (by decide +kernel)
set_option maxRecDepth 20000 in
theorem gX10_drift_X10_actByDraws : GoodIn wsX10_drift (wsV RX10 249 RX10 yX10_actByDraws wsX10_actByDraws) := goodIn_app (goodIn_of _ (by decide +kernel)) ggX10_drift_X10_actByDraws
set_option maxRecDepth 20000 in
theorem ggX10_drift_X4_passMinute : GoodIn wsX10_drift wsX4_passMinute := goodIn_r _ [148, 43, 40, 67, 68, 69, 32, 70, 66, 34, 71, 72, 73, 18, 74, 75, 149, 150, 151, 152, 39, 153, 154, 155, 156, 42, 44, 41, 45, 157, 158, 159, 160, 95, 96, 97, 98, 174, 175, 176, 177, 178, 179, 180, 181, 182, 183, 184, 185, 186, 187, 188, 189, 190, 191, 192] (by decide +kernel) (by decide +kernel)
set_option maxRecDepth 20000 in
theorem gX10_drift_X4_passMinute : GoodIn wsX10_drift (wsV RX10 213 RX4 yX4_passMinute wsX4_passMinute) := goodIn_app (goodIn_of _ (by decide +kernel)) ggX10_drift_X4_passMinute
theorem dX10_drift_0 : decode cX10_drift 0 = .ok (.aload_n 0, 1) := by decide +kernel
theorem dX10_drift_1 : decode cX10_drift 1 = .ok (.iload_n 1, 1) := by decide +kernel
theorem dX10_drift_2 : decode cX10_drift 2 = .ok (.invokevirtual 206, 3) := by decide +kernel
theorem dX10_drift_5 : decode cX10_drift 5 = .ok (.istore_n 2, 1) := by decide +kernel
theorem dX10_drift_6 : decode cX10_drift 6 = .ok (.iload_n 2, 1) := by decide +kernel
theorem dX10_drift_7 : decode cX10_drift 7 = .ok (.ifCond .eq 5, 3) := by decide +kernel
theorem dX10_drift_10 : decode cX10_drift 10 = .ok (.iload_n 2, 1) := by decide +kernel
theorem dX10_drift_11 : decode cX10_drift 11 = .ok (.ireturn, 1) := by decide +kernel
theorem dX10_drift_12 : decode cX10_drift 12 = .ok (.aload_n 0, 1) := by decide +kernel
theorem dX10_drift_13 : decode cX10_drift 13 = .ok (.getfield 38, 3) := by decide +kernel
theorem dX10_drift_16 : decode cX10_drift 16 = .ok (.aload_n 0, 1) := by decide +kernel
theorem dX10_drift_17 : decode cX10_drift 17 = .ok (.getfield 31, 3) := by decide +kernel
theorem dX10_drift_20 : decode cX10_drift 20 = .ok (.invokevirtual 209, 3) := by decide +kernel
theorem dX10_drift_23 : decode cX10_drift 23 = .ok (.iconst 0, 1) := by decide +kernel
theorem dX10_drift_24 : decode cX10_drift 24 = .ok (.istore_n 3, 1) := by decide +kernel
theorem dX10_drift_25 : decode cX10_drift 25 = .ok (.iload_n 3, 1) := by decide +kernel
theorem dX10_drift_26 : decode cX10_drift 26 = .ok (.iload_n 1, 1) := by decide +kernel
theorem dX10_drift_27 : decode cX10_drift 27 = .ok (.if_icmp .ge 20, 3) := by decide +kernel
theorem dX10_drift_30 : decode cX10_drift 30 = .ok (.aload_n 0, 1) := by decide +kernel
theorem dX10_drift_31 : decode cX10_drift 31 = .ok (.invokevirtual 249, 3) := by decide +kernel
theorem dX10_drift_34 : decode cX10_drift 34 = .ok (.aload_n 0, 1) := by decide +kernel
theorem dX10_drift_35 : decode cX10_drift 35 = .ok (.getfield 31, 3) := by decide +kernel
theorem dX10_drift_38 : decode cX10_drift 38 = .ok (.invokevirtual 213, 3) := by decide +kernel
theorem dX10_drift_41 : decode cX10_drift 41 = .ok (.iinc 3 1, 3) := by decide +kernel
theorem dX10_drift_44 : decode cX10_drift 44 = .ok (.goto (-19), 3) := by decide +kernel
theorem dX10_drift_47 : decode cX10_drift 47 = .ok (.aload_n 0, 1) := by decide +kernel
theorem dX10_drift_48 : decode cX10_drift 48 = .ok (.getfield 31, 3) := by decide +kernel
theorem dX10_drift_51 : decode cX10_drift 51 = .ok (.getfield 151, 3) := by decide +kernel
theorem dX10_drift_54 : decode cX10_drift 54 = .ok (.ireturn, 1) := by decide +kernel
set_option maxRecDepth 20000 in
theorem ggX10_undo_X5_bringBack : GoodIn wsX10_undo wsX5_bringBack := goodIn_r _ [8, 9, 10, 11, 12, 13, 14, 15, 16, 17, 18, 19, 20, 21, 22, 23, 24, 25, 26, 27, 28, 29, 30, 31, 45, 46, 47, 48, 49, 50, 51, 52, 53, 54, 55, 56] (by decide +kernel) (by decide +kernel)
set_option maxRecDepth 20000 in
theorem gX10_undo_X5_bringBack : GoodIn wsX10_undo (wsV RX10 252 RX5 yX5_bringBack wsX5_bringBack) := goodIn_app (goodIn_of _ (by decide +kernel)) ggX10_undo_X5_bringBack
theorem dX10_undo_0 : decode cX10_undo 0 = .ok (.aload_n 0, 1) := by decide +kernel
theorem dX10_undo_1 : decode cX10_undo 1 = .ok (.getfield 38, 3) := by decide +kernel
theorem dX10_undo_4 : decode cX10_undo 4 = .ok (.aload_n 0, 1) := by decide +kernel
theorem dX10_undo_5 : decode cX10_undo 5 = .ok (.getfield 31, 3) := by decide +kernel
theorem dX10_undo_8 : decode cX10_undo 8 = .ok (.invokevirtual 252, 3) := by decide +kernel
theorem dX10_undo_11 : decode cX10_undo 11 = .ok (.ifCond .eq 13, 3) := by decide +kernel
theorem dX10_undo_14 : decode cX10_undo 14 = .ok (.aload_n 0, 1) := by decide +kernel
theorem dX10_undo_15 : decode cX10_undo 15 = .ok (.getfield 38, 3) := by decide +kernel
theorem dX10_undo_18 : decode cX10_undo 18 = .ok (.getfield 171, 3) := by decide +kernel
theorem dX10_undo_21 : decode cX10_undo 21 = .ok (.goto 5, 3) := by decide +kernel
theorem dX10_undo_24 : decode cX10_undo 24 = .ok (.ldc 219, 2) := by decide +kernel
theorem dX10_undo_26 : decode cX10_undo 26 = .ok (.ireturn, 1) := by decide +kernel
set_option maxRecDepth 20000 in
theorem ggX10_wish_X8_hasEgg : GoodIn wsX10_wish wsX8_hasEgg := goodIn_r _ [8, 9, 37, 38, 39, 40, 41, 42, 43, 44, 45, 46] (by decide +kernel) (by decide +kernel)
set_option maxRecDepth 20000 in
theorem gX10_wish_X8_hasEgg : GoodIn wsX10_wish (wsV RX10 172 RX8 yX8_hasEgg wsX8_hasEgg) := goodIn_app (goodIn_of _ (by decide +kernel)) ggX10_wish_X8_hasEgg
set_option maxRecDepth 20000 in
theorem ggX10_wish_X10_isWithin : GoodIn wsX10_wish wsX10_isWithin := goodIn_r _ [13] (by decide +kernel) (by decide +kernel)
set_option maxRecDepth 20000 in
theorem gX10_wish_X10_isWithin : GoodIn wsX10_wish (va_wsS RX10 91 yX10_isWithin wsX10_isWithin) := goodIn_app (goodIn_of _ (by decide +kernel)) ggX10_wish_X10_isWithin
set_option maxRecDepth 20000 in
theorem ggX10_wish_X8_wishOf : GoodIn wsX10_wish wsX8_wishOf := goodIn_r _ [17, 18, 19, 5, 6, 7, 8, 9, 37, 38, 39, 40, 41, 42, 43, 44, 45, 46] (by decide +kernel) (by decide +kernel)
set_option maxRecDepth 20000 in
theorem gX10_wish_X8_wishOf : GoodIn wsX10_wish (wsV RX10 194 RX8 yX8_wishOf wsX8_wishOf) := goodIn_app (goodIn_of _ (by decide +kernel)) ggX10_wish_X8_wishOf
set_option maxRecDepth 20000 in
theorem ggX10_wish_X8_setWish : GoodIn wsX10_wish wsX8_setWish := goodIn_r _ [23, 18, 19, 5, 6, 7, 8, 9, 37, 38, 39, 40, 41, 42, 43, 44, 45, 46] (by decide +kernel) (by decide +kernel)
set_option maxRecDepth 20000 in
theorem gX10_wish_X8_setWish : GoodIn wsX10_wish (wsV RX10 256 RX8 yX8_setWish wsX8_setWish) := goodIn_app (goodIn_of _ (by decide +kernel)) ggX10_wish_X8_setWish
theorem dX10_wish_0 : decode cX10_wish 0 = .ok (.aload_n 0, 1) := by decide +kernel
theorem dX10_wish_1 : decode cX10_wish 1 = .ok (.getfield 19, 3) := by decide +kernel
theorem dX10_wish_4 : decode cX10_wish 4 = .ok (.iload_n 1, 1) := by decide +kernel
theorem dX10_wish_5 : decode cX10_wish 5 = .ok (.invokevirtual 172, 3) := by decide +kernel
theorem dX10_wish_8 : decode cX10_wish 8 = .ok (.ifCond .ne 6, 3) := by decide +kernel
theorem dX10_wish_11 : decode cX10_wish 11 = .ok (.ldc 175, 2) := by decide +kernel
theorem dX10_wish_13 : decode cX10_wish 13 = .ok (.ireturn, 1) := by decide +kernel
theorem dX10_wish_14 : decode cX10_wish 14 = .ok (.iload_n 2, 1) := by decide +kernel
theorem dX10_wish_15 : decode cX10_wish 15 = .ok (.iconst 1, 1) := by decide +kernel
theorem dX10_wish_16 : decode cX10_wish 16 = .ok (.aload_n 0, 1) := by decide +kernel
theorem dX10_wish_17 : decode cX10_wish 17 = .ok (.getfield 19, 3) := by decide +kernel
theorem dX10_wish_20 : decode cX10_wish 20 = .ok (.getfield 136, 3) := by decide +kernel
theorem dX10_wish_23 : decode cX10_wish 23 = .ok (.invokestatic 91, 3) := by decide +kernel
theorem dX10_wish_26 : decode cX10_wish 26 = .ok (.ifCond .ne 6, 3) := by decide +kernel
theorem dX10_wish_29 : decode cX10_wish 29 = .ok (.ldc 95, 2) := by decide +kernel
theorem dX10_wish_31 : decode cX10_wish 31 = .ok (.ireturn, 1) := by decide +kernel
theorem dX10_wish_32 : decode cX10_wish 32 = .ok (.aload_n 0, 1) := by decide +kernel
theorem dX10_wish_33 : decode cX10_wish 33 = .ok (.getfield 19, 3) := by decide +kernel
theorem dX10_wish_36 : decode cX10_wish 36 = .ok (.iload_n 1, 1) := by decide +kernel
theorem dX10_wish_37 : decode cX10_wish 37 = .ok (.invokevirtual 194, 3) := by decide +kernel
theorem dX10_wish_40 : decode cX10_wish 40 = .ok (.istore_n 3, 1) := by decide +kernel
theorem dX10_wish_41 : decode cX10_wish 41 = .ok (.aload_n 0, 1) := by decide +kernel
theorem dX10_wish_42 : decode cX10_wish 42 = .ok (.getfield 19, 3) := by decide +kernel
theorem dX10_wish_45 : decode cX10_wish 45 = .ok (.iload_n 1, 1) := by decide +kernel
theorem dX10_wish_46 : decode cX10_wish 46 = .ok (.iload_n 2, 1) := by decide +kernel
theorem dX10_wish_47 : decode cX10_wish 47 = .ok (.invokevirtual 256, 3) := by decide +kernel
theorem dX10_wish_50 : decode cX10_wish 50 = .ok (.iload_n 3, 1) := by decide +kernel
theorem dX10_wish_51 : decode cX10_wish 51 = .ok (.ireturn, 1) := by decide +kernel
set_option maxRecDepth 20000 in
theorem ggX10_needs_X8_hasEgg : GoodIn wsX10_needs wsX8_hasEgg := goodIn_r _ [8, 9, 49, 50, 51, 52, 53, 54, 55, 56, 57, 58] (by decide +kernel) (by decide +kernel)
set_option maxRecDepth 20000 in
theorem gX10_needs_X8_hasEgg : GoodIn wsX10_needs (wsV RX10 172 RX8 yX8_hasEgg wsX8_hasEgg) := goodIn_app (goodIn_of _ (by decide +kernel)) ggX10_needs_X8_hasEgg
set_option maxRecDepth 20000 in
theorem ggX10_needs_X10_isWithin : GoodIn wsX10_needs wsX10_isWithin := goodIn_r _ [13] (by decide +kernel) (by decide +kernel)
set_option maxRecDepth 20000 in
theorem gX10_needs_X10_isWithin : GoodIn wsX10_needs (va_wsS RX10 91 yX10_isWithin wsX10_isWithin) := goodIn_app (goodIn_of _ (by decide +kernel)) ggX10_needs_X10_isWithin
set_option maxRecDepth 20000 in
theorem ggX10_needs_X8_reign : GoodIn wsX10_needs wsX8_reign := goodIn_r _ [17, 18, 19, 20, 7, 21, 22, 23, 24, 25, 26, 27, 28, 29, 30, 31, 5, 6, 8, 9, 32, 33, 34, 35, 49, 50, 51, 52, 53, 54, 55, 56, 57, 58] (by decide +kernel) (by decide +kernel)
set_option maxRecDepth 20000 in
theorem gX10_needs_X8_reign : GoodIn wsX10_needs (wsV RX10 260 RX8 yX8_reign wsX8_reign) := goodIn_app (goodIn_of _ (by decide +kernel)) ggX10_needs_X8_reign
theorem dX10_needs_0 : decode cX10_needs 0 = .ok (.aload_n 0, 1) := by decide +kernel
theorem dX10_needs_1 : decode cX10_needs 1 = .ok (.getfield 19, 3) := by decide +kernel
theorem dX10_needs_4 : decode cX10_needs 4 = .ok (.iload_n 1, 1) := by decide +kernel
theorem dX10_needs_5 : decode cX10_needs 5 = .ok (.invokevirtual 172, 3) := by decide +kernel
theorem dX10_needs_8 : decode cX10_needs 8 = .ok (.ifCond .ne 6, 3) := by decide +kernel
theorem dX10_needs_11 : decode cX10_needs 11 = .ok (.ldc 175, 2) := by decide +kernel
theorem dX10_needs_13 : decode cX10_needs 13 = .ok (.ireturn, 1) := by decide +kernel
theorem dX10_needs_14 : decode cX10_needs 14 = .ok (.iload_n 2, 1) := by decide +kernel
theorem dX10_needs_15 : decode cX10_needs 15 = .ok (.iconst 1, 1) := by decide +kernel
theorem dX10_needs_16 : decode cX10_needs 16 = .ok (.bipush 99, 2) := by decide +kernel
theorem dX10_needs_18 : decode cX10_needs 18 = .ok (.invokestatic 91, 3) := by decide +kernel
theorem dX10_needs_21 : decode cX10_needs 21 = .ok (.ifCond .ne 6, 3) := by decide +kernel
theorem dX10_needs_24 : decode cX10_needs 24 = .ok (.ldc 95, 2) := by decide +kernel
theorem dX10_needs_26 : decode cX10_needs 26 = .ok (.ireturn, 1) := by decide +kernel
theorem dX10_needs_27 : decode cX10_needs 27 = .ok (.iconst 0, 1) := by decide +kernel
theorem dX10_needs_28 : decode cX10_needs 28 = .ok (.istore_n 3, 1) := by decide +kernel
theorem dX10_needs_29 : decode cX10_needs 29 = .ok (.iload_n 3, 1) := by decide +kernel
theorem dX10_needs_30 : decode cX10_needs 30 = .ok (.aload_n 0, 1) := by decide +kernel
theorem dX10_needs_31 : decode cX10_needs 31 = .ok (.getfield 19, 3) := by decide +kernel
theorem dX10_needs_34 : decode cX10_needs 34 = .ok (.getfield 136, 3) := by decide +kernel
theorem dX10_needs_37 : decode cX10_needs 37 = .ok (.if_icmp .gt 24, 3) := by decide +kernel
theorem dX10_needs_40 : decode cX10_needs 40 = .ok (.aload_n 0, 1) := by decide +kernel
theorem dX10_needs_41 : decode cX10_needs 41 = .ok (.getfield 19, 3) := by decide +kernel
theorem dX10_needs_44 : decode cX10_needs 44 = .ok (.iload_n 1, 1) := by decide +kernel
theorem dX10_needs_45 : decode cX10_needs 45 = .ok (.iload_n 3, 1) := by decide +kernel
theorem dX10_needs_46 : decode cX10_needs 46 = .ok (.invokevirtual 260, 3) := by decide +kernel
theorem dX10_needs_49 : decode cX10_needs 49 = .ok (.iload_n 2, 1) := by decide +kernel
theorem dX10_needs_50 : decode cX10_needs 50 = .ok (.if_icmp .lt 5, 3) := by decide +kernel
theorem dX10_needs_53 : decode cX10_needs 53 = .ok (.iload_n 3, 1) := by decide +kernel
theorem dX10_needs_54 : decode cX10_needs 54 = .ok (.ireturn, 1) := by decide +kernel
theorem dX10_needs_55 : decode cX10_needs 55 = .ok (.iinc 3 1, 3) := by decide +kernel
theorem dX10_needs_58 : decode cX10_needs 58 = .ok (.goto (-29), 3) := by decide +kernel
theorem dX10_needs_61 : decode cX10_needs 61 = .ok (.iconst (-1), 1) := by decide +kernel
theorem dX10_needs_62 : decode cX10_needs 62 = .ok (.ireturn, 1) := by decide +kernel
set_option maxRecDepth 20000 in
theorem ggX10_allBoiled_X8_hasEggs : GoodIn wsX10_allBoiled wsX8_hasEggs := goodIn_r _ [9, 10, 11, 12, 13, 14, 78, 79, 80, 81, 82, 83, 84, 85, 86, 87] (by decide +kernel) (by decide +kernel)
set_option maxRecDepth 20000 in
theorem gX10_allBoiled_X8_hasEggs : GoodIn wsX10_allBoiled (wsV RX10 263 RX8 yX8_hasEggs wsX8_hasEggs) := goodIn_app (goodIn_of _ (by decide +kernel)) ggX10_allBoiled_X8_hasEggs
set_option maxRecDepth 20000 in
theorem ggX10_allBoiled_X8_hasEgg : GoodIn wsX10_allBoiled wsX8_hasEgg := goodIn_r _ [18, 10, 78, 79, 80, 81, 82, 83, 84, 85, 86, 87] (by decide +kernel) (by decide +kernel)
set_option maxRecDepth 20000 in
theorem gX10_allBoiled_X8_hasEgg : GoodIn wsX10_allBoiled (wsV RX10 172 RX8 yX8_hasEgg wsX8_hasEgg) := goodIn_app (goodIn_of _ (by decide +kernel)) ggX10_allBoiled_X8_hasEgg
set_option maxRecDepth 20000 in
theorem ggX10_allBoiled_X8_isLaid : GoodIn wsX10_allBoiled wsX8_isLaid := goodIn_r _ [22, 23, 78, 79, 80, 81, 82, 83, 84, 85, 86, 87] (by decide +kernel) (by decide +kernel)
set_option maxRecDepth 20000 in
theorem gX10_allBoiled_X8_isLaid : GoodIn wsX10_allBoiled (wsV RX10 239 RX8 yX8_isLaid wsX8_isLaid) := goodIn_app (goodIn_of _ (by decide +kernel)) ggX10_allBoiled_X8_isLaid
set_option maxRecDepth 20000 in
theorem ggX10_allBoiled_X0_tryAll : GoodIn wsX10_allBoiled wsX0_tryAll := goodIn_r _ [28, 29, 12, 13, 14, 30, 31, 32, 33, 34, 35, 36, 37, 38, 8, 39, 40, 41, 16, 17, 18, 10, 42, 43, 27, 44, 45, 46, 47, 48, 49, 50, 51, 52, 53, 54, 55, 56, 78, 79, 80, 81, 82, 83, 84, 85, 86, 87, 88, 89, 90, 91, 92, 93] (by decide +kernel) (by decide +kernel)
set_option maxRecDepth 20000 in
theorem gX10_allBoiled_X0_tryAll : GoodIn wsX10_allBoiled (wsV RX10 266 RX0 yX0_tryAll wsX0_tryAll) := goodIn_app (goodIn_of _ (by decide +kernel)) ggX10_allBoiled_X0_tryAll
set_option maxRecDepth 20000 in
theorem ggX10_allBoiled_X0_fewest : GoodIn wsX10_allBoiled wsX0_fewest := goodIn_r _ [60, 32, 88, 89, 90, 91, 92, 93] (by decide +kernel) (by decide +kernel)
set_option maxRecDepth 20000 in
theorem gX10_allBoiled_X0_fewest : GoodIn wsX10_allBoiled (wsV RX10 270 RX0 yX0_fewest wsX0_fewest) := goodIn_app (goodIn_of _ (by decide +kernel)) ggX10_allBoiled_X0_fewest
set_option maxRecDepth 20000 in
theorem ggX10_allBoiled_X0_placeOf : GoodIn wsX10_allBoiled wsX0_placeOf := goodIn_r _ [64, 52, 88, 89, 90, 91, 92, 93] (by decide +kernel) (by decide +kernel)
set_option maxRecDepth 20000 in
theorem gX10_allBoiled_X0_placeOf : GoodIn wsX10_allBoiled (wsV RX10 273 RX0 yX0_placeOf wsX0_placeOf) := goodIn_app (goodIn_of _ (by decide +kernel)) ggX10_allBoiled_X0_placeOf
theorem dX10_allBoiled_0 : decode cX10_allBoiled 0 = .ok (.iload_n 2, 1) := by decide +kernel
theorem dX10_allBoiled_1 : decode cX10_allBoiled 1 = .ok (.iconst (-1), 1) := by decide +kernel
theorem dX10_allBoiled_2 : decode cX10_allBoiled 2 = .ok (.if_icmp .ne 7, 3) := by decide +kernel
theorem dX10_allBoiled_5 : decode cX10_allBoiled 5 = .ok (.iconst 1, 1) := by decide +kernel
theorem dX10_allBoiled_6 : decode cX10_allBoiled 6 = .ok (.goto 4, 3) := by decide +kernel
theorem dX10_allBoiled_9 : decode cX10_allBoiled 9 = .ok (.iconst 0, 1) := by decide +kernel
theorem dX10_allBoiled_10 : decode cX10_allBoiled 10 = .ok (.istore_n 3, 1) := by decide +kernel
theorem dX10_allBoiled_11 : decode cX10_allBoiled 11 = .ok (.aload_n 0, 1) := by decide +kernel
theorem dX10_allBoiled_12 : decode cX10_allBoiled 12 = .ok (.getfield 19, 3) := by decide +kernel
theorem dX10_allBoiled_15 : decode cX10_allBoiled 15 = .ok (.iload_n 1, 1) := by decide +kernel
theorem dX10_allBoiled_16 : decode cX10_allBoiled 16 = .ok (.invokevirtual 263, 3) := by decide +kernel
theorem dX10_allBoiled_19 : decode cX10_allBoiled 19 = .ok (.ifCond .eq 18, 3) := by decide +kernel
theorem dX10_allBoiled_22 : decode cX10_allBoiled 22 = .ok (.iload_n 3, 1) := by decide +kernel
theorem dX10_allBoiled_23 : decode cX10_allBoiled 23 = .ok (.ifCond .ne 17, 3) := by decide +kernel
theorem dX10_allBoiled_26 : decode cX10_allBoiled 26 = .ok (.aload_n 0, 1) := by decide +kernel
theorem dX10_allBoiled_27 : decode cX10_allBoiled 27 = .ok (.getfield 19, 3) := by decide +kernel
theorem dX10_allBoiled_30 : decode cX10_allBoiled 30 = .ok (.iload_n 2, 1) := by decide +kernel
theorem dX10_allBoiled_31 : decode cX10_allBoiled 31 = .ok (.invokevirtual 172, 3) := by decide +kernel
theorem dX10_allBoiled_34 : decode cX10_allBoiled 34 = .ok (.ifCond .ne 6, 3) := by decide +kernel
theorem dX10_allBoiled_37 : decode cX10_allBoiled 37 = .ok (.ldc 175, 2) := by decide +kernel
theorem dX10_allBoiled_39 : decode cX10_allBoiled 39 = .ok (.ireturn, 1) := by decide +kernel
theorem dX10_allBoiled_40 : decode cX10_allBoiled 40 = .ok (.aload_n 0, 1) := by decide +kernel
theorem dX10_allBoiled_41 : decode cX10_allBoiled 41 = .ok (.getfield 19, 3) := by decide +kernel
theorem dX10_allBoiled_44 : decode cX10_allBoiled 44 = .ok (.invokevirtual 239, 3) := by decide +kernel
theorem dX10_allBoiled_47 : decode cX10_allBoiled 47 = .ok (.ifCond .ne 6, 3) := by decide +kernel
theorem dX10_allBoiled_50 : decode cX10_allBoiled 50 = .ok (.ldc 219, 2) := by decide +kernel
theorem dX10_allBoiled_52 : decode cX10_allBoiled 52 = .ok (.ireturn, 1) := by decide +kernel
theorem dX10_allBoiled_53 : decode cX10_allBoiled 53 = .ok (.aload_n 0, 1) := by decide +kernel
theorem dX10_allBoiled_54 : decode cX10_allBoiled 54 = .ok (.getfield 66, 3) := by decide +kernel
theorem dX10_allBoiled_57 : decode cX10_allBoiled 57 = .ok (.aload_n 0, 1) := by decide +kernel
theorem dX10_allBoiled_58 : decode cX10_allBoiled 58 = .ok (.getfield 19, 3) := by decide +kernel
theorem dX10_allBoiled_61 : decode cX10_allBoiled 61 = .ok (.iload_n 1, 1) := by decide +kernel
theorem dX10_allBoiled_62 : decode cX10_allBoiled 62 = .ok (.invokevirtual 266, 3) := by decide +kernel
theorem dX10_allBoiled_65 : decode cX10_allBoiled 65 = .ok (.iload_n 3, 1) := by decide +kernel
theorem dX10_allBoiled_66 : decode cX10_allBoiled 66 = .ok (.ifCond .eq 13, 3) := by decide +kernel
theorem dX10_allBoiled_69 : decode cX10_allBoiled 69 = .ok (.aload_n 0, 1) := by decide +kernel
theorem dX10_allBoiled_70 : decode cX10_allBoiled 70 = .ok (.getfield 66, 3) := by decide +kernel
theorem dX10_allBoiled_73 : decode cX10_allBoiled 73 = .ok (.invokevirtual 270, 3) := by decide +kernel
theorem dX10_allBoiled_76 : decode cX10_allBoiled 76 = .ok (.goto 11, 3) := by decide +kernel
theorem dX10_allBoiled_79 : decode cX10_allBoiled 79 = .ok (.aload_n 0, 1) := by decide +kernel
theorem dX10_allBoiled_80 : decode cX10_allBoiled 80 = .ok (.getfield 66, 3) := by decide +kernel
theorem dX10_allBoiled_83 : decode cX10_allBoiled 83 = .ok (.iload_n 2, 1) := by decide +kernel
theorem dX10_allBoiled_84 : decode cX10_allBoiled 84 = .ok (.invokevirtual 273, 3) := by decide +kernel
theorem dX10_allBoiled_87 : decode cX10_allBoiled 87 = .ok (.ireturn, 1) := by decide +kernel
set_option maxRecDepth 20000 in
theorem ggX10_dynasty_X10_isWithin : GoodIn wsX10_dynasty wsX10_isWithin := goodIn_r _ [7] (by decide +kernel) (by decide +kernel)
set_option maxRecDepth 20000 in
theorem gX10_dynasty_X10_isWithin : GoodIn wsX10_dynasty (va_wsS RX10 91 yX10_isWithin wsX10_isWithin) := goodIn_app (goodIn_of _ (by decide +kernel)) ggX10_dynasty_X10_isWithin
set_option maxRecDepth 20000 in
theorem ggX10_dynasty_X7_tryAll : GoodIn wsX10_dynasty wsX7_tryAll := goodIn_r _ [12, 13, 14, 15, 16, 17, 18, 19, 20, 21, 22, 23, 24, 25, 26, 27, 28, 29, 30, 31, 32, 33, 34, 35, 11, 36, 37, 38, 39, 40, 41, 42, 43, 44, 45, 46, 47, 48, 49, 50, 51, 52, 53, 54, 55, 56, 57, 58, 59, 60, 61, 62, 63, 64, 65, 66, 67, 68, 69, 70, 71, 72, 73, 74, 88, 89, 90, 91, 92, 93, 94, 95, 96, 97, 98, 99, 100, 101, 102, 103, 104, 105, 106, 107, 108, 109] (by decide +kernel) (by decide +kernel)
set_option maxRecDepth 20000 in
theorem gX10_dynasty_X7_tryAll : GoodIn wsX10_dynasty (wsV RX10 276 RX7 yX7_tryAll wsX7_tryAll) := goodIn_app (goodIn_of _ (by decide +kernel)) ggX10_dynasty_X7_tryAll
theorem dX10_dynasty_0 : decode cX10_dynasty 0 = .ok (.iload_n 1, 1) := by decide +kernel
theorem dX10_dynasty_1 : decode cX10_dynasty 1 = .ok (.iconst 0, 1) := by decide +kernel
theorem dX10_dynasty_2 : decode cX10_dynasty 2 = .ok (.iconst 2, 1) := by decide +kernel
theorem dX10_dynasty_3 : decode cX10_dynasty 3 = .ok (.invokestatic 91, 3) := by decide +kernel
theorem dX10_dynasty_6 : decode cX10_dynasty 6 = .ok (.ifCond .ne 6, 3) := by decide +kernel
theorem dX10_dynasty_9 : decode cX10_dynasty 9 = .ok (.ldc 95, 2) := by decide +kernel
theorem dX10_dynasty_11 : decode cX10_dynasty 11 = .ok (.ireturn, 1) := by decide +kernel
theorem dX10_dynasty_12 : decode cX10_dynasty 12 = .ok (.aload_n 0, 1) := by decide +kernel
theorem dX10_dynasty_13 : decode cX10_dynasty 13 = .ok (.getfield 73, 3) := by decide +kernel
theorem dX10_dynasty_16 : decode cX10_dynasty 16 = .ok (.aload_n 0, 1) := by decide +kernel
theorem dX10_dynasty_17 : decode cX10_dynasty 17 = .ok (.getfield 31, 3) := by decide +kernel
theorem dX10_dynasty_20 : decode cX10_dynasty 20 = .ok (.invokevirtual 276, 3) := by decide +kernel
theorem dX10_dynasty_23 : decode cX10_dynasty 23 = .ok (.iload_n 1, 1) := by decide +kernel
theorem dX10_dynasty_24 : decode cX10_dynasty 24 = .ok (.lookupswitch 44 #[(0, 28), (1, 36)], 28) := by decide +kernel
theorem dX10_dynasty_52 : decode cX10_dynasty 52 = .ok (.aload_n 0, 1) := by decide +kernel
theorem dX10_dynasty_53 : decode cX10_dynasty 53 = .ok (.getfield 73, 3) := by decide +kernel
theorem dX10_dynasty_56 : decode cX10_dynasty 56 = .ok (.getfield 278, 3) := by decide +kernel
theorem dX10_dynasty_59 : decode cX10_dynasty 59 = .ok (.ireturn, 1) := by decide +kernel
theorem dX10_dynasty_60 : decode cX10_dynasty 60 = .ok (.aload_n 0, 1) := by decide +kernel
theorem dX10_dynasty_61 : decode cX10_dynasty 61 = .ok (.getfield 73, 3) := by decide +kernel
theorem dX10_dynasty_64 : decode cX10_dynasty 64 = .ok (.getfield 281, 3) := by decide +kernel
theorem dX10_dynasty_67 : decode cX10_dynasty 67 = .ok (.ireturn, 1) := by decide +kernel
theorem dX10_dynasty_68 : decode cX10_dynasty 68 = .ok (.aload_n 0, 1) := by decide +kernel
theorem dX10_dynasty_69 : decode cX10_dynasty 69 = .ok (.getfield 73, 3) := by decide +kernel
theorem dX10_dynasty_72 : decode cX10_dynasty 72 = .ok (.getfield 282, 3) := by decide +kernel
theorem dX10_dynasty_75 : decode cX10_dynasty 75 = .ok (.ireturn, 1) := by decide +kernel
set_option maxRecDepth 20000 in
theorem ggX10_liked_X8_hasEater : GoodIn wsX10_liked wsX8_hasEater := goodIn_r _ [9, 10, 108, 109, 110, 111, 112, 113, 114, 115, 116, 117] (by decide +kernel) (by decide +kernel)
set_option maxRecDepth 20000 in
theorem gX10_liked_X8_hasEater : GoodIn wsX10_liked (wsV RX10 197 RX8 yX8_hasEater wsX8_hasEater) := goodIn_app (goodIn_of _ (by decide +kernel)) ggX10_liked_X8_hasEater
set_option maxRecDepth 20000 in
theorem ggX10_liked_X6_ask : GoodIn wsX10_liked wsX6_ask := goodIn_r _ [15, 16, 17, 6, 7, 8, 9, 10, 18, 19, 14, 20, 21, 22, 23, 24, 25, 26, 27, 28, 29, 30, 31, 32, 33, 34, 35, 36, 37, 38, 39, 40, 41, 42, 43, 44, 45, 46, 47, 48, 49, 50, 51, 52, 53, 54, 55, 56, 57, 58, 59, 60, 61, 62, 63, 64, 65, 66, 67, 68, 69, 118, 108, 109, 110, 111, 112, 113, 114, 115, 116, 117, 119, 120, 121, 122, 123, 124, 125, 126, 127] (by decide +kernel) (by decide +kernel)
set_option maxRecDepth 20000 in
theorem gX10_liked_X6_ask : GoodIn wsX10_liked (wsV RX10 285 RX6 yX6_ask wsX6_ask) := goodIn_app (goodIn_of _ (by decide +kernel)) ggX10_liked_X6_ask
set_option maxRecDepth 20000 in
theorem ggX10_liked_X6_most : GoodIn wsX10_liked wsX6_most := goodIn_r _ [73, 16, 74, 75, 14, 76, 77, 49, 50, 51, 78, 53, 54, 79, 80, 81, 82, 83, 84, 85, 118] (by decide +kernel) (by decide +kernel)
set_option maxRecDepth 20000 in
theorem gX10_liked_X6_most : GoodIn wsX10_liked (wsV RX10 289 RX6 yX6_most wsX6_most) := goodIn_app (goodIn_of _ (by decide +kernel)) ggX10_liked_X6_most
set_option maxRecDepth 20000 in
theorem ggX10_liked_X6_eggFor : GoodIn wsX10_liked wsX6_eggFor := goodIn_r _ [89, 90, 71, 72, 14, 73, 16, 74, 75, 76, 77, 49, 50, 51, 78, 53, 54, 79, 80, 81, 82, 83, 84, 85, 91, 92, 93, 94, 118] (by decide +kernel) (by decide +kernel)
set_option maxRecDepth 20000 in
theorem gX10_liked_X6_eggFor : GoodIn wsX10_liked (wsV RX10 292 RX6 yX6_eggFor wsX6_eggFor) := goodIn_app (goodIn_of _ (by decide +kernel)) ggX10_liked_X6_eggFor
theorem dX10_liked_0 : decode cX10_liked 0 = .ok (.iload_n 1, 1) := by decide +kernel
theorem dX10_liked_1 : decode cX10_liked 1 = .ok (.iconst (-1), 1) := by decide +kernel
theorem dX10_liked_2 : decode cX10_liked 2 = .ok (.if_icmp .ne 7, 3) := by decide +kernel
theorem dX10_liked_5 : decode cX10_liked 5 = .ok (.iconst 1, 1) := by decide +kernel
theorem dX10_liked_6 : decode cX10_liked 6 = .ok (.goto 4, 3) := by decide +kernel
theorem dX10_liked_9 : decode cX10_liked 9 = .ok (.iconst 0, 1) := by decide +kernel
theorem dX10_liked_10 : decode cX10_liked 10 = .ok (.istore_n 2, 1) := by decide +kernel
theorem dX10_liked_11 : decode cX10_liked 11 = .ok (.iload_n 2, 1) := by decide +kernel
theorem dX10_liked_12 : decode cX10_liked 12 = .ok (.ifCond .ne 17, 3) := by decide +kernel
theorem dX10_liked_15 : decode cX10_liked 15 = .ok (.aload_n 0, 1) := by decide +kernel
theorem dX10_liked_16 : decode cX10_liked 16 = .ok (.getfield 19, 3) := by decide +kernel
theorem dX10_liked_19 : decode cX10_liked 19 = .ok (.iload_n 1, 1) := by decide +kernel
theorem dX10_liked_20 : decode cX10_liked 20 = .ok (.invokevirtual 197, 3) := by decide +kernel
theorem dX10_liked_23 : decode cX10_liked 23 = .ok (.ifCond .ne 6, 3) := by decide +kernel
theorem dX10_liked_26 : decode cX10_liked 26 = .ok (.ldc 175, 2) := by decide +kernel
theorem dX10_liked_28 : decode cX10_liked 28 = .ok (.ireturn, 1) := by decide +kernel
theorem dX10_liked_29 : decode cX10_liked 29 = .ok (.aload_n 0, 1) := by decide +kernel
theorem dX10_liked_30 : decode cX10_liked 30 = .ok (.getfield 80, 3) := by decide +kernel
theorem dX10_liked_33 : decode cX10_liked 33 = .ok (.aload_n 0, 1) := by decide +kernel
theorem dX10_liked_34 : decode cX10_liked 34 = .ok (.getfield 19, 3) := by decide +kernel
theorem dX10_liked_37 : decode cX10_liked 37 = .ok (.aload_n 0, 1) := by decide +kernel
theorem dX10_liked_38 : decode cX10_liked 38 = .ok (.getfield 31, 3) := by decide +kernel
theorem dX10_liked_41 : decode cX10_liked 41 = .ok (.invokevirtual 285, 3) := by decide +kernel
theorem dX10_liked_44 : decode cX10_liked 44 = .ok (.iload_n 2, 1) := by decide +kernel
theorem dX10_liked_45 : decode cX10_liked 45 = .ok (.ifCond .eq 13, 3) := by decide +kernel
theorem dX10_liked_48 : decode cX10_liked 48 = .ok (.aload_n 0, 1) := by decide +kernel
theorem dX10_liked_49 : decode cX10_liked 49 = .ok (.getfield 80, 3) := by decide +kernel
theorem dX10_liked_52 : decode cX10_liked 52 = .ok (.invokevirtual 289, 3) := by decide +kernel
theorem dX10_liked_55 : decode cX10_liked 55 = .ok (.goto 11, 3) := by decide +kernel
theorem dX10_liked_58 : decode cX10_liked 58 = .ok (.aload_n 0, 1) := by decide +kernel
theorem dX10_liked_59 : decode cX10_liked 59 = .ok (.getfield 80, 3) := by decide +kernel
theorem dX10_liked_62 : decode cX10_liked 62 = .ok (.iload_n 1, 1) := by decide +kernel
theorem dX10_liked_63 : decode cX10_liked 63 = .ok (.invokevirtual 292, 3) := by decide +kernel
theorem dX10_liked_66 : decode cX10_liked 66 = .ok (.ireturn, 1) := by decide +kernel
set_option maxRecDepth 20000 in
theorem ggX10_goose_X8_hasEater : GoodIn wsX10_goose wsX8_hasEater := goodIn_r _ [8, 9, 27, 28, 29, 30, 31, 32, 33, 34, 35, 36] (by decide +kernel) (by decide +kernel)
set_option maxRecDepth 20000 in
theorem gX10_goose_X8_hasEater : GoodIn wsX10_goose (wsV RX10 197 RX8 yX8_hasEater wsX8_hasEater) := goodIn_app (goodIn_of _ (by decide +kernel)) ggX10_goose_X8_hasEater
set_option maxRecDepth 20000 in
theorem ggX10_goose_X10_isWithin : GoodIn wsX10_goose wsX10_isWithin := goodIn_r _ [13] (by decide +kernel) (by decide +kernel)
set_option maxRecDepth 20000 in
theorem gX10_goose_X10_isWithin : GoodIn wsX10_goose (va_wsS RX10 91 yX10_isWithin wsX10_isWithin) := goodIn_app (goodIn_of _ (by decide +kernel)) ggX10_goose_X10_isWithin
theorem dX10_goose_0 : decode cX10_goose 0 = .ok (.aload_n 0, 1) := by decide +kernel
theorem dX10_goose_1 : decode cX10_goose 1 = .ok (.getfield 19, 3) := by decide +kernel
theorem dX10_goose_4 : decode cX10_goose 4 = .ok (.iload_n 2, 1) := by decide +kernel
theorem dX10_goose_5 : decode cX10_goose 5 = .ok (.invokevirtual 197, 3) := by decide +kernel
theorem dX10_goose_8 : decode cX10_goose 8 = .ok (.ifCond .eq 13, 3) := by decide +kernel
theorem dX10_goose_11 : decode cX10_goose 11 = .ok (.aload_n 0, 1) := by decide +kernel
theorem dX10_goose_12 : decode cX10_goose 12 = .ok (.getfield 19, 3) := by decide +kernel
theorem dX10_goose_15 : decode cX10_goose 15 = .ok (.getfield 139, 3) := by decide +kernel
theorem dX10_goose_18 : decode cX10_goose 18 = .ok (.ifCond .gt 6, 3) := by decide +kernel
theorem dX10_goose_21 : decode cX10_goose 21 = .ok (.ldc 175, 2) := by decide +kernel
theorem dX10_goose_23 : decode cX10_goose 23 = .ok (.ireturn, 1) := by decide +kernel
theorem dX10_goose_24 : decode cX10_goose 24 = .ok (.iload_n 1, 1) := by decide +kernel
theorem dX10_goose_25 : decode cX10_goose 25 = .ok (.iconst 0, 1) := by decide +kernel
theorem dX10_goose_26 : decode cX10_goose 26 = .ok (.sipush 999, 3) := by decide +kernel
theorem dX10_goose_29 : decode cX10_goose 29 = .ok (.invokestatic 91, 3) := by decide +kernel
theorem dX10_goose_32 : decode cX10_goose 32 = .ok (.ifCond .ne 6, 3) := by decide +kernel
theorem dX10_goose_35 : decode cX10_goose 35 = .ok (.ldc 95, 2) := by decide +kernel
theorem dX10_goose_37 : decode cX10_goose 37 = .ok (.ireturn, 1) := by decide +kernel
theorem dX10_goose_38 : decode cX10_goose 38 = .ok (.iload_n 1, 1) := by decide +kernel
theorem dX10_goose_39 : decode cX10_goose 39 = .ok (.aload_n 0, 1) := by decide +kernel
theorem dX10_goose_40 : decode cX10_goose 40 = .ok (.getfield 19, 3) := by decide +kernel
theorem dX10_goose_43 : decode cX10_goose 43 = .ok (.getfield 139, 3) := by decide +kernel
theorem dX10_goose_46 : decode cX10_goose 46 = .ok (.irem, 1) := by decide +kernel
theorem dX10_goose_47 : decode cX10_goose 47 = .ok (.istore_n 3, 1) := by decide +kernel
theorem dX10_goose_48 : decode cX10_goose 48 = .ok (.iload_n 1, 1) := by decide +kernel
theorem dX10_goose_49 : decode cX10_goose 49 = .ok (.aload_n 0, 1) := by decide +kernel
theorem dX10_goose_50 : decode cX10_goose 50 = .ok (.getfield 19, 3) := by decide +kernel
theorem dX10_goose_53 : decode cX10_goose 53 = .ok (.getfield 139, 3) := by decide +kernel
theorem dX10_goose_56 : decode cX10_goose 56 = .ok (.idiv, 1) := by decide +kernel
theorem dX10_goose_57 : decode cX10_goose 57 = .ok (.iload_n 2, 1) := by decide +kernel
theorem dX10_goose_58 : decode cX10_goose 58 = .ok (.iload_n 3, 1) := by decide +kernel
theorem dX10_goose_59 : decode cX10_goose 59 = .ok (.if_icmp .ge 7, 3) := by decide +kernel
theorem dX10_goose_62 : decode cX10_goose 62 = .ok (.iconst 1, 1) := by decide +kernel
theorem dX10_goose_63 : decode cX10_goose 63 = .ok (.goto 4, 3) := by decide +kernel
theorem dX10_goose_66 : decode cX10_goose 66 = .ok (.iconst 0, 1) := by decide +kernel
theorem dX10_goose_67 : decode cX10_goose 67 = .ok (.iadd, 1) := by decide +kernel
theorem dX10_goose_68 : decode cX10_goose 68 = .ok (.ireturn, 1) := by decide +kernel
set_option maxRecDepth 20000 in
theorem ggX10_whole_X10_isWithin : GoodIn wsX10_whole wsX10_isWithin := goodIn_r _ [7] (by decide +kernel) (by decide +kernel)
set_option maxRecDepth 20000 in
theorem gX10_whole_X10_isWithin : GoodIn wsX10_whole (va_wsS RX10 91 yX10_isWithin wsX10_isWithin) := goodIn_app (goodIn_of _ (by decide +kernel)) ggX10_whole_X10_isWithin
theorem dX10_whole_0 : decode cX10_whole 0 = .ok (.iload_n 1, 1) := by decide +kernel
theorem dX10_whole_1 : decode cX10_whole 1 = .ok (.iconst 0, 1) := by decide +kernel
theorem dX10_whole_2 : decode cX10_whole 2 = .ok (.bipush 60, 2) := by decide +kernel
theorem dX10_whole_4 : decode cX10_whole 4 = .ok (.invokestatic 91, 3) := by decide +kernel
theorem dX10_whole_7 : decode cX10_whole 7 = .ok (.ifCond .eq 13, 3) := by decide +kernel
theorem dX10_whole_10 : decode cX10_whole 10 = .ok (.iload_n 2, 1) := by decide +kernel
theorem dX10_whole_11 : decode cX10_whole 11 = .ok (.iconst 0, 1) := by decide +kernel
theorem dX10_whole_12 : decode cX10_whole 12 = .ok (.bipush 100, 2) := by decide +kernel
theorem dX10_whole_14 : decode cX10_whole 14 = .ok (.invokestatic 91, 3) := by decide +kernel
theorem dX10_whole_17 : decode cX10_whole 17 = .ok (.ifCond .ne 6, 3) := by decide +kernel
theorem dX10_whole_20 : decode cX10_whole 20 = .ok (.ldc 95, 2) := by decide +kernel
theorem dX10_whole_22 : decode cX10_whole 22 = .ok (.ireturn, 1) := by decide +kernel
theorem dX10_whole_23 : decode cX10_whole 23 = .ok (.ldc2_w 295, 3) := by decide +kernel
theorem dX10_whole_26 : decode cX10_whole 26 = .ok (.lstore_n 3, 1) := by decide +kernel
theorem dX10_whole_27 : decode cX10_whole 27 = .ok (.iconst 0, 1) := by decide +kernel
theorem dX10_whole_28 : decode cX10_whole 28 = .ok (.istore 5, 2) := by decide +kernel
theorem dX10_whole_30 : decode cX10_whole 30 = .ok (.iload 5, 2) := by decide +kernel
theorem dX10_whole_32 : decode cX10_whole 32 = .ok (.iload_n 1, 1) := by decide +kernel
theorem dX10_whole_33 : decode cX10_whole 33 = .ok (.if_icmp .ge 21, 3) := by decide +kernel
theorem dX10_whole_36 : decode cX10_whole 36 = .ok (.lload_n 3, 1) := by decide +kernel
theorem dX10_whole_37 : decode cX10_whole 37 = .ok (.bipush 100, 2) := by decide +kernel
theorem dX10_whole_39 : decode cX10_whole 39 = .ok (.iload_n 2, 1) := by decide +kernel
theorem dX10_whole_40 : decode cX10_whole 40 = .ok (.isub, 1) := by decide +kernel
theorem dX10_whole_41 : decode cX10_whole 41 = .ok (.i2l, 1) := by decide +kernel
theorem dX10_whole_42 : decode cX10_whole 42 = .ok (.lmul, 1) := by decide +kernel
theorem dX10_whole_43 : decode cX10_whole 43 = .ok (.ldc2_w 297, 3) := by decide +kernel
theorem dX10_whole_46 : decode cX10_whole 46 = .ok (.ldiv, 1) := by decide +kernel
theorem dX10_whole_47 : decode cX10_whole 47 = .ok (.lstore_n 3, 1) := by decide +kernel
theorem dX10_whole_48 : decode cX10_whole 48 = .ok (.iinc 5 1, 3) := by decide +kernel
theorem dX10_whole_51 : decode cX10_whole 51 = .ok (.goto (-21), 3) := by decide +kernel
theorem dX10_whole_54 : decode cX10_whole 54 = .ok (.lload_n 3, 1) := by decide +kernel
theorem dX10_whole_55 : decode cX10_whole 55 = .ok (.l2i, 1) := by decide +kernel
theorem dX10_whole_56 : decode cX10_whole 56 = .ok (.ireturn, 1) := by decide +kernel
set_option maxRecDepth 20000 in
theorem ggX10_see_X10_isWithin : GoodIn wsX10_see wsX10_isWithin := goodIn_r _ [7] (by decide +kernel) (by decide +kernel)
set_option maxRecDepth 20000 in
theorem gX10_see_X10_isWithin : GoodIn wsX10_see (va_wsS RX10 91 yX10_isWithin wsX10_isWithin) := goodIn_app (goodIn_of _ (by decide +kernel)) ggX10_see_X10_isWithin
set_option maxRecDepth 20000 in
theorem ggX10_see_X2_add : GoodIn wsX10_see wsX2_add := goodIn_r _ [12, 13, 14, 15, 29, 30, 31] (by decide +kernel) (by decide +kernel)
set_option maxRecDepth 20000 in
theorem gX10_see_X2_add : GoodIn wsX10_see (wsV RX10 299 RX2 yX2_add wsX2_add) := goodIn_app (goodIn_of _ (by decide +kernel)) ggX10_see_X2_add
theorem dX10_see_0 : decode cX10_see 0 = .ok (.iload_n 1, 1) := by decide +kernel
theorem dX10_see_1 : decode cX10_see 1 = .ok (.iconst 1, 1) := by decide +kernel
theorem dX10_see_2 : decode cX10_see 2 = .ok (.bipush 9, 2) := by decide +kernel
theorem dX10_see_4 : decode cX10_see 4 = .ok (.invokestatic 91, 3) := by decide +kernel
theorem dX10_see_7 : decode cX10_see 7 = .ok (.ifCond .eq 13, 3) := by decide +kernel
theorem dX10_see_10 : decode cX10_see 10 = .ok (.iload_n 2, 1) := by decide +kernel
theorem dX10_see_11 : decode cX10_see 11 = .ok (.iconst 0, 1) := by decide +kernel
theorem dX10_see_12 : decode cX10_see 12 = .ok (.bipush 30, 2) := by decide +kernel
theorem dX10_see_14 : decode cX10_see 14 = .ok (.invokestatic 91, 3) := by decide +kernel
theorem dX10_see_17 : decode cX10_see 17 = .ok (.ifCond .ne 6, 3) := by decide +kernel
theorem dX10_see_20 : decode cX10_see 20 = .ok (.ldc 95, 2) := by decide +kernel
theorem dX10_see_22 : decode cX10_see 22 = .ok (.ireturn, 1) := by decide +kernel
theorem dX10_see_23 : decode cX10_see 23 = .ok (.aload_n 0, 1) := by decide +kernel
theorem dX10_see_24 : decode cX10_see 24 = .ok (.getfield 52, 3) := by decide +kernel
theorem dX10_see_27 : decode cX10_see 27 = .ok (.iload_n 1, 1) := by decide +kernel
theorem dX10_see_28 : decode cX10_see 28 = .ok (.iload_n 2, 1) := by decide +kernel
theorem dX10_see_29 : decode cX10_see 29 = .ok (.invokevirtual 299, 3) := by decide +kernel
theorem dX10_see_32 : decode cX10_see 32 = .ok (.ifCond .eq 13, 3) := by decide +kernel
theorem dX10_see_35 : decode cX10_see 35 = .ok (.aload_n 0, 1) := by decide +kernel
theorem dX10_see_36 : decode cX10_see 36 = .ok (.getfield 52, 3) := by decide +kernel
theorem dX10_see_39 : decode cX10_see 39 = .ok (.getfield 167, 3) := by decide +kernel
theorem dX10_see_42 : decode cX10_see 42 = .ok (.goto 5, 3) := by decide +kernel
theorem dX10_see_45 : decode cX10_see 45 = .ok (.ldc 104, 2) := by decide +kernel
theorem dX10_see_47 : decode cX10_see 47 = .ok (.ireturn, 1) := by decide +kernel
set_option maxRecDepth 20000 in
theorem ggX10_ages_X2_fittingAges : GoodIn wsX10_ages wsX2_fittingAges := goodIn_r _ [6, 7, 8, 9, 5, 10, 11, 12, 13, 27, 28, 29] (by decide +kernel) (by decide +kernel)
set_option maxRecDepth 20000 in
theorem gX10_ages_X2_fittingAges : GoodIn wsX10_ages (wsV RX10 302 RX2 yX2_fittingAges wsX2_fittingAges) := goodIn_app (goodIn_of _ (by decide +kernel)) ggX10_ages_X2_fittingAges
theorem dX10_ages_0 : decode cX10_ages 0 = .ok (.aload_n 0, 1) := by decide +kernel
theorem dX10_ages_1 : decode cX10_ages 1 = .ok (.getfield 52, 3) := by decide +kernel
theorem dX10_ages_4 : decode cX10_ages 4 = .ok (.invokevirtual 302, 3) := by decide +kernel
theorem dX10_ages_7 : decode cX10_ages 7 = .ok (.ireturn, 1) := by decide +kernel
set_option maxRecDepth 20000 in
theorem ggX10_testNext_X2_bestTest : GoodIn wsX10_testNext wsX2_bestTest := goodIn_r _ [6, 7, 8, 9, 5, 10, 11, 12, 13, 14, 15, 16, 17, 18, 19, 20, 21, 22, 23, 24, 25, 26, 27, 28, 29, 30, 31, 45, 46, 47] (by decide +kernel) (by decide +kernel)
set_option maxRecDepth 20000 in
theorem gX10_testNext_X2_bestTest : GoodIn wsX10_testNext (wsV RX10 305 RX2 yX2_bestTest wsX2_bestTest) := goodIn_app (goodIn_of _ (by decide +kernel)) ggX10_testNext_X2_bestTest
theorem dX10_testNext_0 : decode cX10_testNext 0 = .ok (.aload_n 0, 1) := by decide +kernel
theorem dX10_testNext_1 : decode cX10_testNext 1 = .ok (.getfield 52, 3) := by decide +kernel
theorem dX10_testNext_4 : decode cX10_testNext 4 = .ok (.invokevirtual 305, 3) := by decide +kernel
theorem dX10_testNext_7 : decode cX10_testNext 7 = .ok (.ireturn, 1) := by decide +kernel
set_option maxRecDepth 20000 in
theorem ggX10_write_X8_hasEgg : GoodIn wsX10_write wsX8_hasEgg := goodIn_r _ [10, 11, 40, 41, 42, 43, 44, 45, 46, 47, 48, 49] (by decide +kernel) (by decide +kernel)
set_option maxRecDepth 20000 in
theorem gX10_write_X8_hasEgg : GoodIn wsX10_write (wsV RX10 172 RX8 yX8_hasEgg wsX8_hasEgg) := goodIn_app (goodIn_of _ (by decide +kernel)) ggX10_write_X8_hasEgg
set_option maxRecDepth 20000 in
theorem ggX10_write_X10_isWithin : GoodIn wsX10_write wsX10_isWithin := goodIn_r _ [15] (by decide +kernel) (by decide +kernel)
set_option maxRecDepth 20000 in
theorem gX10_write_X10_isWithin : GoodIn wsX10_write (va_wsS RX10 91 yX10_isWithin wsX10_isWithin) := goodIn_app (goodIn_of _ (by decide +kernel)) ggX10_write_X10_isWithin
set_option maxRecDepth 20000 in
theorem ggX10_write_X1_add : GoodIn wsX10_write wsX1_add := goodIn_r _ [20, 21, 22, 23, 37, 38, 39] (by decide +kernel) (by decide +kernel)
set_option maxRecDepth 20000 in
theorem gX10_write_X1_add : GoodIn wsX10_write (wsV RX10 308 RX1 yX1_add wsX1_add) := goodIn_app (goodIn_of _ (by decide +kernel)) ggX10_write_X1_add
theorem dX10_write_0 : decode cX10_write 0 = .ok (.aload_n 0, 1) := by decide +kernel
theorem dX10_write_1 : decode cX10_write 1 = .ok (.getfield 19, 3) := by decide +kernel
theorem dX10_write_4 : decode cX10_write 4 = .ok (.iload_n 1, 1) := by decide +kernel
theorem dX10_write_5 : decode cX10_write 5 = .ok (.invokevirtual 172, 3) := by decide +kernel
theorem dX10_write_8 : decode cX10_write 8 = .ok (.ifCond .ne 6, 3) := by decide +kernel
theorem dX10_write_11 : decode cX10_write 11 = .ok (.ldc 175, 2) := by decide +kernel
theorem dX10_write_13 : decode cX10_write 13 = .ok (.ireturn, 1) := by decide +kernel
theorem dX10_write_14 : decode cX10_write 14 = .ok (.iload_n 2, 1) := by decide +kernel
theorem dX10_write_15 : decode cX10_write 15 = .ok (.iconst 0, 1) := by decide +kernel
theorem dX10_write_16 : decode cX10_write 16 = .ok (.iconst 5, 1) := by decide +kernel
theorem dX10_write_17 : decode cX10_write 17 = .ok (.invokestatic 91, 3) := by decide +kernel
theorem dX10_write_20 : decode cX10_write 20 = .ok (.ifCond .ne 6, 3) := by decide +kernel
theorem dX10_write_23 : decode cX10_write 23 = .ok (.ldc 95, 2) := by decide +kernel
theorem dX10_write_25 : decode cX10_write 25 = .ok (.ireturn, 1) := by decide +kernel
theorem dX10_write_26 : decode cX10_write 26 = .ok (.aload_n 0, 1) := by decide +kernel
theorem dX10_write_27 : decode cX10_write 27 = .ok (.getfield 59, 3) := by decide +kernel
theorem dX10_write_30 : decode cX10_write 30 = .ok (.iload_n 1, 1) := by decide +kernel
theorem dX10_write_31 : decode cX10_write 31 = .ok (.iload_n 2, 1) := by decide +kernel
theorem dX10_write_32 : decode cX10_write 32 = .ok (.invokevirtual 308, 3) := by decide +kernel
theorem dX10_write_35 : decode cX10_write 35 = .ok (.ifCond .eq 13, 3) := by decide +kernel
theorem dX10_write_38 : decode cX10_write 38 = .ok (.aload_n 0, 1) := by decide +kernel
theorem dX10_write_39 : decode cX10_write 39 = .ok (.getfield 59, 3) := by decide +kernel
theorem dX10_write_42 : decode cX10_write 42 = .ok (.getfield 170, 3) := by decide +kernel
theorem dX10_write_45 : decode cX10_write 45 = .ok (.goto 5, 3) := by decide +kernel
theorem dX10_write_48 : decode cX10_write 48 = .ok (.ldc 104, 2) := by decide +kernel
theorem dX10_write_50 : decode cX10_write 50 = .ok (.ireturn, 1) := by decide +kernel
set_option maxRecDepth 20000 in
theorem ggX10_tear_X2_forget : GoodIn wsX10_tear wsX2_forget := goodIn_r _ [7, 8, 28, 29, 30] (by decide +kernel) (by decide +kernel)
set_option maxRecDepth 20000 in
theorem gX10_tear_X2_forget : GoodIn wsX10_tear (wsV RX10 125 RX2 yX2_forget wsX2_forget) := goodIn_app (goodIn_of _ (by decide +kernel)) ggX10_tear_X2_forget
set_option maxRecDepth 20000 in
theorem ggX10_tear_X1_forget : GoodIn wsX10_tear wsX1_forget := goodIn_r _ [13, 14, 31, 32, 33] (by decide +kernel) (by decide +kernel)
set_option maxRecDepth 20000 in
theorem gX10_tear_X1_forget : GoodIn wsX10_tear (wsV RX10 126 RX1 yX1_forget wsX1_forget) := goodIn_app (goodIn_of _ (by decide +kernel)) ggX10_tear_X1_forget
theorem dX10_tear_0 : decode cX10_tear 0 = .ok (.aload_n 0, 1) := by decide +kernel
theorem dX10_tear_1 : decode cX10_tear 1 = .ok (.getfield 52, 3) := by decide +kernel
theorem dX10_tear_4 : decode cX10_tear 4 = .ok (.getfield 167, 3) := by decide +kernel
theorem dX10_tear_7 : decode cX10_tear 7 = .ok (.aload_n 0, 1) := by decide +kernel
theorem dX10_tear_8 : decode cX10_tear 8 = .ok (.getfield 59, 3) := by decide +kernel
theorem dX10_tear_11 : decode cX10_tear 11 = .ok (.getfield 170, 3) := by decide +kernel
theorem dX10_tear_14 : decode cX10_tear 14 = .ok (.iadd, 1) := by decide +kernel
theorem dX10_tear_15 : decode cX10_tear 15 = .ok (.istore_n 1, 1) := by decide +kernel
theorem dX10_tear_16 : decode cX10_tear 16 = .ok (.aload_n 0, 1) := by decide +kernel
theorem dX10_tear_17 : decode cX10_tear 17 = .ok (.getfield 52, 3) := by decide +kernel
theorem dX10_tear_20 : decode cX10_tear 20 = .ok (.invokevirtual 125, 3) := by decide +kernel
theorem dX10_tear_23 : decode cX10_tear 23 = .ok (.aload_n 0, 1) := by decide +kernel
theorem dX10_tear_24 : decode cX10_tear 24 = .ok (.getfield 59, 3) := by decide +kernel
theorem dX10_tear_27 : decode cX10_tear 27 = .ok (.invokevirtual 126, 3) := by decide +kernel
theorem dX10_tear_30 : decode cX10_tear 30 = .ok (.iload_n 1, 1) := by decide +kernel
theorem dX10_tear_31 : decode cX10_tear 31 = .ok (.ireturn, 1) := by decide +kernel
set_option maxRecDepth 20000 in
theorem ggX10_judge_X1_firstWrong : GoodIn wsX10_judge wsX1_firstWrong := goodIn_r _ [7, 8, 9, 10, 11, 12, 13, 14, 15, 16, 17, 18, 19, 20, 21, 22, 23, 37, 38, 39, 40, 41, 42, 43, 44, 45, 46, 47, 48, 49, 50, 51, 52, 53, 54, 55, 56, 57, 58] (by decide +kernel) (by decide +kernel)
set_option maxRecDepth 20000 in
theorem gX10_judge_X1_firstWrong : GoodIn wsX10_judge (wsV RX10 309 RX1 yX1_firstWrong wsX1_firstWrong) := goodIn_app (goodIn_of _ (by decide +kernel)) ggX10_judge_X1_firstWrong
theorem dX10_judge_0 : decode cX10_judge 0 = .ok (.aload_n 0, 1) := by decide +kernel
theorem dX10_judge_1 : decode cX10_judge 1 = .ok (.getfield 59, 3) := by decide +kernel
theorem dX10_judge_4 : decode cX10_judge 4 = .ok (.aload_n 0, 1) := by decide +kernel
theorem dX10_judge_5 : decode cX10_judge 5 = .ok (.getfield 31, 3) := by decide +kernel
theorem dX10_judge_8 : decode cX10_judge 8 = .ok (.invokevirtual 309, 3) := by decide +kernel
theorem dX10_judge_11 : decode cX10_judge 11 = .ok (.ireturn, 1) := by decide +kernel
theorem dX10_seed_0 : decode cX10_seed 0 = .ok (.iload_n 1, 1) := by decide +kernel
theorem dX10_seed_1 : decode cX10_seed 1 = .ok (.ifCond .ge 6, 3) := by decide +kernel
theorem dX10_seed_4 : decode cX10_seed 4 = .ok (.ldc 95, 2) := by decide +kernel
theorem dX10_seed_6 : decode cX10_seed 6 = .ok (.ireturn, 1) := by decide +kernel
theorem dX10_seed_7 : decode cX10_seed 7 = .ok (.aload_n 0, 1) := by decide +kernel
theorem dX10_seed_8 : decode cX10_seed 8 = .ok (.getfield 88, 3) := by decide +kernel
theorem dX10_seed_11 : decode cX10_seed 11 = .ok (.istore_n 2, 1) := by decide +kernel
theorem dX10_seed_12 : decode cX10_seed 12 = .ok (.aload_n 0, 1) := by decide +kernel
theorem dX10_seed_13 : decode cX10_seed 13 = .ok (.iload_n 1, 1) := by decide +kernel
theorem dX10_seed_14 : decode cX10_seed 14 = .ok (.putfield 88, 3) := by decide +kernel
theorem dX10_seed_17 : decode cX10_seed 17 = .ok (.iload_n 2, 1) := by decide +kernel
theorem dX10_seed_18 : decode cX10_seed 18 = .ok (.ireturn, 1) := by decide +kernel
set_option maxRecDepth 20000 in
theorem ggX10_keep_X10_isWithin : GoodIn wsX10_keep wsX10_isWithin := goodIn_r _ [9] (by decide +kernel) (by decide +kernel)
set_option maxRecDepth 20000 in
theorem gX10_keep_X10_isWithin : GoodIn wsX10_keep (va_wsS RX10 91 yX10_isWithin wsX10_isWithin) := goodIn_app (goodIn_of _ (by decide +kernel)) ggX10_keep_X10_isWithin
set_option maxRecDepth 20000 in
theorem ggX10_keep_X3_take : GoodIn wsX10_keep wsX3_take := goodIn_r _ [14, 15, 16, 17, 18, 19, 20, 21, 22, 23, 24, 25, 26, 27, 28, 29, 30, 31, 32, 33, 34, 35, 36, 37, 58, 59, 60, 61, 62, 63, 64, 65, 66, 67, 68, 69] (by decide +kernel) (by decide +kernel)
set_option maxRecDepth 20000 in
theorem gX10_keep_X3_take : GoodIn wsX10_keep (wsV RX10 313 RX3 yX3_take wsX3_take) := goodIn_app (goodIn_of _ (by decide +kernel)) ggX10_keep_X3_take
set_option maxRecDepth 20000 in
theorem ggX10_keep_X5_forget : GoodIn wsX10_keep wsX5_forget := goodIn_r _ [42, 43, 44, 70, 71, 72] (by decide +kernel) (by decide +kernel)
set_option maxRecDepth 20000 in
theorem gX10_keep_X5_forget : GoodIn wsX10_keep (wsV RX10 121 RX5 yX5_forget wsX5_forget) := goodIn_app (goodIn_of _ (by decide +kernel)) ggX10_keep_X5_forget
theorem dX10_keep_0 : decode cX10_keep 0 = .ok (.iload_n 1, 1) := by decide +kernel
theorem dX10_keep_1 : decode cX10_keep 1 = .ok (.iconst 0, 1) := by decide +kernel
theorem dX10_keep_2 : decode cX10_keep 2 = .ok (.iconst 1, 1) := by decide +kernel
theorem dX10_keep_3 : decode cX10_keep 3 = .ok (.invokestatic 91, 3) := by decide +kernel
theorem dX10_keep_6 : decode cX10_keep 6 = .ok (.ifCond .ne 6, 3) := by decide +kernel
theorem dX10_keep_9 : decode cX10_keep 9 = .ok (.ldc 175, 2) := by decide +kernel
theorem dX10_keep_11 : decode cX10_keep 11 = .ok (.ireturn, 1) := by decide +kernel
theorem dX10_keep_12 : decode cX10_keep 12 = .ok (.aload_n 0, 1) := by decide +kernel
theorem dX10_keep_13 : decode cX10_keep 13 = .ok (.getfield 45, 3) := by decide +kernel
theorem dX10_keep_16 : decode cX10_keep 16 = .ok (.iload_n 1, 1) := by decide +kernel
theorem dX10_keep_17 : decode cX10_keep 17 = .ok (.aload_n 0, 1) := by decide +kernel
theorem dX10_keep_18 : decode cX10_keep 18 = .ok (.getfield 31, 3) := by decide +kernel
theorem dX10_keep_21 : decode cX10_keep 21 = .ok (.aload_n 0, 1) := by decide +kernel
theorem dX10_keep_22 : decode cX10_keep 22 = .ok (.getfield 88, 3) := by decide +kernel
theorem dX10_keep_25 : decode cX10_keep 25 = .ok (.invokevirtual 313, 3) := by decide +kernel
theorem dX10_keep_28 : decode cX10_keep 28 = .ok (.aload_n 0, 1) := by decide +kernel
theorem dX10_keep_29 : decode cX10_keep 29 = .ok (.getfield 38, 3) := by decide +kernel
theorem dX10_keep_32 : decode cX10_keep 32 = .ok (.invokevirtual 121, 3) := by decide +kernel
theorem dX10_keep_35 : decode cX10_keep 35 = .ok (.iconst 1, 1) := by decide +kernel
theorem dX10_keep_36 : decode cX10_keep 36 = .ok (.ireturn, 1) := by decide +kernel
set_option maxRecDepth 20000 in
theorem ggX10_goBack_X10_isWithin : GoodIn wsX10_goBack wsX10_isWithin := goodIn_r _ [10] (by decide +kernel) (by decide +kernel)
set_option maxRecDepth 20000 in
theorem gX10_goBack_X10_isWithin : GoodIn wsX10_goBack (va_wsS RX10 91 yX10_isWithin wsX10_isWithin) := goodIn_app (goodIn_of _ (by decide +kernel)) ggX10_goBack_X10_isWithin
set_option maxRecDepth 20000 in
theorem ggX10_goBack_X3_has : GoodIn wsX10_goBack wsX3_has := goodIn_r _ [15, 16, 68, 69, 70] (by decide +kernel) (by decide +kernel)
set_option maxRecDepth 20000 in
theorem gX10_goBack_X3_has : GoodIn wsX10_goBack (wsV RX10 317 RX3 yX3_has wsX3_has) := goodIn_app (goodIn_of _ (by decide +kernel)) ggX10_goBack_X3_has
set_option maxRecDepth 20000 in
theorem ggX10_goBack_X3_show : GoodIn wsX10_goBack wsX3_show := goodIn_r _ [20, 21, 22, 12, 13, 14, 15, 16, 23, 24, 25, 26, 27, 28, 29, 30, 31, 32, 33, 34, 35, 36, 37, 38, 39, 40, 41, 42, 68, 69, 70, 71, 72, 73, 74, 75, 76, 77, 78, 79] (by decide +kernel) (by decide +kernel)
set_option maxRecDepth 20000 in
theorem gX10_goBack_X3_show : GoodIn wsX10_goBack (wsV RX10 320 RX3 yX3_show wsX3_show) := goodIn_app (goodIn_of _ (by decide +kernel)) ggX10_goBack_X3_show
set_option maxRecDepth 20000 in
theorem ggX10_goBack_X3_seedOf : GoodIn wsX10_goBack wsX3_seedOf := goodIn_r _ [46, 47, 22, 12, 13, 14, 15, 16, 68, 69, 70] (by decide +kernel) (by decide +kernel)
set_option maxRecDepth 20000 in
theorem gX10_goBack_X3_seedOf : GoodIn wsX10_goBack (wsV RX10 324 RX3 yX3_seedOf wsX3_seedOf) := goodIn_app (goodIn_of _ (by decide +kernel)) ggX10_goBack_X3_seedOf
set_option maxRecDepth 20000 in
theorem ggX10_goBack_X5_forget : GoodIn wsX10_goBack wsX5_forget := goodIn_r _ [52, 53, 54, 80, 81, 82] (by decide +kernel) (by decide +kernel)
set_option maxRecDepth 20000 in
theorem gX10_goBack_X5_forget : GoodIn wsX10_goBack (wsV RX10 121 RX5 yX5_forget wsX5_forget) := goodIn_app (goodIn_of _ (by decide +kernel)) ggX10_goBack_X5_forget
theorem dX10_goBack_0 : decode cX10_goBack 0 = .ok (.iload_n 1, 1) := by decide +kernel
theorem dX10_goBack_1 : decode cX10_goBack 1 = .ok (.iconst 0, 1) := by decide +kernel
theorem dX10_goBack_2 : decode cX10_goBack 2 = .ok (.iconst 1, 1) := by decide +kernel
theorem dX10_goBack_3 : decode cX10_goBack 3 = .ok (.invokestatic 91, 3) := by decide +kernel
theorem dX10_goBack_6 : decode cX10_goBack 6 = .ok (.ifCond .ne 6, 3) := by decide +kernel
theorem dX10_goBack_9 : decode cX10_goBack 9 = .ok (.ldc 175, 2) := by decide +kernel
theorem dX10_goBack_11 : decode cX10_goBack 11 = .ok (.ireturn, 1) := by decide +kernel
theorem dX10_goBack_12 : decode cX10_goBack 12 = .ok (.aload_n 0, 1) := by decide +kernel
theorem dX10_goBack_13 : decode cX10_goBack 13 = .ok (.getfield 45, 3) := by decide +kernel
theorem dX10_goBack_16 : decode cX10_goBack 16 = .ok (.iload_n 1, 1) := by decide +kernel
theorem dX10_goBack_17 : decode cX10_goBack 17 = .ok (.invokevirtual 317, 3) := by decide +kernel
theorem dX10_goBack_20 : decode cX10_goBack 20 = .ok (.ifCond .ne 6, 3) := by decide +kernel
theorem dX10_goBack_23 : decode cX10_goBack 23 = .ok (.ldc 219, 2) := by decide +kernel
theorem dX10_goBack_25 : decode cX10_goBack 25 = .ok (.ireturn, 1) := by decide +kernel
theorem dX10_goBack_26 : decode cX10_goBack 26 = .ok (.aload_n 0, 1) := by decide +kernel
theorem dX10_goBack_27 : decode cX10_goBack 27 = .ok (.getfield 45, 3) := by decide +kernel
theorem dX10_goBack_30 : decode cX10_goBack 30 = .ok (.iload_n 1, 1) := by decide +kernel
theorem dX10_goBack_31 : decode cX10_goBack 31 = .ok (.aload_n 0, 1) := by decide +kernel
theorem dX10_goBack_32 : decode cX10_goBack 32 = .ok (.getfield 31, 3) := by decide +kernel
theorem dX10_goBack_35 : decode cX10_goBack 35 = .ok (.invokevirtual 320, 3) := by decide +kernel
theorem dX10_goBack_38 : decode cX10_goBack 38 = .ok (.aload_n 0, 1) := by decide +kernel
theorem dX10_goBack_39 : decode cX10_goBack 39 = .ok (.aload_n 0, 1) := by decide +kernel
theorem dX10_goBack_40 : decode cX10_goBack 40 = .ok (.getfield 45, 3) := by decide +kernel
theorem dX10_goBack_43 : decode cX10_goBack 43 = .ok (.iload_n 1, 1) := by decide +kernel
theorem dX10_goBack_44 : decode cX10_goBack 44 = .ok (.invokevirtual 324, 3) := by decide +kernel
theorem dX10_goBack_47 : decode cX10_goBack 47 = .ok (.putfield 88, 3) := by decide +kernel
theorem dX10_goBack_50 : decode cX10_goBack 50 = .ok (.aload_n 0, 1) := by decide +kernel
theorem dX10_goBack_51 : decode cX10_goBack 51 = .ok (.getfield 38, 3) := by decide +kernel
theorem dX10_goBack_54 : decode cX10_goBack 54 = .ok (.invokevirtual 121, 3) := by decide +kernel
theorem dX10_goBack_57 : decode cX10_goBack 57 = .ok (.iconst 1, 1) := by decide +kernel
theorem dX10_goBack_58 : decode cX10_goBack 58 = .ok (.ireturn, 1) := by decide +kernel
theorem dX10_isWithin_0 : decode cX10_isWithin 0 = .ok (.iload_n 0, 1) := by decide +kernel
theorem dX10_isWithin_1 : decode cX10_isWithin 1 = .ok (.iload_n 1, 1) := by decide +kernel
theorem dX10_isWithin_2 : decode cX10_isWithin 2 = .ok (.if_icmp .lt 12, 3) := by decide +kernel
theorem dX10_isWithin_5 : decode cX10_isWithin 5 = .ok (.iload_n 0, 1) := by decide +kernel
theorem dX10_isWithin_6 : decode cX10_isWithin 6 = .ok (.iload_n 2, 1) := by decide +kernel
theorem dX10_isWithin_7 : decode cX10_isWithin 7 = .ok (.if_icmp .gt 7, 3) := by decide +kernel
theorem dX10_isWithin_10 : decode cX10_isWithin 10 = .ok (.iconst 1, 1) := by decide +kernel
theorem dX10_isWithin_11 : decode cX10_isWithin 11 = .ok (.goto 4, 3) := by decide +kernel
theorem dX10_isWithin_14 : decode cX10_isWithin 14 = .ok (.iconst 0, 1) := by decide +kernel
theorem dX10_isWithin_15 : decode cX10_isWithin 15 = .ok (.ireturn, 1) := by decide +kernel
set_option maxRecDepth 20000 in
theorem ggX10_refusalOfMinutes_X10_isWithin : GoodIn wsX10_refusalOfMinutes wsX10_isWithin := goodIn_r _ [9] (by decide +kernel) (by decide +kernel)
set_option maxRecDepth 20000 in
theorem gX10_refusalOfMinutes_X10_isWithin : GoodIn wsX10_refusalOfMinutes (va_wsS RX10 91 yX10_isWithin wsX10_isWithin) := goodIn_app (goodIn_of _ (by decide +kernel)) ggX10_refusalOfMinutes_X10_isWithin
set_option maxRecDepth 20000 in
theorem ggX10_refusalOfMinutes_X8_isLaid : GoodIn wsX10_refusalOfMinutes wsX8_isLaid := goodIn_r _ [14, 15, 38, 39, 40, 41, 42, 43, 44, 45, 46, 47] (by decide +kernel) (by decide +kernel)
set_option maxRecDepth 20000 in
theorem gX10_refusalOfMinutes_X8_isLaid : GoodIn wsX10_refusalOfMinutes (wsV RX10 239 RX8 yX8_isLaid wsX8_isLaid) := goodIn_app (goodIn_of _ (by decide +kernel)) ggX10_refusalOfMinutes_X8_isLaid
theorem dX10_refusalOfMinutes_0 : decode cX10_refusalOfMinutes 0 = .ok (.iload_n 1, 1) := by decide +kernel
theorem dX10_refusalOfMinutes_1 : decode cX10_refusalOfMinutes 1 = .ok (.iconst 1, 1) := by decide +kernel
theorem dX10_refusalOfMinutes_2 : decode cX10_refusalOfMinutes 2 = .ok (.bipush 60, 2) := by decide +kernel
theorem dX10_refusalOfMinutes_4 : decode cX10_refusalOfMinutes 4 = .ok (.invokestatic 91, 3) := by decide +kernel
theorem dX10_refusalOfMinutes_7 : decode cX10_refusalOfMinutes 7 = .ok (.ifCond .ne 6, 3) := by decide +kernel
theorem dX10_refusalOfMinutes_10 : decode cX10_refusalOfMinutes 10 = .ok (.ldc 95, 2) := by decide +kernel
theorem dX10_refusalOfMinutes_12 : decode cX10_refusalOfMinutes 12 = .ok (.ireturn, 1) := by decide +kernel
theorem dX10_refusalOfMinutes_13 : decode cX10_refusalOfMinutes 13 = .ok (.aload_n 0, 1) := by decide +kernel
theorem dX10_refusalOfMinutes_14 : decode cX10_refusalOfMinutes 14 = .ok (.getfield 19, 3) := by decide +kernel
theorem dX10_refusalOfMinutes_17 : decode cX10_refusalOfMinutes 17 = .ok (.invokevirtual 239, 3) := by decide +kernel
theorem dX10_refusalOfMinutes_20 : decode cX10_refusalOfMinutes 20 = .ok (.ifCond .ne 6, 3) := by decide +kernel
theorem dX10_refusalOfMinutes_23 : decode cX10_refusalOfMinutes 23 = .ok (.ldc 219, 2) := by decide +kernel
theorem dX10_refusalOfMinutes_25 : decode cX10_refusalOfMinutes 25 = .ok (.ireturn, 1) := by decide +kernel
theorem dX10_refusalOfMinutes_26 : decode cX10_refusalOfMinutes 26 = .ok (.aload_n 0, 1) := by decide +kernel
theorem dX10_refusalOfMinutes_27 : decode cX10_refusalOfMinutes 27 = .ok (.getfield 31, 3) := by decide +kernel
theorem dX10_refusalOfMinutes_30 : decode cX10_refusalOfMinutes 30 = .ok (.getfield 142, 3) := by decide +kernel
theorem dX10_refusalOfMinutes_33 : decode cX10_refusalOfMinutes 33 = .ok (.sipush 9000, 3) := by decide +kernel
theorem dX10_refusalOfMinutes_36 : decode cX10_refusalOfMinutes 36 = .ok (.if_icmp .le 8, 3) := by decide +kernel
theorem dX10_refusalOfMinutes_39 : decode cX10_refusalOfMinutes 39 = .ok (.ldc 104, 2) := by decide +kernel
theorem dX10_refusalOfMinutes_41 : decode cX10_refusalOfMinutes 41 = .ok (.goto 4, 3) := by decide +kernel
theorem dX10_refusalOfMinutes_44 : decode cX10_refusalOfMinutes 44 = .ok (.iconst 0, 1) := by decide +kernel
theorem dX10_refusalOfMinutes_45 : decode cX10_refusalOfMinutes 45 = .ok (.ireturn, 1) := by decide +kernel
set_option maxRecDepth 20000 in
theorem ggX10_actByDraws_X10_draw : GoodIn wsX10_actByDraws wsX10_draw := goodIn_r _ [7, 8, 9, 10, 11, 12, 102, 103, 104, 105, 106, 107, 108, 109, 110, 111, 112, 113, 114] (by decide +kernel) (by decide +kernel)
set_option maxRecDepth 20000 in
theorem gX10_actByDraws_X10_draw : GoodIn wsX10_actByDraws (wsV RX10 327 RX10 yX10_draw wsX10_draw) := goodIn_app (goodIn_of _ (by decide +kernel)) ggX10_actByDraws_X10_draw
set_option maxRecDepth 20000 in
theorem ggX10_actByDraws_X4_canGoIn : GoodIn wsX10_actByDraws wsX4_canGoIn := goodIn_r _ [17, 18, 19, 20, 21, 16, 22, 23, 24, 25, 26, 27, 28, 29, 30, 31, 32, 33, 34, 35, 36, 37, 38, 39, 40, 41, 42, 43, 44, 125, 126, 127, 128, 129, 130, 131, 132, 133, 115, 116, 117, 118, 119, 120, 121, 122, 123, 124] (by decide +kernel) (by decide +kernel)
set_option maxRecDepth 20000 in
theorem gX10_actByDraws_X4_canGoIn : GoodIn wsX10_actByDraws (wsV RX10 216 RX4 yX4_canGoIn wsX4_canGoIn) := goodIn_app (goodIn_of _ (by decide +kernel)) ggX10_actByDraws_X4_canGoIn
set_option maxRecDepth 20000 in
theorem ggX10_actByDraws_X4_goIn : GoodIn wsX10_actByDraws wsX4_goIn := goodIn_r _ [48, 49, 50, 51, 16, 52, 18, 23, 24, 25, 26, 27, 28, 29, 125, 126, 127, 128, 129, 130, 131, 132, 133, 115, 116, 117, 118, 119, 120, 121, 122, 123, 124] (by decide +kernel) (by decide +kernel)
set_option maxRecDepth 20000 in
theorem gX10_actByDraws_X4_goIn : GoodIn wsX10_actByDraws (wsV RX10 220 RX4 yX4_goIn wsX4_goIn) := goodIn_app (goodIn_of _ (by decide +kernel)) ggX10_actByDraws_X4_goIn
set_option maxRecDepth 20000 in
theorem ggX10_actByDraws_X4_canComeOut : GoodIn wsX10_actByDraws wsX4_canComeOut := goodIn_r _ [56, 19, 20, 21, 16, 22, 18, 23, 24, 25, 26, 27, 28, 29, 125, 126, 127, 128, 129, 130, 131, 132, 133, 115, 116, 117, 118, 119, 120, 121, 122, 123, 124] (by decide +kernel) (by decide +kernel)
set_option maxRecDepth 20000 in
theorem gX10_actByDraws_X4_canComeOut : GoodIn wsX10_actByDraws (wsV RX10 227 RX4 yX4_canComeOut wsX4_canComeOut) := goodIn_app (goodIn_of _ (by decide +kernel)) ggX10_actByDraws_X4_canComeOut
set_option maxRecDepth 20000 in
theorem ggX10_actByDraws_X4_comeOut : GoodIn wsX10_actByDraws wsX4_comeOut := goodIn_r _ [60, 49, 50, 51, 16, 52, 18, 23, 24, 25, 26, 27, 28, 29, 125, 126, 127, 128, 129, 130, 131, 132, 133, 115, 116, 117, 118, 119, 120, 121, 122, 123, 124] (by decide +kernel) (by decide +kernel)
set_option maxRecDepth 20000 in
theorem gX10_actByDraws_X4_comeOut : GoodIn wsX10_actByDraws (wsV RX10 230 RX4 yX4_comeOut wsX4_comeOut) := goodIn_app (goodIn_of _ (by decide +kernel)) ggX10_actByDraws_X4_comeOut
set_option maxRecDepth 20000 in
theorem ggX10_actByDraws_X4_canBeKing : GoodIn wsX10_actByDraws wsX4_canBeKing := goodIn_r _ [64, 65, 19, 20, 21, 16, 22, 18, 23, 24, 25, 26, 27, 28, 29, 125, 126, 127, 128, 129, 130, 131, 132, 133, 115, 116, 117, 118, 119, 120, 121, 122, 123, 124] (by decide +kernel) (by decide +kernel)
set_option maxRecDepth 20000 in
theorem gX10_actByDraws_X4_canBeKing : GoodIn wsX10_actByDraws (wsV RX10 233 RX4 yX4_canBeKing wsX4_canBeKing) := goodIn_app (goodIn_of _ (by decide +kernel)) ggX10_actByDraws_X4_canBeKing
set_option maxRecDepth 20000 in
theorem ggX10_actByDraws_X4_becomeKing : GoodIn wsX10_actByDraws wsX4_becomeKing := goodIn_r _ [69, 65, 70, 49, 50, 51, 16, 52, 18, 23, 24, 25, 26, 27, 28, 29, 71, 72, 73, 74, 75, 76, 77, 78, 79, 80, 81, 82, 83, 84, 85, 86, 87, 88, 89, 90, 91, 92, 93, 94, 95, 96, 97, 98, 99, 100, 101, 125, 126, 127, 128, 129, 130, 131, 132, 133, 115, 116, 117, 118, 119, 120, 121, 122, 123, 124] (by decide +kernel) (by decide +kernel)
set_option maxRecDepth 20000 in
theorem gX10_actByDraws_X4_becomeKing : GoodIn wsX10_actByDraws (wsV RX10 236 RX4 yX4_becomeKing wsX4_becomeKing) := goodIn_app (goodIn_of _ (by decide +kernel)) ggX10_actByDraws_X4_becomeKing
theorem dX10_actByDraws_0 : decode cX10_actByDraws 0 = .ok (.aload_n 0, 1) := by decide +kernel
theorem dX10_actByDraws_1 : decode cX10_actByDraws 1 = .ok (.getfield 19, 3) := by decide +kernel
theorem dX10_actByDraws_4 : decode cX10_actByDraws 4 = .ok (.getfield 127, 3) := by decide +kernel
theorem dX10_actByDraws_7 : decode cX10_actByDraws 7 = .ok (.ifCond .gt 4, 3) := by decide +kernel
theorem dX10_actByDraws_10 : decode cX10_actByDraws 10 = .ok (.return_, 1) := by decide +kernel
theorem dX10_actByDraws_11 : decode cX10_actByDraws 11 = .ok (.aload_n 0, 1) := by decide +kernel
theorem dX10_actByDraws_12 : decode cX10_actByDraws 12 = .ok (.aload_n 0, 1) := by decide +kernel
theorem dX10_actByDraws_13 : decode cX10_actByDraws 13 = .ok (.getfield 19, 3) := by decide +kernel
theorem dX10_actByDraws_16 : decode cX10_actByDraws 16 = .ok (.getfield 127, 3) := by decide +kernel
theorem dX10_actByDraws_19 : decode cX10_actByDraws 19 = .ok (.invokevirtual 327, 3) := by decide +kernel
theorem dX10_actByDraws_22 : decode cX10_actByDraws 22 = .ok (.istore_n 1, 1) := by decide +kernel
theorem dX10_actByDraws_23 : decode cX10_actByDraws 23 = .ok (.aload_n 0, 1) := by decide +kernel
theorem dX10_actByDraws_24 : decode cX10_actByDraws 24 = .ok (.iconst 3, 1) := by decide +kernel
theorem dX10_actByDraws_25 : decode cX10_actByDraws 25 = .ok (.invokevirtual 327, 3) := by decide +kernel
theorem dX10_actByDraws_28 : decode cX10_actByDraws 28 = .ok (.istore_n 2, 1) := by decide +kernel
theorem dX10_actByDraws_29 : decode cX10_actByDraws 29 = .ok (.iload_n 2, 1) := by decide +kernel
theorem dX10_actByDraws_30 : decode cX10_actByDraws 30 = .ok (.ifCond .ne 25, 3) := by decide +kernel
theorem dX10_actByDraws_33 : decode cX10_actByDraws 33 = .ok (.aload_n 0, 1) := by decide +kernel
theorem dX10_actByDraws_34 : decode cX10_actByDraws 34 = .ok (.getfield 31, 3) := by decide +kernel
theorem dX10_actByDraws_37 : decode cX10_actByDraws 37 = .ok (.iload_n 1, 1) := by decide +kernel
theorem dX10_actByDraws_38 : decode cX10_actByDraws 38 = .ok (.invokevirtual 216, 3) := by decide +kernel
theorem dX10_actByDraws_41 : decode cX10_actByDraws 41 = .ok (.ifCond .eq 14, 3) := by decide +kernel
theorem dX10_actByDraws_44 : decode cX10_actByDraws 44 = .ok (.aload_n 0, 1) := by decide +kernel
theorem dX10_actByDraws_45 : decode cX10_actByDraws 45 = .ok (.getfield 31, 3) := by decide +kernel
theorem dX10_actByDraws_48 : decode cX10_actByDraws 48 = .ok (.iload_n 1, 1) := by decide +kernel
theorem dX10_actByDraws_49 : decode cX10_actByDraws 49 = .ok (.invokevirtual 220, 3) := by decide +kernel
theorem dX10_actByDraws_52 : decode cX10_actByDraws 52 = .ok (.goto 54, 3) := by decide +kernel
theorem dX10_actByDraws_55 : decode cX10_actByDraws 55 = .ok (.iload_n 2, 1) := by decide +kernel
theorem dX10_actByDraws_56 : decode cX10_actByDraws 56 = .ok (.iconst 1, 1) := by decide +kernel
theorem dX10_actByDraws_57 : decode cX10_actByDraws 57 = .ok (.if_icmp .ne 25, 3) := by decide +kernel
theorem dX10_actByDraws_60 : decode cX10_actByDraws 60 = .ok (.aload_n 0, 1) := by decide +kernel
theorem dX10_actByDraws_61 : decode cX10_actByDraws 61 = .ok (.getfield 31, 3) := by decide +kernel
theorem dX10_actByDraws_64 : decode cX10_actByDraws 64 = .ok (.iload_n 1, 1) := by decide +kernel
theorem dX10_actByDraws_65 : decode cX10_actByDraws 65 = .ok (.invokevirtual 227, 3) := by decide +kernel
theorem dX10_actByDraws_68 : decode cX10_actByDraws 68 = .ok (.ifCond .eq 14, 3) := by decide +kernel
theorem dX10_actByDraws_71 : decode cX10_actByDraws 71 = .ok (.aload_n 0, 1) := by decide +kernel
theorem dX10_actByDraws_72 : decode cX10_actByDraws 72 = .ok (.getfield 31, 3) := by decide +kernel
theorem dX10_actByDraws_75 : decode cX10_actByDraws 75 = .ok (.iload_n 1, 1) := by decide +kernel
theorem dX10_actByDraws_76 : decode cX10_actByDraws 76 = .ok (.invokevirtual 230, 3) := by decide +kernel
theorem dX10_actByDraws_79 : decode cX10_actByDraws 79 = .ok (.goto 27, 3) := by decide +kernel
theorem dX10_actByDraws_82 : decode cX10_actByDraws 82 = .ok (.iload_n 2, 1) := by decide +kernel
theorem dX10_actByDraws_83 : decode cX10_actByDraws 83 = .ok (.iconst 2, 1) := by decide +kernel
theorem dX10_actByDraws_84 : decode cX10_actByDraws 84 = .ok (.if_icmp .ne 22, 3) := by decide +kernel
theorem dX10_actByDraws_87 : decode cX10_actByDraws 87 = .ok (.aload_n 0, 1) := by decide +kernel
theorem dX10_actByDraws_88 : decode cX10_actByDraws 88 = .ok (.getfield 31, 3) := by decide +kernel
theorem dX10_actByDraws_91 : decode cX10_actByDraws 91 = .ok (.iload_n 1, 1) := by decide +kernel
theorem dX10_actByDraws_92 : decode cX10_actByDraws 92 = .ok (.invokevirtual 233, 3) := by decide +kernel
theorem dX10_actByDraws_95 : decode cX10_actByDraws 95 = .ok (.ifCond .eq 11, 3) := by decide +kernel
theorem dX10_actByDraws_98 : decode cX10_actByDraws 98 = .ok (.aload_n 0, 1) := by decide +kernel
theorem dX10_actByDraws_99 : decode cX10_actByDraws 99 = .ok (.getfield 31, 3) := by decide +kernel
theorem dX10_actByDraws_102 : decode cX10_actByDraws 102 = .ok (.iload_n 1, 1) := by decide +kernel
theorem dX10_actByDraws_103 : decode cX10_actByDraws 103 = .ok (.invokevirtual 236, 3) := by decide +kernel
theorem dX10_actByDraws_106 : decode cX10_actByDraws 106 = .ok (.return_, 1) := by decide +kernel
theorem dX10_draw_0 : decode cX10_draw 0 = .ok (.aload_n 0, 1) := by decide +kernel
theorem dX10_draw_1 : decode cX10_draw 1 = .ok (.aload_n 0, 1) := by decide +kernel
theorem dX10_draw_2 : decode cX10_draw 2 = .ok (.getfield 88, 3) := by decide +kernel
theorem dX10_draw_5 : decode cX10_draw 5 = .ok (.i2l, 1) := by decide +kernel
theorem dX10_draw_6 : decode cX10_draw 6 = .ok (.ldc2_w 330, 3) := by decide +kernel
theorem dX10_draw_9 : decode cX10_draw 9 = .ok (.lmul, 1) := by decide +kernel
theorem dX10_draw_10 : decode cX10_draw 10 = .ok (.ldc2_w 332, 3) := by decide +kernel
theorem dX10_draw_13 : decode cX10_draw 13 = .ok (.ladd, 1) := by decide +kernel
theorem dX10_draw_14 : decode cX10_draw 14 = .ok (.ldc2_w 334, 3) := by decide +kernel
theorem dX10_draw_17 : decode cX10_draw 17 = .ok (.land, 1) := by decide +kernel
theorem dX10_draw_18 : decode cX10_draw 18 = .ok (.l2i, 1) := by decide +kernel
theorem dX10_draw_19 : decode cX10_draw 19 = .ok (.putfield 88, 3) := by decide +kernel
theorem dX10_draw_22 : decode cX10_draw 22 = .ok (.iload_n 1, 1) := by decide +kernel
theorem dX10_draw_23 : decode cX10_draw 23 = .ok (.ifCond .le 16, 3) := by decide +kernel
theorem dX10_draw_26 : decode cX10_draw 26 = .ok (.aload_n 0, 1) := by decide +kernel
theorem dX10_draw_27 : decode cX10_draw 27 = .ok (.getfield 88, 3) := by decide +kernel
theorem dX10_draw_30 : decode cX10_draw 30 = .ok (.ldc_w 336, 3) := by decide +kernel
theorem dX10_draw_33 : decode cX10_draw 33 = .ok (.idiv, 1) := by decide +kernel
theorem dX10_draw_34 : decode cX10_draw 34 = .ok (.iload_n 1, 1) := by decide +kernel
theorem dX10_draw_35 : decode cX10_draw 35 = .ok (.irem, 1) := by decide +kernel
theorem dX10_draw_36 : decode cX10_draw 36 = .ok (.goto 4, 3) := by decide +kernel
theorem dX10_draw_39 : decode cX10_draw 39 = .ok (.iconst 0, 1) := by decide +kernel
theorem dX10_draw_40 : decode cX10_draw 40 = .ok (.ireturn, 1) := by decide +kernel
theorem dX11_init_0 : decode cX11_init 0 = .ok (.aload_n 0, 1) := by decide +kernel
theorem dX11_init_1 : decode cX11_init 1 = .ok (.invokespecial 1, 3) := by decide +kernel
theorem dX11_init_4 : decode cX11_init 4 = .ok (.aload_n 0, 1) := by decide +kernel
theorem dX11_init_5 : decode cX11_init 5 = .ok (.bipush 7, 2) := by decide +kernel
theorem dX11_init_7 : decode cX11_init 7 = .ok (.newarray .int, 2) := by decide +kernel
theorem dX11_init_9 : decode cX11_init 9 = .ok (.putfield 7, 3) := by decide +kernel
theorem dX11_init_12 : decode cX11_init 12 = .ok (.aload_n 0, 1) := by decide +kernel
theorem dX11_init_13 : decode cX11_init 13 = .ok (.bipush 7, 2) := by decide +kernel
theorem dX11_init_15 : decode cX11_init 15 = .ok (.newarray .int, 2) := by decide +kernel
theorem dX11_init_17 : decode cX11_init 17 = .ok (.putfield 13, 3) := by decide +kernel
theorem dX11_init_20 : decode cX11_init 20 = .ok (.aload_n 0, 1) := by decide +kernel
theorem dX11_init_21 : decode cX11_init 21 = .ok (.iconst 5, 1) := by decide +kernel
theorem dX11_init_22 : decode cX11_init 22 = .ok (.newarray .int, 2) := by decide +kernel
theorem dX11_init_24 : decode cX11_init 24 = .ok (.putfield 16, 3) := by decide +kernel
theorem dX11_init_27 : decode cX11_init 27 = .ok (.aload_n 0, 1) := by decide +kernel
theorem dX11_init_28 : decode cX11_init 28 = .ok (.iconst 5, 1) := by decide +kernel
theorem dX11_init_29 : decode cX11_init 29 = .ok (.newarray .int, 2) := by decide +kernel
theorem dX11_init_31 : decode cX11_init 31 = .ok (.putfield 19, 3) := by decide +kernel
theorem dX11_init_34 : decode cX11_init 34 = .ok (.aload_n 0, 1) := by decide +kernel
theorem dX11_init_35 : decode cX11_init 35 = .ok (.bipush 7, 2) := by decide +kernel
theorem dX11_init_37 : decode cX11_init 37 = .ok (.newarray .int, 2) := by decide +kernel
theorem dX11_init_39 : decode cX11_init 39 = .ok (.putfield 22, 3) := by decide +kernel
theorem dX11_init_42 : decode cX11_init 42 = .ok (.aload_n 0, 1) := by decide +kernel
theorem dX11_init_43 : decode cX11_init 43 = .ok (.bipush 19, 2) := by decide +kernel
theorem dX11_init_45 : decode cX11_init 45 = .ok (.newarray .int, 2) := by decide +kernel
theorem dX11_init_47 : decode cX11_init 47 = .ok (.putfield 25, 3) := by decide +kernel
theorem dX11_init_50 : decode cX11_init 50 = .ok (.aload_n 0, 1) := by decide +kernel
theorem dX11_init_51 : decode cX11_init 51 = .ok (.sipush 240, 3) := by decide +kernel
theorem dX11_init_54 : decode cX11_init 54 = .ok (.newarray .int, 2) := by decide +kernel
theorem dX11_init_56 : decode cX11_init 56 = .ok (.putfield 28, 3) := by decide +kernel
theorem dX11_init_59 : decode cX11_init 59 = .ok (.aload_n 0, 1) := by decide +kernel
theorem dX11_init_60 : decode cX11_init 60 = .ok (.iconst (-1), 1) := by decide +kernel
theorem dX11_init_61 : decode cX11_init 61 = .ok (.putfield 31, 3) := by decide +kernel
theorem dX11_init_64 : decode cX11_init 64 = .ok (.aload_n 0, 1) := by decide +kernel
theorem dX11_init_65 : decode cX11_init 65 = .ok (.iconst 3, 1) := by decide +kernel
theorem dX11_init_66 : decode cX11_init 66 = .ok (.newarray .int, 2) := by decide +kernel
theorem dX11_init_68 : decode cX11_init 68 = .ok (.putfield 35, 3) := by decide +kernel
theorem dX11_init_71 : decode cX11_init 71 = .ok (.aload_n 0, 1) := by decide +kernel
theorem dX11_init_72 : decode cX11_init 72 = .ok (.bipush 7, 2) := by decide +kernel
theorem dX11_init_74 : decode cX11_init 74 = .ok (.newarray .int, 2) := by decide +kernel
theorem dX11_init_76 : decode cX11_init 76 = .ok (.putfield 38, 3) := by decide +kernel
theorem dX11_init_79 : decode cX11_init 79 = .ok (.aload_n 0, 1) := by decide +kernel
theorem dX11_init_80 : decode cX11_init 80 = .ok (.bipush 7, 2) := by decide +kernel
theorem dX11_init_82 : decode cX11_init 82 = .ok (.newarray .int, 2) := by decide +kernel
theorem dX11_init_84 : decode cX11_init 84 = .ok (.putfield 41, 3) := by decide +kernel
theorem dX11_init_87 : decode cX11_init 87 = .ok (.aload_n 0, 1) := by decide +kernel
theorem dX11_init_88 : decode cX11_init 88 = .ok (.iconst 5, 1) := by decide +kernel
theorem dX11_init_89 : decode cX11_init 89 = .ok (.newarray .int, 2) := by decide +kernel
theorem dX11_init_91 : decode cX11_init 91 = .ok (.putfield 44, 3) := by decide +kernel
theorem dX11_init_94 : decode cX11_init 94 = .ok (.aload_n 0, 1) := by decide +kernel
theorem dX11_init_95 : decode cX11_init 95 = .ok (.iconst 5, 1) := by decide +kernel
theorem dX11_init_96 : decode cX11_init 96 = .ok (.newarray .int, 2) := by decide +kernel
theorem dX11_init_98 : decode cX11_init 98 = .ok (.putfield 47, 3) := by decide +kernel
theorem dX11_init_101 : decode cX11_init 101 = .ok (.aload_n 0, 1) := by decide +kernel
theorem dX11_init_102 : decode cX11_init 102 = .ok (.sipush 380, 3) := by decide +kernel
theorem dX11_init_105 : decode cX11_init 105 = .ok (.newarray .int, 2) := by decide +kernel
theorem dX11_init_107 : decode cX11_init 107 = .ok (.putfield 50, 3) := by decide +kernel
theorem dX11_init_110 : decode cX11_init 110 = .ok (.aload_n 0, 1) := by decide +kernel
theorem dX11_init_111 : decode cX11_init 111 = .ok (.bipush 7, 2) := by decide +kernel
theorem dX11_init_113 : decode cX11_init 113 = .ok (.newarray .int, 2) := by decide +kernel
theorem dX11_init_115 : decode cX11_init 115 = .ok (.putfield 53, 3) := by decide +kernel
theorem dX11_init_118 : decode cX11_init 118 = .ok (.aload_n 0, 1) := by decide +kernel
theorem dX11_init_119 : decode cX11_init 119 = .ok (.bipush 7, 2) := by decide +kernel
theorem dX11_init_121 : decode cX11_init 121 = .ok (.newarray .int, 2) := by decide +kernel
theorem dX11_init_123 : decode cX11_init 123 = .ok (.putfield 56, 3) := by decide +kernel
theorem dX11_init_126 : decode cX11_init 126 = .ok (.aload_n 0, 1) := by decide +kernel
theorem dX11_init_127 : decode cX11_init 127 = .ok (.iconst 3, 1) := by decide +kernel
theorem dX11_init_128 : decode cX11_init 128 = .ok (.newarray .int, 2) := by decide +kernel
theorem dX11_init_130 : decode cX11_init 130 = .ok (.putfield 59, 3) := by decide +kernel
theorem dX11_init_133 : decode cX11_init 133 = .ok (.aload_n 0, 1) := by decide +kernel
theorem dX11_init_134 : decode cX11_init 134 = .ok (.iconst 5, 1) := by decide +kernel
theorem dX11_init_135 : decode cX11_init 135 = .ok (.newarray .int, 2) := by decide +kernel
theorem dX11_init_137 : decode cX11_init 137 = .ok (.putfield 62, 3) := by decide +kernel
theorem dX11_init_140 : decode cX11_init 140 = .ok (.aload_n 0, 1) := by decide +kernel
theorem dX11_init_141 : decode cX11_init 141 = .ok (.iconst 5, 1) := by decide +kernel
theorem dX11_init_142 : decode cX11_init 142 = .ok (.newarray .int, 2) := by decide +kernel
theorem dX11_init_144 : decode cX11_init 144 = .ok (.putfield 65, 3) := by decide +kernel
theorem dX11_init_147 : decode cX11_init 147 = .ok (.aload_n 0, 1) := by decide +kernel
theorem dX11_init_148 : decode cX11_init 148 = .ok (.bipush 6, 2) := by decide +kernel
theorem dX11_init_150 : decode cX11_init 150 = .ok (.newarray .int, 2) := by decide +kernel
theorem dX11_init_152 : decode cX11_init 152 = .ok (.putfield 68, 3) := by decide +kernel
theorem dX11_init_155 : decode cX11_init 155 = .ok (.aload_n 0, 1) := by decide +kernel
theorem dX11_init_156 : decode cX11_init 156 = .ok (.bipush 6, 2) := by decide +kernel
theorem dX11_init_158 : decode cX11_init 158 = .ok (.newarray .int, 2) := by decide +kernel
theorem dX11_init_160 : decode cX11_init 160 = .ok (.putfield 71, 3) := by decide +kernel
theorem dX11_init_163 : decode cX11_init 163 = .ok (.aload_n 0, 1) := by decide +kernel
theorem dX11_init_164 : decode cX11_init 164 = .ok (.bipush 31, 2) := by decide +kernel
theorem dX11_init_166 : decode cX11_init 166 = .ok (.newarray .int, 2) := by decide +kernel
theorem dX11_init_168 : decode cX11_init 168 = .ok (.putfield 74, 3) := by decide +kernel
theorem dX11_init_171 : decode cX11_init 171 = .ok (.aload_n 0, 1) := by decide +kernel
theorem dX11_init_172 : decode cX11_init 172 = .ok (.bipush 15, 2) := by decide +kernel
theorem dX11_init_174 : decode cX11_init 174 = .ok (.newarray .int, 2) := by decide +kernel
theorem dX11_init_176 : decode cX11_init 176 = .ok (.putfield 77, 3) := by decide +kernel
theorem dX11_init_179 : decode cX11_init 179 = .ok (.aload_n 0, 1) := by decide +kernel
theorem dX11_init_180 : decode cX11_init 180 = .ok (.bipush 15, 2) := by decide +kernel
theorem dX11_init_182 : decode cX11_init 182 = .ok (.newarray .int, 2) := by decide +kernel
theorem dX11_init_184 : decode cX11_init 184 = .ok (.putfield 80, 3) := by decide +kernel
theorem dX11_init_187 : decode cX11_init 187 = .ok (.aload_n 0, 1) := by decide +kernel
theorem dX11_init_188 : decode cX11_init 188 = .ok (.bipush 40, 2) := by decide +kernel
theorem dX11_init_190 : decode cX11_init 190 = .ok (.newarray .int, 2) := by decide +kernel
theorem dX11_init_192 : decode cX11_init 192 = .ok (.putfield 83, 3) := by decide +kernel
theorem dX11_init_195 : decode cX11_init 195 = .ok (.aload_n 0, 1) := by decide +kernel
theorem dX11_init_196 : decode cX11_init 196 = .ok (.iconst 2, 1) := by decide +kernel
theorem dX11_init_197 : decode cX11_init 197 = .ok (.newarray .boolean, 2) := by decide +kernel
theorem dX11_init_199 : decode cX11_init 199 = .ok (.putfield 86, 3) := by decide +kernel
theorem dX11_init_202 : decode cX11_init 202 = .ok (.aload_n 0, 1) := by decide +kernel
theorem dX11_init_203 : decode cX11_init 203 = .ok (.iconst 0, 1) := by decide +kernel
theorem dX11_init_204 : decode cX11_init 204 = .ok (.putfield 90, 3) := by decide +kernel
theorem dX11_init_207 : decode cX11_init 207 = .ok (.return_, 1) := by decide +kernel
theorem dX11_in_0 : decode cX11_in 0 = .ok (.lload_n 0, 1) := by decide +kernel
theorem dX11_in_1 : decode cX11_in 1 = .ok (.lload_n 2, 1) := by decide +kernel
theorem dX11_in_2 : decode cX11_in 2 = .ok (.lcmp, 1) := by decide +kernel
theorem dX11_in_3 : decode cX11_in 3 = .ok (.ifCond .lt 14, 3) := by decide +kernel
theorem dX11_in_6 : decode cX11_in 6 = .ok (.lload_n 0, 1) := by decide +kernel
theorem dX11_in_7 : decode cX11_in 7 = .ok (.lload 4, 2) := by decide +kernel
theorem dX11_in_9 : decode cX11_in 9 = .ok (.lcmp, 1) := by decide +kernel
theorem dX11_in_10 : decode cX11_in 10 = .ok (.ifCond .gt 7, 3) := by decide +kernel
theorem dX11_in_13 : decode cX11_in 13 = .ok (.iconst 1, 1) := by decide +kernel
theorem dX11_in_14 : decode cX11_in 14 = .ok (.goto 4, 3) := by decide +kernel
theorem dX11_in_17 : decode cX11_in 17 = .ok (.iconst 0, 1) := by decide +kernel
theorem dX11_in_18 : decode cX11_in 18 = .ok (.ireturn, 1) := by decide +kernel
theorem dX11_has_0 : decode cX11_has 0 = .ok (.iload_n 0, 1) := by decide +kernel
theorem dX11_has_1 : decode cX11_has 1 = .ok (.iload_n 1, 1) := by decide +kernel
theorem dX11_has_2 : decode cX11_has 2 = .ok (.ishr, 1) := by decide +kernel
theorem dX11_has_3 : decode cX11_has 3 = .ok (.iconst 1, 1) := by decide +kernel
theorem dX11_has_4 : decode cX11_has 4 = .ok (.iand, 1) := by decide +kernel
theorem dX11_has_5 : decode cX11_has 5 = .ok (.iconst 1, 1) := by decide +kernel
theorem dX11_has_6 : decode cX11_has 6 = .ok (.if_icmp .ne 7, 3) := by decide +kernel
theorem dX11_has_9 : decode cX11_has 9 = .ok (.iconst 1, 1) := by decide +kernel
theorem dX11_has_10 : decode cX11_has 10 = .ok (.goto 4, 3) := by decide +kernel
theorem dX11_has_13 : decode cX11_has 13 = .ok (.iconst 0, 1) := by decide +kernel
theorem dX11_has_14 : decode cX11_has 14 = .ok (.ireturn, 1) := by decide +kernel
set_option maxRecDepth 20000 in
theorem ggX11_isEgg_X11_in : GoodIn wsX11_isEgg wsX11_in := goodIn_r _ [5] (by decide +kernel) (by decide +kernel)
set_option maxRecDepth 20000 in
theorem gX11_isEgg_X11_in : GoodIn wsX11_isEgg (va_wsS RX11 96 yX11_in wsX11_in) := goodIn_app (goodIn_of _ (by decide +kernel)) ggX11_isEgg_X11_in
theorem dX11_isEgg_0 : decode cX11_isEgg 0 = .ok (.iload_n 1, 1) := by decide +kernel
theorem dX11_isEgg_1 : decode cX11_isEgg 1 = .ok (.i2l, 1) := by decide +kernel
theorem dX11_isEgg_2 : decode cX11_isEgg 2 = .ok (.lconst 0, 1) := by decide +kernel
theorem dX11_isEgg_3 : decode cX11_isEgg 3 = .ok (.aload_n 0, 1) := by decide +kernel
theorem dX11_isEgg_4 : decode cX11_isEgg 4 = .ok (.getfield 93, 3) := by decide +kernel
theorem dX11_isEgg_7 : decode cX11_isEgg 7 = .ok (.iconst 1, 1) := by decide +kernel
theorem dX11_isEgg_8 : decode cX11_isEgg 8 = .ok (.isub, 1) := by decide +kernel
theorem dX11_isEgg_9 : decode cX11_isEgg 9 = .ok (.i2l, 1) := by decide +kernel
theorem dX11_isEgg_10 : decode cX11_isEgg 10 = .ok (.invokestatic 96, 3) := by decide +kernel
theorem dX11_isEgg_13 : decode cX11_isEgg 13 = .ok (.ireturn, 1) := by decide +kernel
set_option maxRecDepth 20000 in
theorem ggX11_isEater_X11_in : GoodIn wsX11_isEater wsX11_in := goodIn_r _ [5] (by decide +kernel) (by decide +kernel)
set_option maxRecDepth 20000 in
theorem gX11_isEater_X11_in : GoodIn wsX11_isEater (va_wsS RX11 96 yX11_in wsX11_in) := goodIn_app (goodIn_of _ (by decide +kernel)) ggX11_isEater_X11_in
theorem dX11_isEater_0 : decode cX11_isEater 0 = .ok (.iload_n 1, 1) := by decide +kernel
theorem dX11_isEater_1 : decode cX11_isEater 1 = .ok (.i2l, 1) := by decide +kernel
theorem dX11_isEater_2 : decode cX11_isEater 2 = .ok (.lconst 0, 1) := by decide +kernel
theorem dX11_isEater_3 : decode cX11_isEater 3 = .ok (.aload_n 0, 1) := by decide +kernel
theorem dX11_isEater_4 : decode cX11_isEater 4 = .ok (.getfield 100, 3) := by decide +kernel
theorem dX11_isEater_7 : decode cX11_isEater 7 = .ok (.iconst 1, 1) := by decide +kernel
theorem dX11_isEater_8 : decode cX11_isEater 8 = .ok (.isub, 1) := by decide +kernel
theorem dX11_isEater_9 : decode cX11_isEater 9 = .ok (.i2l, 1) := by decide +kernel
theorem dX11_isEater_10 : decode cX11_isEater 10 = .ok (.invokestatic 96, 3) := by decide +kernel
theorem dX11_isEater_13 : decode cX11_isEater 13 = .ok (.ireturn, 1) := by decide +kernel
set_option maxRecDepth 20000 in
theorem ggX11_feed_X11_in : GoodIn wsX11_feed wsX11_in := goodIn_r _ [9] (by decide +kernel) (by decide +kernel)
set_option maxRecDepth 20000 in
theorem gX11_feed_X11_in : GoodIn wsX11_feed (va_wsS RX11 96 yX11_in wsX11_in) := goodIn_app (goodIn_of _ (by decide +kernel)) ggX11_feed_X11_in
theorem dX11_feed_0 : decode cX11_feed 0 = .ok (.iload_n 1, 1) := by decide +kernel
theorem dX11_feed_1 : decode cX11_feed 1 = .ok (.i2l, 1) := by decide +kernel
theorem dX11_feed_2 : decode cX11_feed 2 = .ok (.lconst 0, 1) := by decide +kernel
theorem dX11_feed_3 : decode cX11_feed 3 = .ok (.ldc2_w 103, 3) := by decide +kernel
theorem dX11_feed_6 : decode cX11_feed 6 = .ok (.invokestatic 96, 3) := by decide +kernel
theorem dX11_feed_9 : decode cX11_feed 9 = .ok (.ifCond .ne 6, 3) := by decide +kernel
theorem dX11_feed_12 : decode cX11_feed 12 = .ok (.ldc 105, 2) := by decide +kernel
theorem dX11_feed_14 : decode cX11_feed 14 = .ok (.ireturn, 1) := by decide +kernel
theorem dX11_feed_15 : decode cX11_feed 15 = .ok (.aload_n 0, 1) := by decide +kernel
theorem dX11_feed_16 : decode cX11_feed 16 = .ok (.getfield 106, 3) := by decide +kernel
theorem dX11_feed_19 : decode cX11_feed 19 = .ok (.sipush 240, 3) := by decide +kernel
theorem dX11_feed_22 : decode cX11_feed 22 = .ok (.if_icmp .ne 6, 3) := by decide +kernel
theorem dX11_feed_25 : decode cX11_feed 25 = .ok (.ldc 109, 2) := by decide +kernel
theorem dX11_feed_27 : decode cX11_feed 27 = .ok (.ireturn, 1) := by decide +kernel
theorem dX11_feed_28 : decode cX11_feed 28 = .ok (.aload_n 0, 1) := by decide +kernel
theorem dX11_feed_29 : decode cX11_feed 29 = .ok (.getfield 28, 3) := by decide +kernel
theorem dX11_feed_32 : decode cX11_feed 32 = .ok (.aload_n 0, 1) := by decide +kernel
theorem dX11_feed_33 : decode cX11_feed 33 = .ok (.getfield 106, 3) := by decide +kernel
theorem dX11_feed_36 : decode cX11_feed 36 = .ok (.iload_n 1, 1) := by decide +kernel
theorem dX11_feed_37 : decode cX11_feed 37 = .ok (.iastore, 1) := by decide +kernel
theorem dX11_feed_38 : decode cX11_feed 38 = .ok (.aload_n 0, 1) := by decide +kernel
theorem dX11_feed_39 : decode cX11_feed 39 = .ok (.dup, 1) := by decide +kernel
theorem dX11_feed_40 : decode cX11_feed 40 = .ok (.getfield 106, 3) := by decide +kernel
theorem dX11_feed_43 : decode cX11_feed 43 = .ok (.iconst 1, 1) := by decide +kernel
theorem dX11_feed_44 : decode cX11_feed 44 = .ok (.iadd, 1) := by decide +kernel
theorem dX11_feed_45 : decode cX11_feed 45 = .ok (.putfield 106, 3) := by decide +kernel
theorem dX11_feed_48 : decode cX11_feed 48 = .ok (.aload_n 0, 1) := by decide +kernel
theorem dX11_feed_49 : decode cX11_feed 49 = .ok (.getfield 106, 3) := by decide +kernel
theorem dX11_feed_52 : decode cX11_feed 52 = .ok (.ireturn, 1) := by decide +kernel
theorem dX11_here_0 : decode cX11_here 0 = .ok (.aload_n 0, 1) := by decide +kernel
theorem dX11_here_1 : decode cX11_here 1 = .ok (.getfield 110, 3) := by decide +kernel
theorem dX11_here_4 : decode cX11_here 4 = .ok (.aload_n 0, 1) := by decide +kernel
theorem dX11_here_5 : decode cX11_here 5 = .ok (.getfield 106, 3) := by decide +kernel
theorem dX11_here_8 : decode cX11_here 8 = .ok (.if_icmp .ge 30, 3) := by decide +kernel
theorem dX11_here_11 : decode cX11_here 11 = .ok (.aload_n 0, 1) := by decide +kernel
theorem dX11_here_12 : decode cX11_here 12 = .ok (.getfield 28, 3) := by decide +kernel
theorem dX11_here_15 : decode cX11_here 15 = .ok (.aload_n 0, 1) := by decide +kernel
theorem dX11_here_16 : decode cX11_here 16 = .ok (.getfield 110, 3) := by decide +kernel
theorem dX11_here_19 : decode cX11_here 19 = .ok (.iaload, 1) := by decide +kernel
theorem dX11_here_20 : decode cX11_here 20 = .ok (.bipush 32, 2) := by decide +kernel
theorem dX11_here_22 : decode cX11_here 22 = .ok (.if_icmp .ne 16, 3) := by decide +kernel
theorem dX11_here_25 : decode cX11_here 25 = .ok (.aload_n 0, 1) := by decide +kernel
theorem dX11_here_26 : decode cX11_here 26 = .ok (.dup, 1) := by decide +kernel
theorem dX11_here_27 : decode cX11_here 27 = .ok (.getfield 110, 3) := by decide +kernel
theorem dX11_here_30 : decode cX11_here 30 = .ok (.iconst 1, 1) := by decide +kernel
theorem dX11_here_31 : decode cX11_here 31 = .ok (.iadd, 1) := by decide +kernel
theorem dX11_here_32 : decode cX11_here 32 = .ok (.putfield 110, 3) := by decide +kernel
theorem dX11_here_35 : decode cX11_here 35 = .ok (.goto (-35), 3) := by decide +kernel
theorem dX11_here_38 : decode cX11_here 38 = .ok (.aload_n 0, 1) := by decide +kernel
theorem dX11_here_39 : decode cX11_here 39 = .ok (.getfield 110, 3) := by decide +kernel
theorem dX11_here_42 : decode cX11_here 42 = .ok (.aload_n 0, 1) := by decide +kernel
theorem dX11_here_43 : decode cX11_here 43 = .ok (.getfield 106, 3) := by decide +kernel
theorem dX11_here_46 : decode cX11_here 46 = .ok (.if_icmp .ge 15, 3) := by decide +kernel
theorem dX11_here_49 : decode cX11_here 49 = .ok (.aload_n 0, 1) := by decide +kernel
theorem dX11_here_50 : decode cX11_here 50 = .ok (.getfield 28, 3) := by decide +kernel
theorem dX11_here_53 : decode cX11_here 53 = .ok (.aload_n 0, 1) := by decide +kernel
theorem dX11_here_54 : decode cX11_here 54 = .ok (.getfield 110, 3) := by decide +kernel
theorem dX11_here_57 : decode cX11_here 57 = .ok (.iaload, 1) := by decide +kernel
theorem dX11_here_58 : decode cX11_here 58 = .ok (.goto 4, 3) := by decide +kernel
theorem dX11_here_61 : decode cX11_here 61 = .ok (.iconst (-1), 1) := by decide +kernel
theorem dX11_here_62 : decode cX11_here 62 = .ok (.ireturn, 1) := by decide +kernel
theorem dX11_fails_0 : decode cX11_fails 0 = .ok (.aload_n 0, 1) := by decide +kernel
theorem dX11_fails_1 : decode cX11_fails 1 = .ok (.iload_n 2, 1) := by decide +kernel
theorem dX11_fails_2 : decode cX11_fails 2 = .ok (.putfield 31, 3) := by decide +kernel
theorem dX11_fails_5 : decode cX11_fails 5 = .ok (.iload_n 1, 1) := by decide +kernel
theorem dX11_fails_6 : decode cX11_fails 6 = .ok (.ireturn, 1) := by decide +kernel
set_option maxRecDepth 20000 in
theorem ggX11_takeNumber_X11_here : GoodIn wsX11_takeNumber wsX11_here := goodIn_r _ [12, 3, 6, 7, 21, 22, 23, 24, 25, 26, 27, 28, 29, 30, 31, 32, 33, 34, 35, 36, 37, 38, 39, 40, 41, 42, 43, 44, 45, 46, 47, 48, 49, 50, 51, 52, 53, 54, 55, 56, 57, 58, 59, 60] (by decide +kernel) (by decide +kernel)
set_option maxRecDepth 20000 in
theorem gX11_takeNumber_X11_here : GoodIn wsX11_takeNumber (wsV RX11 113 RX11 yX11_here wsX11_here) := goodIn_app (goodIn_of _ (by decide +kernel)) ggX11_takeNumber_X11_here
set_option maxRecDepth 20000 in
theorem ggX11_takeNumber_X11_in : GoodIn wsX11_takeNumber wsX11_in := goodIn_r _ [15] (by decide +kernel) (by decide +kernel)
set_option maxRecDepth 20000 in
theorem gX11_takeNumber_X11_in : GoodIn wsX11_takeNumber (va_wsS RX11 96 yX11_in wsX11_in) := goodIn_app (goodIn_of _ (by decide +kernel)) ggX11_takeNumber_X11_in
set_option maxRecDepth 20000 in
theorem ggX11_takeNumber_X11_fails : GoodIn wsX11_takeNumber wsX11_fails := goodIn_r _ [19, 20, 21, 22, 23, 24, 25, 26, 27, 28, 29, 30, 31, 32, 33, 34, 35, 36, 37, 38, 39, 40, 41, 42, 43, 44, 45, 46, 47, 48, 49, 50, 51, 52, 53, 54, 55, 56, 57, 58, 59, 60] (by decide +kernel) (by decide +kernel)
set_option maxRecDepth 20000 in
theorem gX11_takeNumber_X11_fails : GoodIn wsX11_takeNumber (wsV RX11 121 RX11 yX11_fails wsX11_fails) := goodIn_app (goodIn_of _ (by decide +kernel)) ggX11_takeNumber_X11_fails
theorem dX11_takeNumber_0 : decode cX11_takeNumber 0 = .ok (.aload_n 0, 1) := by decide +kernel
theorem dX11_takeNumber_1 : decode cX11_takeNumber 1 = .ok (.invokevirtual 113, 3) := by decide +kernel
theorem dX11_takeNumber_4 : decode cX11_takeNumber 4 = .ok (.istore_n 3, 1) := by decide +kernel
theorem dX11_takeNumber_5 : decode cX11_takeNumber 5 = .ok (.iload_n 3, 1) := by decide +kernel
theorem dX11_takeNumber_6 : decode cX11_takeNumber 6 = .ok (.i2l, 1) := by decide +kernel
theorem dX11_takeNumber_7 : decode cX11_takeNumber 7 = .ok (.ldc2_w 117, 3) := by decide +kernel
theorem dX11_takeNumber_10 : decode cX11_takeNumber 10 = .ok (.ldc2_w 119, 3) := by decide +kernel
theorem dX11_takeNumber_13 : decode cX11_takeNumber 13 = .ok (.invokestatic 96, 3) := by decide +kernel
theorem dX11_takeNumber_16 : decode cX11_takeNumber 16 = .ok (.ifCond .ne 13, 3) := by decide +kernel
theorem dX11_takeNumber_19 : decode cX11_takeNumber 19 = .ok (.aload_n 0, 1) := by decide +kernel
theorem dX11_takeNumber_20 : decode cX11_takeNumber 20 = .ok (.iconst 1, 1) := by decide +kernel
theorem dX11_takeNumber_21 : decode cX11_takeNumber 21 = .ok (.aload_n 0, 1) := by decide +kernel
theorem dX11_takeNumber_22 : decode cX11_takeNumber 22 = .ok (.getfield 110, 3) := by decide +kernel
theorem dX11_takeNumber_25 : decode cX11_takeNumber 25 = .ok (.invokevirtual 121, 3) := by decide +kernel
theorem dX11_takeNumber_28 : decode cX11_takeNumber 28 = .ok (.ireturn, 1) := by decide +kernel
theorem dX11_takeNumber_29 : decode cX11_takeNumber 29 = .ok (.aload_n 0, 1) := by decide +kernel
theorem dX11_takeNumber_30 : decode cX11_takeNumber 30 = .ok (.aload_n 0, 1) := by decide +kernel
theorem dX11_takeNumber_31 : decode cX11_takeNumber 31 = .ok (.getfield 110, 3) := by decide +kernel
theorem dX11_takeNumber_34 : decode cX11_takeNumber 34 = .ok (.putfield 125, 3) := by decide +kernel
theorem dX11_takeNumber_37 : decode cX11_takeNumber 37 = .ok (.aload_n 0, 1) := by decide +kernel
theorem dX11_takeNumber_38 : decode cX11_takeNumber 38 = .ok (.iconst 0, 1) := by decide +kernel
theorem dX11_takeNumber_39 : decode cX11_takeNumber 39 = .ok (.putfield 128, 3) := by decide +kernel
theorem dX11_takeNumber_42 : decode cX11_takeNumber 42 = .ok (.aload_n 0, 1) := by decide +kernel
theorem dX11_takeNumber_43 : decode cX11_takeNumber 43 = .ok (.getfield 110, 3) := by decide +kernel
theorem dX11_takeNumber_46 : decode cX11_takeNumber 46 = .ok (.aload_n 0, 1) := by decide +kernel
theorem dX11_takeNumber_47 : decode cX11_takeNumber 47 = .ok (.getfield 106, 3) := by decide +kernel
theorem dX11_takeNumber_50 : decode cX11_takeNumber 50 = .ok (.if_icmp .ge 79, 3) := by decide +kernel
theorem dX11_takeNumber_53 : decode cX11_takeNumber 53 = .ok (.aload_n 0, 1) := by decide +kernel
theorem dX11_takeNumber_54 : decode cX11_takeNumber 54 = .ok (.getfield 28, 3) := by decide +kernel
theorem dX11_takeNumber_57 : decode cX11_takeNumber 57 = .ok (.aload_n 0, 1) := by decide +kernel
theorem dX11_takeNumber_58 : decode cX11_takeNumber 58 = .ok (.getfield 110, 3) := by decide +kernel
theorem dX11_takeNumber_61 : decode cX11_takeNumber 61 = .ok (.iaload, 1) := by decide +kernel
theorem dX11_takeNumber_62 : decode cX11_takeNumber 62 = .ok (.i2l, 1) := by decide +kernel
theorem dX11_takeNumber_63 : decode cX11_takeNumber 63 = .ok (.ldc2_w 117, 3) := by decide +kernel
theorem dX11_takeNumber_66 : decode cX11_takeNumber 66 = .ok (.ldc2_w 119, 3) := by decide +kernel
theorem dX11_takeNumber_69 : decode cX11_takeNumber 69 = .ok (.invokestatic 96, 3) := by decide +kernel
theorem dX11_takeNumber_72 : decode cX11_takeNumber 72 = .ok (.ifCond .eq 57, 3) := by decide +kernel
theorem dX11_takeNumber_75 : decode cX11_takeNumber 75 = .ok (.aload_n 0, 1) := by decide +kernel
theorem dX11_takeNumber_76 : decode cX11_takeNumber 76 = .ok (.aload_n 0, 1) := by decide +kernel
theorem dX11_takeNumber_77 : decode cX11_takeNumber 77 = .ok (.getfield 128, 3) := by decide +kernel
theorem dX11_takeNumber_80 : decode cX11_takeNumber 80 = .ok (.sipush 10000, 3) := by decide +kernel
theorem dX11_takeNumber_83 : decode cX11_takeNumber 83 = .ok (.if_icmp .le 10, 3) := by decide +kernel
theorem dX11_takeNumber_86 : decode cX11_takeNumber 86 = .ok (.aload_n 0, 1) := by decide +kernel
theorem dX11_takeNumber_87 : decode cX11_takeNumber 87 = .ok (.getfield 128, 3) := by decide +kernel
theorem dX11_takeNumber_90 : decode cX11_takeNumber 90 = .ok (.goto 23, 3) := by decide +kernel
theorem dX11_takeNumber_93 : decode cX11_takeNumber 93 = .ok (.bipush 10, 2) := by decide +kernel
theorem dX11_takeNumber_95 : decode cX11_takeNumber 95 = .ok (.aload_n 0, 1) := by decide +kernel
theorem dX11_takeNumber_96 : decode cX11_takeNumber 96 = .ok (.getfield 128, 3) := by decide +kernel
theorem dX11_takeNumber_99 : decode cX11_takeNumber 99 = .ok (.imul, 1) := by decide +kernel
theorem dX11_takeNumber_100 : decode cX11_takeNumber 100 = .ok (.aload_n 0, 1) := by decide +kernel
theorem dX11_takeNumber_101 : decode cX11_takeNumber 101 = .ok (.getfield 28, 3) := by decide +kernel
theorem dX11_takeNumber_104 : decode cX11_takeNumber 104 = .ok (.aload_n 0, 1) := by decide +kernel
theorem dX11_takeNumber_105 : decode cX11_takeNumber 105 = .ok (.getfield 110, 3) := by decide +kernel
theorem dX11_takeNumber_108 : decode cX11_takeNumber 108 = .ok (.iaload, 1) := by decide +kernel
theorem dX11_takeNumber_109 : decode cX11_takeNumber 109 = .ok (.iadd, 1) := by decide +kernel
theorem dX11_takeNumber_110 : decode cX11_takeNumber 110 = .ok (.bipush 48, 2) := by decide +kernel
theorem dX11_takeNumber_112 : decode cX11_takeNumber 112 = .ok (.isub, 1) := by decide +kernel
theorem dX11_takeNumber_113 : decode cX11_takeNumber 113 = .ok (.putfield 128, 3) := by decide +kernel
theorem dX11_takeNumber_116 : decode cX11_takeNumber 116 = .ok (.aload_n 0, 1) := by decide +kernel
theorem dX11_takeNumber_117 : decode cX11_takeNumber 117 = .ok (.dup, 1) := by decide +kernel
theorem dX11_takeNumber_118 : decode cX11_takeNumber 118 = .ok (.getfield 110, 3) := by decide +kernel
theorem dX11_takeNumber_121 : decode cX11_takeNumber 121 = .ok (.iconst 1, 1) := by decide +kernel
theorem dX11_takeNumber_122 : decode cX11_takeNumber 122 = .ok (.iadd, 1) := by decide +kernel
theorem dX11_takeNumber_123 : decode cX11_takeNumber 123 = .ok (.putfield 110, 3) := by decide +kernel
theorem dX11_takeNumber_126 : decode cX11_takeNumber 126 = .ok (.goto (-84), 3) := by decide +kernel
theorem dX11_takeNumber_129 : decode cX11_takeNumber 129 = .ok (.aload_n 0, 1) := by decide +kernel
theorem dX11_takeNumber_130 : decode cX11_takeNumber 130 = .ok (.getfield 110, 3) := by decide +kernel
theorem dX11_takeNumber_133 : decode cX11_takeNumber 133 = .ok (.aload_n 0, 1) := by decide +kernel
theorem dX11_takeNumber_134 : decode cX11_takeNumber 134 = .ok (.getfield 125, 3) := by decide +kernel
theorem dX11_takeNumber_137 : decode cX11_takeNumber 137 = .ok (.isub, 1) := by decide +kernel
theorem dX11_takeNumber_138 : decode cX11_takeNumber 138 = .ok (.iconst 3, 1) := by decide +kernel
theorem dX11_takeNumber_139 : decode cX11_takeNumber 139 = .ok (.if_icmp .gt 18, 3) := by decide +kernel
theorem dX11_takeNumber_142 : decode cX11_takeNumber 142 = .ok (.aload_n 0, 1) := by decide +kernel
theorem dX11_takeNumber_143 : decode cX11_takeNumber 143 = .ok (.getfield 128, 3) := by decide +kernel
theorem dX11_takeNumber_146 : decode cX11_takeNumber 146 = .ok (.i2l, 1) := by decide +kernel
theorem dX11_takeNumber_147 : decode cX11_takeNumber 147 = .ok (.iload_n 1, 1) := by decide +kernel
theorem dX11_takeNumber_148 : decode cX11_takeNumber 148 = .ok (.i2l, 1) := by decide +kernel
theorem dX11_takeNumber_149 : decode cX11_takeNumber 149 = .ok (.iload_n 2, 1) := by decide +kernel
theorem dX11_takeNumber_150 : decode cX11_takeNumber 150 = .ok (.i2l, 1) := by decide +kernel
theorem dX11_takeNumber_151 : decode cX11_takeNumber 151 = .ok (.invokestatic 96, 3) := by decide +kernel
theorem dX11_takeNumber_154 : decode cX11_takeNumber 154 = .ok (.ifCond .ne 15, 3) := by decide +kernel
theorem dX11_takeNumber_157 : decode cX11_takeNumber 157 = .ok (.aload_n 0, 1) := by decide +kernel
theorem dX11_takeNumber_158 : decode cX11_takeNumber 158 = .ok (.iconst 2, 1) := by decide +kernel
theorem dX11_takeNumber_159 : decode cX11_takeNumber 159 = .ok (.aload_n 0, 1) := by decide +kernel
theorem dX11_takeNumber_160 : decode cX11_takeNumber 160 = .ok (.getfield 125, 3) := by decide +kernel
theorem dX11_takeNumber_163 : decode cX11_takeNumber 163 = .ok (.invokevirtual 121, 3) := by decide +kernel
theorem dX11_takeNumber_166 : decode cX11_takeNumber 166 = .ok (.goto 4, 3) := by decide +kernel
theorem dX11_takeNumber_169 : decode cX11_takeNumber 169 = .ok (.iconst 0, 1) := by decide +kernel
theorem dX11_takeNumber_170 : decode cX11_takeNumber 170 = .ok (.ireturn, 1) := by decide +kernel
set_option maxRecDepth 20000 in
theorem ggX11_into_X11_takeNumber : GoodIn wsX11_into wsX11_takeNumber := goodIn_r _ [6, 7, 8, 9, 10, 1, 11, 12, 13, 14, 15, 5, 16, 17, 18, 19, 20, 21, 22, 23, 24, 25, 26, 27, 28, 29, 30, 31, 32, 33, 34, 35, 36, 37, 38, 39, 40, 41, 42, 43, 44, 45, 46, 47, 48, 49, 50, 51, 52, 53, 54, 55, 56, 57, 58, 59, 60, 61, 62, 63, 64] (by decide +kernel) (by decide +kernel)
set_option maxRecDepth 20000 in
theorem gX11_into_X11_takeNumber : GoodIn wsX11_into (wsV RX11 131 RX11 yX11_takeNumber wsX11_takeNumber) := goodIn_app (goodIn_of _ (by decide +kernel)) ggX11_into_X11_takeNumber
theorem dX11_into_0 : decode cX11_into 0 = .ok (.aload_n 0, 1) := by decide +kernel
theorem dX11_into_1 : decode cX11_into 1 = .ok (.iload_n 3, 1) := by decide +kernel
theorem dX11_into_2 : decode cX11_into 2 = .ok (.iload 4, 2) := by decide +kernel
theorem dX11_into_4 : decode cX11_into 4 = .ok (.invokevirtual 131, 3) := by decide +kernel
theorem dX11_into_7 : decode cX11_into 7 = .ok (.istore 5, 2) := by decide +kernel
theorem dX11_into_9 : decode cX11_into 9 = .ok (.aload_n 1, 1) := by decide +kernel
theorem dX11_into_10 : decode cX11_into 10 = .ok (.iload_n 2, 1) := by decide +kernel
theorem dX11_into_11 : decode cX11_into 11 = .ok (.aload_n 0, 1) := by decide +kernel
theorem dX11_into_12 : decode cX11_into 12 = .ok (.getfield 128, 3) := by decide +kernel
theorem dX11_into_15 : decode cX11_into 15 = .ok (.iastore, 1) := by decide +kernel
theorem dX11_into_16 : decode cX11_into 16 = .ok (.iload 5, 2) := by decide +kernel
theorem dX11_into_18 : decode cX11_into 18 = .ok (.ireturn, 1) := by decide +kernel
set_option maxRecDepth 20000 in
theorem ggX11_takePan_X11_into : GoodIn wsX11_takePan wsX11_into := goodIn_r _ [6, 7, 8, 9, 10, 5, 11, 12, 13, 14, 15, 16, 17, 18, 19, 20, 21, 22, 23, 24, 25, 26, 27, 28, 29, 30, 31, 32, 33, 34, 35, 36, 37, 38, 39, 40, 41, 42, 43, 44, 45, 46, 47, 48, 49, 50, 51, 52, 53, 54, 55, 56, 57, 58, 59, 60, 61, 62, 63, 64, 65, 66, 67, 68, 69] (by decide +kernel) (by decide +kernel)
set_option maxRecDepth 20000 in
theorem gX11_takePan_X11_into : GoodIn wsX11_takePan (wsV RX11 134 RX11 yX11_into wsX11_into) := goodIn_app (goodIn_of _ (by decide +kernel)) ggX11_takePan_X11_into
theorem dX11_takePan_0 : decode cX11_takePan 0 = .ok (.aload_n 0, 1) := by decide +kernel
theorem dX11_takePan_1 : decode cX11_takePan 1 = .ok (.aload_n 0, 1) := by decide +kernel
theorem dX11_takePan_2 : decode cX11_takePan 2 = .ok (.getfield 35, 3) := by decide +kernel
theorem dX11_takePan_5 : decode cX11_takePan 5 = .ok (.iconst 0, 1) := by decide +kernel
theorem dX11_takePan_6 : decode cX11_takePan 6 = .ok (.iconst 1, 1) := by decide +kernel
theorem dX11_takePan_7 : decode cX11_takePan 7 = .ok (.iconst 3, 1) := by decide +kernel
theorem dX11_takePan_8 : decode cX11_takePan 8 = .ok (.invokevirtual 134, 3) := by decide +kernel
theorem dX11_takePan_11 : decode cX11_takePan 11 = .ok (.istore_n 1, 1) := by decide +kernel
theorem dX11_takePan_12 : decode cX11_takePan 12 = .ok (.iload_n 1, 1) := by decide +kernel
theorem dX11_takePan_13 : decode cX11_takePan 13 = .ok (.ifCond .le 7, 3) := by decide +kernel
theorem dX11_takePan_16 : decode cX11_takePan 16 = .ok (.iload_n 1, 1) := by decide +kernel
theorem dX11_takePan_17 : decode cX11_takePan 17 = .ok (.goto 15, 3) := by decide +kernel
theorem dX11_takePan_20 : decode cX11_takePan 20 = .ok (.aload_n 0, 1) := by decide +kernel
theorem dX11_takePan_21 : decode cX11_takePan 21 = .ok (.aload_n 0, 1) := by decide +kernel
theorem dX11_takePan_22 : decode cX11_takePan 22 = .ok (.getfield 35, 3) := by decide +kernel
theorem dX11_takePan_25 : decode cX11_takePan 25 = .ok (.iconst 1, 1) := by decide +kernel
theorem dX11_takePan_26 : decode cX11_takePan 26 = .ok (.iconst 0, 1) := by decide +kernel
theorem dX11_takePan_27 : decode cX11_takePan 27 = .ok (.bipush 99, 2) := by decide +kernel
theorem dX11_takePan_29 : decode cX11_takePan 29 = .ok (.invokevirtual 134, 3) := by decide +kernel
theorem dX11_takePan_32 : decode cX11_takePan 32 = .ok (.istore_n 1, 1) := by decide +kernel
theorem dX11_takePan_33 : decode cX11_takePan 33 = .ok (.iload_n 1, 1) := by decide +kernel
theorem dX11_takePan_34 : decode cX11_takePan 34 = .ok (.ifCond .le 7, 3) := by decide +kernel
theorem dX11_takePan_37 : decode cX11_takePan 37 = .ok (.iload_n 1, 1) := by decide +kernel
theorem dX11_takePan_38 : decode cX11_takePan 38 = .ok (.goto 15, 3) := by decide +kernel
theorem dX11_takePan_41 : decode cX11_takePan 41 = .ok (.aload_n 0, 1) := by decide +kernel
theorem dX11_takePan_42 : decode cX11_takePan 42 = .ok (.aload_n 0, 1) := by decide +kernel
theorem dX11_takePan_43 : decode cX11_takePan 43 = .ok (.getfield 35, 3) := by decide +kernel
theorem dX11_takePan_46 : decode cX11_takePan 46 = .ok (.iconst 2, 1) := by decide +kernel
theorem dX11_takePan_47 : decode cX11_takePan 47 = .ok (.iconst 1, 1) := by decide +kernel
theorem dX11_takePan_48 : decode cX11_takePan 48 = .ok (.bipush 30, 2) := by decide +kernel
theorem dX11_takePan_50 : decode cX11_takePan 50 = .ok (.invokevirtual 134, 3) := by decide +kernel
theorem dX11_takePan_53 : decode cX11_takePan 53 = .ok (.ireturn, 1) := by decide +kernel
set_option maxRecDepth 20000 in
theorem ggX11_takeEgg_X11_into : GoodIn wsX11_takeEgg wsX11_into := goodIn_r _ [8, 9, 10, 11, 12, 7, 13, 14, 15, 16, 17, 18, 19, 20, 21, 22, 23, 24, 25, 26, 27, 28, 29, 30, 31, 32, 33, 34, 35, 36, 37, 38, 39, 40, 41, 42, 43, 44, 45, 46, 47, 48, 49, 50, 51, 52, 53, 54, 55, 56, 57, 58, 59, 60, 61, 62, 63, 64, 65, 66, 67, 68, 69, 70, 71] (by decide +kernel) (by decide +kernel)
set_option maxRecDepth 20000 in
theorem gX11_takeEgg_X11_into : GoodIn wsX11_takeEgg (wsV RX11 134 RX11 yX11_into wsX11_into) := goodIn_app (goodIn_of _ (by decide +kernel)) ggX11_takeEgg_X11_into
theorem dX11_takeEgg_0 : decode cX11_takeEgg 0 = .ok (.aload_n 0, 1) := by decide +kernel
theorem dX11_takeEgg_1 : decode cX11_takeEgg 1 = .ok (.getfield 138, 3) := by decide +kernel
theorem dX11_takeEgg_4 : decode cX11_takeEgg 4 = .ok (.istore_n 1, 1) := by decide +kernel
theorem dX11_takeEgg_5 : decode cX11_takeEgg 5 = .ok (.aload_n 0, 1) := by decide +kernel
theorem dX11_takeEgg_6 : decode cX11_takeEgg 6 = .ok (.dup, 1) := by decide +kernel
theorem dX11_takeEgg_7 : decode cX11_takeEgg 7 = .ok (.getfield 138, 3) := by decide +kernel
theorem dX11_takeEgg_10 : decode cX11_takeEgg 10 = .ok (.iconst 1, 1) := by decide +kernel
theorem dX11_takeEgg_11 : decode cX11_takeEgg 11 = .ok (.iadd, 1) := by decide +kernel
theorem dX11_takeEgg_12 : decode cX11_takeEgg 12 = .ok (.putfield 138, 3) := by decide +kernel
theorem dX11_takeEgg_15 : decode cX11_takeEgg 15 = .ok (.aload_n 0, 1) := by decide +kernel
theorem dX11_takeEgg_16 : decode cX11_takeEgg 16 = .ok (.aload_n 0, 1) := by decide +kernel
theorem dX11_takeEgg_17 : decode cX11_takeEgg 17 = .ok (.getfield 38, 3) := by decide +kernel
theorem dX11_takeEgg_20 : decode cX11_takeEgg 20 = .ok (.iload_n 1, 1) := by decide +kernel
theorem dX11_takeEgg_21 : decode cX11_takeEgg 21 = .ok (.iconst 0, 1) := by decide +kernel
theorem dX11_takeEgg_22 : decode cX11_takeEgg 22 = .ok (.bipush 30, 2) := by decide +kernel
theorem dX11_takeEgg_24 : decode cX11_takeEgg 24 = .ok (.invokevirtual 134, 3) := by decide +kernel
theorem dX11_takeEgg_27 : decode cX11_takeEgg 27 = .ok (.istore_n 2, 1) := by decide +kernel
theorem dX11_takeEgg_28 : decode cX11_takeEgg 28 = .ok (.iload_n 2, 1) := by decide +kernel
theorem dX11_takeEgg_29 : decode cX11_takeEgg 29 = .ok (.ifCond .le 7, 3) := by decide +kernel
theorem dX11_takeEgg_32 : decode cX11_takeEgg 32 = .ok (.iload_n 2, 1) := by decide +kernel
theorem dX11_takeEgg_33 : decode cX11_takeEgg 33 = .ok (.goto 14, 3) := by decide +kernel
theorem dX11_takeEgg_36 : decode cX11_takeEgg 36 = .ok (.aload_n 0, 1) := by decide +kernel
theorem dX11_takeEgg_37 : decode cX11_takeEgg 37 = .ok (.aload_n 0, 1) := by decide +kernel
theorem dX11_takeEgg_38 : decode cX11_takeEgg 38 = .ok (.getfield 41, 3) := by decide +kernel
theorem dX11_takeEgg_41 : decode cX11_takeEgg 41 = .ok (.iload_n 1, 1) := by decide +kernel
theorem dX11_takeEgg_42 : decode cX11_takeEgg 42 = .ok (.iconst 1, 1) := by decide +kernel
theorem dX11_takeEgg_43 : decode cX11_takeEgg 43 = .ok (.iconst 5, 1) := by decide +kernel
theorem dX11_takeEgg_44 : decode cX11_takeEgg 44 = .ok (.invokevirtual 134, 3) := by decide +kernel
theorem dX11_takeEgg_47 : decode cX11_takeEgg 47 = .ok (.ireturn, 1) := by decide +kernel
set_option maxRecDepth 20000 in
theorem ggX11_takeEater_X11_into : GoodIn wsX11_takeEater wsX11_into := goodIn_r _ [8, 9, 10, 11, 12, 7, 13, 14, 15, 16, 17, 18, 19, 20, 21, 22, 23, 24, 25, 26, 27, 28, 29, 30, 31, 32, 33, 34, 35, 36, 37, 38, 39, 40, 41, 42, 43, 44, 45, 46, 47, 48, 49, 50, 51, 52, 53, 54, 55, 56, 57, 58, 59, 60, 61, 62, 63, 64, 65, 66, 67, 68, 69, 70, 71] (by decide +kernel) (by decide +kernel)
set_option maxRecDepth 20000 in
theorem gX11_takeEater_X11_into : GoodIn wsX11_takeEater (wsV RX11 134 RX11 yX11_into wsX11_into) := goodIn_app (goodIn_of _ (by decide +kernel)) ggX11_takeEater_X11_into
theorem dX11_takeEater_0 : decode cX11_takeEater 0 = .ok (.aload_n 0, 1) := by decide +kernel
theorem dX11_takeEater_1 : decode cX11_takeEater 1 = .ok (.getfield 141, 3) := by decide +kernel
theorem dX11_takeEater_4 : decode cX11_takeEater 4 = .ok (.istore_n 1, 1) := by decide +kernel
theorem dX11_takeEater_5 : decode cX11_takeEater 5 = .ok (.aload_n 0, 1) := by decide +kernel
theorem dX11_takeEater_6 : decode cX11_takeEater 6 = .ok (.dup, 1) := by decide +kernel
theorem dX11_takeEater_7 : decode cX11_takeEater 7 = .ok (.getfield 141, 3) := by decide +kernel
theorem dX11_takeEater_10 : decode cX11_takeEater 10 = .ok (.iconst 1, 1) := by decide +kernel
theorem dX11_takeEater_11 : decode cX11_takeEater 11 = .ok (.iadd, 1) := by decide +kernel
theorem dX11_takeEater_12 : decode cX11_takeEater 12 = .ok (.putfield 141, 3) := by decide +kernel
theorem dX11_takeEater_15 : decode cX11_takeEater 15 = .ok (.aload_n 0, 1) := by decide +kernel
theorem dX11_takeEater_16 : decode cX11_takeEater 16 = .ok (.aload_n 0, 1) := by decide +kernel
theorem dX11_takeEater_17 : decode cX11_takeEater 17 = .ok (.getfield 44, 3) := by decide +kernel
theorem dX11_takeEater_20 : decode cX11_takeEater 20 = .ok (.iload_n 1, 1) := by decide +kernel
theorem dX11_takeEater_21 : decode cX11_takeEater 21 = .ok (.iconst 0, 1) := by decide +kernel
theorem dX11_takeEater_22 : decode cX11_takeEater 22 = .ok (.bipush 99, 2) := by decide +kernel
theorem dX11_takeEater_24 : decode cX11_takeEater 24 = .ok (.invokevirtual 134, 3) := by decide +kernel
theorem dX11_takeEater_27 : decode cX11_takeEater 27 = .ok (.istore_n 2, 1) := by decide +kernel
theorem dX11_takeEater_28 : decode cX11_takeEater 28 = .ok (.iload_n 2, 1) := by decide +kernel
theorem dX11_takeEater_29 : decode cX11_takeEater 29 = .ok (.ifCond .le 7, 3) := by decide +kernel
theorem dX11_takeEater_32 : decode cX11_takeEater 32 = .ok (.iload_n 2, 1) := by decide +kernel
theorem dX11_takeEater_33 : decode cX11_takeEater 33 = .ok (.goto 20, 3) := by decide +kernel
theorem dX11_takeEater_36 : decode cX11_takeEater 36 = .ok (.aload_n 0, 1) := by decide +kernel
theorem dX11_takeEater_37 : decode cX11_takeEater 37 = .ok (.aload_n 0, 1) := by decide +kernel
theorem dX11_takeEater_38 : decode cX11_takeEater 38 = .ok (.getfield 47, 3) := by decide +kernel
theorem dX11_takeEater_41 : decode cX11_takeEater 41 = .ok (.iload_n 1, 1) := by decide +kernel
theorem dX11_takeEater_42 : decode cX11_takeEater 42 = .ok (.aload_n 0, 1) := by decide +kernel
theorem dX11_takeEater_43 : decode cX11_takeEater 43 = .ok (.getfield 44, 3) := by decide +kernel
theorem dX11_takeEater_46 : decode cX11_takeEater 46 = .ok (.iload_n 1, 1) := by decide +kernel
theorem dX11_takeEater_47 : decode cX11_takeEater 47 = .ok (.iaload, 1) := by decide +kernel
theorem dX11_takeEater_48 : decode cX11_takeEater 48 = .ok (.bipush 99, 2) := by decide +kernel
theorem dX11_takeEater_50 : decode cX11_takeEater 50 = .ok (.invokevirtual 134, 3) := by decide +kernel
theorem dX11_takeEater_53 : decode cX11_takeEater 53 = .ok (.ireturn, 1) := by decide +kernel
set_option maxRecDepth 20000 in
theorem ggX11_takeClause_X11_here : GoodIn wsX11_takeClause wsX11_here := goodIn_r _ [9, 2, 10, 11, 48, 49, 50, 51, 52, 53, 54, 55, 56, 57, 58, 59, 60, 61, 62, 63, 64, 65, 66, 67, 68, 69, 70, 71, 72, 73, 74, 75, 76, 77, 78, 79, 80, 81, 82, 83, 84, 85, 86, 87] (by decide +kernel) (by decide +kernel)
set_option maxRecDepth 20000 in
theorem gX11_takeClause_X11_here : GoodIn wsX11_takeClause (wsV RX11 113 RX11 yX11_here wsX11_here) := goodIn_app (goodIn_of _ (by decide +kernel)) ggX11_takeClause_X11_here
set_option maxRecDepth 20000 in
theorem ggX11_takeClause_X11_fails : GoodIn wsX11_takeClause wsX11_fails := goodIn_r _ [15, 16, 48, 49, 50, 51, 52, 53, 54, 55, 56, 57, 58, 59, 60, 61, 62, 63, 64, 65, 66, 67, 68, 69, 70, 71, 72, 73, 74, 75, 76, 77, 78, 79, 80, 81, 82, 83, 84, 85, 86, 87] (by decide +kernel) (by decide +kernel)
set_option maxRecDepth 20000 in
theorem gX11_takeClause_X11_fails : GoodIn wsX11_takeClause (wsV RX11 121 RX11 yX11_fails wsX11_fails) := goodIn_app (goodIn_of _ (by decide +kernel)) ggX11_takeClause_X11_fails
set_option maxRecDepth 20000 in
theorem ggX11_takeClause_X11_takePan : GoodIn wsX11_takeClause wsX11_takePan := goodIn_r _ [20, 1, 21, 22, 23, 8, 24, 25, 26, 27, 28, 29, 30, 31, 2, 32, 10, 11, 5, 6, 7, 9, 33, 34, 35, 12, 13, 14, 15, 16, 48, 49, 50, 51, 52, 53, 54, 55, 56, 57, 58, 59, 60, 61, 62, 63, 64, 65, 66, 67, 68, 69, 70, 71, 72, 73, 74, 75, 76, 77, 78, 79, 80, 81, 82, 83, 84, 85, 86, 87] (by decide +kernel) (by decide +kernel)
set_option maxRecDepth 20000 in
theorem gX11_takeClause_X11_takePan : GoodIn wsX11_takeClause (wsV RX11 144 RX11 yX11_takePan wsX11_takePan) := goodIn_app (goodIn_of _ (by decide +kernel)) ggX11_takeClause_X11_takePan
set_option maxRecDepth 20000 in
theorem ggX11_takeClause_X11_takeEgg : GoodIn wsX11_takeClause wsX11_takeEgg := goodIn_r _ [39, 3, 40, 41, 21, 22, 23, 8, 24, 25, 26, 27, 28, 29, 30, 31, 2, 32, 10, 11, 5, 6, 7, 9, 33, 34, 35, 12, 13, 14, 15, 16, 48, 49, 50, 51, 52, 53, 54, 55, 56, 57, 58, 59, 60, 61, 62, 63, 64, 65, 66, 67, 68, 69, 70, 71, 72, 73, 74, 75, 76, 77, 78, 79, 80, 81, 82, 83, 84, 85, 86, 87] (by decide +kernel) (by decide +kernel)
set_option maxRecDepth 20000 in
theorem gX11_takeClause_X11_takeEgg : GoodIn wsX11_takeClause (wsV RX11 147 RX11 yX11_takeEgg wsX11_takeEgg) := goodIn_app (goodIn_of _ (by decide +kernel)) ggX11_takeClause_X11_takeEgg
set_option maxRecDepth 20000 in
theorem ggX11_takeClause_X11_takeEater : GoodIn wsX11_takeClause wsX11_takeEater := goodIn_r _ [45, 4, 46, 47, 21, 22, 23, 8, 24, 25, 26, 27, 28, 29, 30, 31, 2, 32, 10, 11, 5, 6, 7, 9, 33, 34, 35, 12, 13, 14, 15, 16, 48, 49, 50, 51, 52, 53, 54, 55, 56, 57, 58, 59, 60, 61, 62, 63, 64, 65, 66, 67, 68, 69, 70, 71, 72, 73, 74, 75, 76, 77, 78, 79, 80, 81, 82, 83, 84, 85, 86, 87] (by decide +kernel) (by decide +kernel)
set_option maxRecDepth 20000 in
theorem gX11_takeClause_X11_takeEater : GoodIn wsX11_takeClause (wsV RX11 150 RX11 yX11_takeEater wsX11_takeEater) := goodIn_app (goodIn_of _ (by decide +kernel)) ggX11_takeClause_X11_takeEater
theorem dX11_takeClause_0 : decode cX11_takeClause 0 = .ok (.aload_n 0, 1) := by decide +kernel
theorem dX11_takeClause_1 : decode cX11_takeClause 1 = .ok (.invokevirtual 113, 3) := by decide +kernel
theorem dX11_takeClause_4 : decode cX11_takeClause 4 = .ok (.istore_n 1, 1) := by decide +kernel
theorem dX11_takeClause_5 : decode cX11_takeClause 5 = .ok (.iload_n 1, 1) := by decide +kernel
theorem dX11_takeClause_6 : decode cX11_takeClause 6 = .ok (.bipush 112, 2) := by decide +kernel
theorem dX11_takeClause_8 : decode cX11_takeClause 8 = .ok (.if_icmp .ne 7, 3) := by decide +kernel
theorem dX11_takeClause_11 : decode cX11_takeClause 11 = .ok (.iconst 0, 1) := by decide +kernel
theorem dX11_takeClause_12 : decode cX11_takeClause 12 = .ok (.goto 24, 3) := by decide +kernel
theorem dX11_takeClause_15 : decode cX11_takeClause 15 = .ok (.iload_n 1, 1) := by decide +kernel
theorem dX11_takeClause_16 : decode cX11_takeClause 16 = .ok (.bipush 101, 2) := by decide +kernel
theorem dX11_takeClause_18 : decode cX11_takeClause 18 = .ok (.if_icmp .ne 7, 3) := by decide +kernel
theorem dX11_takeClause_21 : decode cX11_takeClause 21 = .ok (.iconst 1, 1) := by decide +kernel
theorem dX11_takeClause_22 : decode cX11_takeClause 22 = .ok (.goto 14, 3) := by decide +kernel
theorem dX11_takeClause_25 : decode cX11_takeClause 25 = .ok (.iload_n 1, 1) := by decide +kernel
theorem dX11_takeClause_26 : decode cX11_takeClause 26 = .ok (.bipush 109, 2) := by decide +kernel
theorem dX11_takeClause_28 : decode cX11_takeClause 28 = .ok (.if_icmp .ne 7, 3) := by decide +kernel
theorem dX11_takeClause_31 : decode cX11_takeClause 31 = .ok (.iconst 2, 1) := by decide +kernel
theorem dX11_takeClause_32 : decode cX11_takeClause 32 = .ok (.goto 4, 3) := by decide +kernel
theorem dX11_takeClause_35 : decode cX11_takeClause 35 = .ok (.iconst (-1), 1) := by decide +kernel
theorem dX11_takeClause_36 : decode cX11_takeClause 36 = .ok (.istore_n 2, 1) := by decide +kernel
theorem dX11_takeClause_37 : decode cX11_takeClause 37 = .ok (.iload_n 2, 1) := by decide +kernel
theorem dX11_takeClause_38 : decode cX11_takeClause 38 = .ok (.ifCond .lt 16, 3) := by decide +kernel
theorem dX11_takeClause_41 : decode cX11_takeClause 41 = .ok (.iload_n 2, 1) := by decide +kernel
theorem dX11_takeClause_42 : decode cX11_takeClause 42 = .ok (.ifCond .le 22, 3) := by decide +kernel
theorem dX11_takeClause_45 : decode cX11_takeClause 45 = .ok (.aload_n 0, 1) := by decide +kernel
theorem dX11_takeClause_46 : decode cX11_takeClause 46 = .ok (.getfield 35, 3) := by decide +kernel
theorem dX11_takeClause_49 : decode cX11_takeClause 49 = .ok (.iconst 0, 1) := by decide +kernel
theorem dX11_takeClause_50 : decode cX11_takeClause 50 = .ok (.iaload, 1) := by decide +kernel
theorem dX11_takeClause_51 : decode cX11_takeClause 51 = .ok (.ifCond .ne 13, 3) := by decide +kernel
theorem dX11_takeClause_54 : decode cX11_takeClause 54 = .ok (.aload_n 0, 1) := by decide +kernel
theorem dX11_takeClause_55 : decode cX11_takeClause 55 = .ok (.iconst 1, 1) := by decide +kernel
theorem dX11_takeClause_56 : decode cX11_takeClause 56 = .ok (.aload_n 0, 1) := by decide +kernel
theorem dX11_takeClause_57 : decode cX11_takeClause 57 = .ok (.getfield 110, 3) := by decide +kernel
theorem dX11_takeClause_60 : decode cX11_takeClause 60 = .ok (.invokevirtual 121, 3) := by decide +kernel
theorem dX11_takeClause_63 : decode cX11_takeClause 63 = .ok (.ireturn, 1) := by decide +kernel
theorem dX11_takeClause_64 : decode cX11_takeClause 64 = .ok (.iload_n 2, 1) := by decide +kernel
theorem dX11_takeClause_65 : decode cX11_takeClause 65 = .ok (.ifCond .ne 20, 3) := by decide +kernel
theorem dX11_takeClause_68 : decode cX11_takeClause 68 = .ok (.aload_n 0, 1) := by decide +kernel
theorem dX11_takeClause_69 : decode cX11_takeClause 69 = .ok (.getfield 35, 3) := by decide +kernel
theorem dX11_takeClause_72 : decode cX11_takeClause 72 = .ok (.iconst 0, 1) := by decide +kernel
theorem dX11_takeClause_73 : decode cX11_takeClause 73 = .ok (.iaload, 1) := by decide +kernel
theorem dX11_takeClause_74 : decode cX11_takeClause 74 = .ok (.ifCond .le 7, 3) := by decide +kernel
theorem dX11_takeClause_77 : decode cX11_takeClause 77 = .ok (.iconst 1, 1) := by decide +kernel
theorem dX11_takeClause_78 : decode cX11_takeClause 78 = .ok (.goto 42, 3) := by decide +kernel
theorem dX11_takeClause_81 : decode cX11_takeClause 81 = .ok (.iconst 0, 1) := by decide +kernel
theorem dX11_takeClause_82 : decode cX11_takeClause 82 = .ok (.goto 38, 3) := by decide +kernel
theorem dX11_takeClause_85 : decode cX11_takeClause 85 = .ok (.iload_n 2, 1) := by decide +kernel
theorem dX11_takeClause_86 : decode cX11_takeClause 86 = .ok (.iconst 1, 1) := by decide +kernel
theorem dX11_takeClause_87 : decode cX11_takeClause 87 = .ok (.if_icmp .ne 20, 3) := by decide +kernel
theorem dX11_takeClause_90 : decode cX11_takeClause 90 = .ok (.aload_n 0, 1) := by decide +kernel
theorem dX11_takeClause_91 : decode cX11_takeClause 91 = .ok (.getfield 138, 3) := by decide +kernel
theorem dX11_takeClause_94 : decode cX11_takeClause 94 = .ok (.bipush 7, 2) := by decide +kernel
theorem dX11_takeClause_96 : decode cX11_takeClause 96 = .ok (.if_icmp .ne 7, 3) := by decide +kernel
theorem dX11_takeClause_99 : decode cX11_takeClause 99 = .ok (.iconst 1, 1) := by decide +kernel
theorem dX11_takeClause_100 : decode cX11_takeClause 100 = .ok (.goto 20, 3) := by decide +kernel
theorem dX11_takeClause_103 : decode cX11_takeClause 103 = .ok (.iconst 0, 1) := by decide +kernel
theorem dX11_takeClause_104 : decode cX11_takeClause 104 = .ok (.goto 16, 3) := by decide +kernel
theorem dX11_takeClause_107 : decode cX11_takeClause 107 = .ok (.aload_n 0, 1) := by decide +kernel
theorem dX11_takeClause_108 : decode cX11_takeClause 108 = .ok (.getfield 141, 3) := by decide +kernel
theorem dX11_takeClause_111 : decode cX11_takeClause 111 = .ok (.iconst 5, 1) := by decide +kernel
theorem dX11_takeClause_112 : decode cX11_takeClause 112 = .ok (.if_icmp .ne 7, 3) := by decide +kernel
theorem dX11_takeClause_115 : decode cX11_takeClause 115 = .ok (.iconst 1, 1) := by decide +kernel
theorem dX11_takeClause_116 : decode cX11_takeClause 116 = .ok (.goto 4, 3) := by decide +kernel
theorem dX11_takeClause_119 : decode cX11_takeClause 119 = .ok (.iconst 0, 1) := by decide +kernel
theorem dX11_takeClause_120 : decode cX11_takeClause 120 = .ok (.istore_n 3, 1) := by decide +kernel
theorem dX11_takeClause_121 : decode cX11_takeClause 121 = .ok (.iload_n 3, 1) := by decide +kernel
theorem dX11_takeClause_122 : decode cX11_takeClause 122 = .ok (.ifCond .eq 13, 3) := by decide +kernel
theorem dX11_takeClause_125 : decode cX11_takeClause 125 = .ok (.aload_n 0, 1) := by decide +kernel
theorem dX11_takeClause_126 : decode cX11_takeClause 126 = .ok (.iconst 3, 1) := by decide +kernel
theorem dX11_takeClause_127 : decode cX11_takeClause 127 = .ok (.aload_n 0, 1) := by decide +kernel
theorem dX11_takeClause_128 : decode cX11_takeClause 128 = .ok (.getfield 110, 3) := by decide +kernel
theorem dX11_takeClause_131 : decode cX11_takeClause 131 = .ok (.invokevirtual 121, 3) := by decide +kernel
theorem dX11_takeClause_134 : decode cX11_takeClause 134 = .ok (.ireturn, 1) := by decide +kernel
theorem dX11_takeClause_135 : decode cX11_takeClause 135 = .ok (.aload_n 0, 1) := by decide +kernel
theorem dX11_takeClause_136 : decode cX11_takeClause 136 = .ok (.dup, 1) := by decide +kernel
theorem dX11_takeClause_137 : decode cX11_takeClause 137 = .ok (.getfield 110, 3) := by decide +kernel
theorem dX11_takeClause_140 : decode cX11_takeClause 140 = .ok (.iconst 1, 1) := by decide +kernel
theorem dX11_takeClause_141 : decode cX11_takeClause 141 = .ok (.iadd, 1) := by decide +kernel
theorem dX11_takeClause_142 : decode cX11_takeClause 142 = .ok (.putfield 110, 3) := by decide +kernel
theorem dX11_takeClause_145 : decode cX11_takeClause 145 = .ok (.iload_n 2, 1) := by decide +kernel
theorem dX11_takeClause_146 : decode cX11_takeClause 146 = .ok (.ifCond .ne 10, 3) := by decide +kernel
theorem dX11_takeClause_149 : decode cX11_takeClause 149 = .ok (.aload_n 0, 1) := by decide +kernel
theorem dX11_takeClause_150 : decode cX11_takeClause 150 = .ok (.invokevirtual 144, 3) := by decide +kernel
theorem dX11_takeClause_153 : decode cX11_takeClause 153 = .ok (.goto 19, 3) := by decide +kernel
theorem dX11_takeClause_156 : decode cX11_takeClause 156 = .ok (.iload_n 2, 1) := by decide +kernel
theorem dX11_takeClause_157 : decode cX11_takeClause 157 = .ok (.iconst 1, 1) := by decide +kernel
theorem dX11_takeClause_158 : decode cX11_takeClause 158 = .ok (.if_icmp .ne 10, 3) := by decide +kernel
theorem dX11_takeClause_161 : decode cX11_takeClause 161 = .ok (.aload_n 0, 1) := by decide +kernel
theorem dX11_takeClause_162 : decode cX11_takeClause 162 = .ok (.invokevirtual 147, 3) := by decide +kernel
theorem dX11_takeClause_165 : decode cX11_takeClause 165 = .ok (.goto 7, 3) := by decide +kernel
theorem dX11_takeClause_168 : decode cX11_takeClause 168 = .ok (.aload_n 0, 1) := by decide +kernel
theorem dX11_takeClause_169 : decode cX11_takeClause 169 = .ok (.invokevirtual 150, 3) := by decide +kernel
theorem dX11_takeClause_172 : decode cX11_takeClause 172 = .ok (.istore 4, 2) := by decide +kernel
theorem dX11_takeClause_174 : decode cX11_takeClause 174 = .ok (.iload 4, 2) := by decide +kernel
theorem dX11_takeClause_176 : decode cX11_takeClause 176 = .ok (.ifCond .ne 22, 3) := by decide +kernel
theorem dX11_takeClause_179 : decode cX11_takeClause 179 = .ok (.aload_n 0, 1) := by decide +kernel
theorem dX11_takeClause_180 : decode cX11_takeClause 180 = .ok (.invokevirtual 113, 3) := by decide +kernel
theorem dX11_takeClause_183 : decode cX11_takeClause 183 = .ok (.bipush 59, 2) := by decide +kernel
theorem dX11_takeClause_185 : decode cX11_takeClause 185 = .ok (.if_icmp .eq 13, 3) := by decide +kernel
theorem dX11_takeClause_188 : decode cX11_takeClause 188 = .ok (.aload_n 0, 1) := by decide +kernel
theorem dX11_takeClause_189 : decode cX11_takeClause 189 = .ok (.iconst 1, 1) := by decide +kernel
theorem dX11_takeClause_190 : decode cX11_takeClause 190 = .ok (.aload_n 0, 1) := by decide +kernel
theorem dX11_takeClause_191 : decode cX11_takeClause 191 = .ok (.getfield 110, 3) := by decide +kernel
theorem dX11_takeClause_194 : decode cX11_takeClause 194 = .ok (.invokevirtual 121, 3) := by decide +kernel
theorem dX11_takeClause_197 : decode cX11_takeClause 197 = .ok (.ireturn, 1) := by decide +kernel
theorem dX11_takeClause_198 : decode cX11_takeClause 198 = .ok (.aload_n 0, 1) := by decide +kernel
theorem dX11_takeClause_199 : decode cX11_takeClause 199 = .ok (.dup, 1) := by decide +kernel
theorem dX11_takeClause_200 : decode cX11_takeClause 200 = .ok (.getfield 110, 3) := by decide +kernel
theorem dX11_takeClause_203 : decode cX11_takeClause 203 = .ok (.iconst 1, 1) := by decide +kernel
theorem dX11_takeClause_204 : decode cX11_takeClause 204 = .ok (.iadd, 1) := by decide +kernel
theorem dX11_takeClause_205 : decode cX11_takeClause 205 = .ok (.putfield 110, 3) := by decide +kernel
theorem dX11_takeClause_208 : decode cX11_takeClause 208 = .ok (.iload 4, 2) := by decide +kernel
theorem dX11_takeClause_210 : decode cX11_takeClause 210 = .ok (.ireturn, 1) := by decide +kernel
theorem dX11_takeRead_0 : decode cX11_takeRead 0 = .ok (.aload_n 0, 1) := by decide +kernel
theorem dX11_takeRead_1 : decode cX11_takeRead 1 = .ok (.aload_n 0, 1) := by decide +kernel
theorem dX11_takeRead_2 : decode cX11_takeRead 2 = .ok (.getfield 35, 3) := by decide +kernel
theorem dX11_takeRead_5 : decode cX11_takeRead 5 = .ok (.iconst 0, 1) := by decide +kernel
theorem dX11_takeRead_6 : decode cX11_takeRead 6 = .ok (.iaload, 1) := by decide +kernel
theorem dX11_takeRead_7 : decode cX11_takeRead 7 = .ok (.putfield 90, 3) := by decide +kernel
theorem dX11_takeRead_10 : decode cX11_takeRead 10 = .ok (.aload_n 0, 1) := by decide +kernel
theorem dX11_takeRead_11 : decode cX11_takeRead 11 = .ok (.aload_n 0, 1) := by decide +kernel
theorem dX11_takeRead_12 : decode cX11_takeRead 12 = .ok (.getfield 35, 3) := by decide +kernel
theorem dX11_takeRead_15 : decode cX11_takeRead 15 = .ok (.iconst 2, 1) := by decide +kernel
theorem dX11_takeRead_16 : decode cX11_takeRead 16 = .ok (.iaload, 1) := by decide +kernel
theorem dX11_takeRead_17 : decode cX11_takeRead 17 = .ok (.putfield 153, 3) := by decide +kernel
theorem dX11_takeRead_20 : decode cX11_takeRead 20 = .ok (.aload_n 0, 1) := by decide +kernel
theorem dX11_takeRead_21 : decode cX11_takeRead 21 = .ok (.aload_n 0, 1) := by decide +kernel
theorem dX11_takeRead_22 : decode cX11_takeRead 22 = .ok (.getfield 138, 3) := by decide +kernel
theorem dX11_takeRead_25 : decode cX11_takeRead 25 = .ok (.putfield 93, 3) := by decide +kernel
theorem dX11_takeRead_28 : decode cX11_takeRead 28 = .ok (.aload_n 0, 1) := by decide +kernel
theorem dX11_takeRead_29 : decode cX11_takeRead 29 = .ok (.aload_n 0, 1) := by decide +kernel
theorem dX11_takeRead_30 : decode cX11_takeRead 30 = .ok (.getfield 141, 3) := by decide +kernel
theorem dX11_takeRead_33 : decode cX11_takeRead 33 = .ok (.putfield 100, 3) := by decide +kernel
theorem dX11_takeRead_36 : decode cX11_takeRead 36 = .ok (.iconst 0, 1) := by decide +kernel
theorem dX11_takeRead_37 : decode cX11_takeRead 37 = .ok (.istore_n 1, 1) := by decide +kernel
theorem dX11_takeRead_38 : decode cX11_takeRead 38 = .ok (.iload_n 1, 1) := by decide +kernel
theorem dX11_takeRead_39 : decode cX11_takeRead 39 = .ok (.bipush 19, 2) := by decide +kernel
theorem dX11_takeRead_41 : decode cX11_takeRead 41 = .ok (.if_icmp .ge 16, 3) := by decide +kernel
theorem dX11_takeRead_44 : decode cX11_takeRead 44 = .ok (.aload_n 0, 1) := by decide +kernel
theorem dX11_takeRead_45 : decode cX11_takeRead 45 = .ok (.getfield 25, 3) := by decide +kernel
theorem dX11_takeRead_48 : decode cX11_takeRead 48 = .ok (.iload_n 1, 1) := by decide +kernel
theorem dX11_takeRead_49 : decode cX11_takeRead 49 = .ok (.iconst 0, 1) := by decide +kernel
theorem dX11_takeRead_50 : decode cX11_takeRead 50 = .ok (.iastore, 1) := by decide +kernel
theorem dX11_takeRead_51 : decode cX11_takeRead 51 = .ok (.iinc 1 1, 3) := by decide +kernel
theorem dX11_takeRead_54 : decode cX11_takeRead 54 = .ok (.goto (-16), 3) := by decide +kernel
theorem dX11_takeRead_57 : decode cX11_takeRead 57 = .ok (.aload_n 0, 1) := by decide +kernel
theorem dX11_takeRead_58 : decode cX11_takeRead 58 = .ok (.getfield 25, 3) := by decide +kernel
theorem dX11_takeRead_61 : decode cX11_takeRead 61 = .ok (.bipush 14, 2) := by decide +kernel
theorem dX11_takeRead_63 : decode cX11_takeRead 63 = .ok (.aload_n 0, 1) := by decide +kernel
theorem dX11_takeRead_64 : decode cX11_takeRead 64 = .ok (.getfield 35, 3) := by decide +kernel
theorem dX11_takeRead_67 : decode cX11_takeRead 67 = .ok (.iconst 1, 1) := by decide +kernel
theorem dX11_takeRead_68 : decode cX11_takeRead 68 = .ok (.iaload, 1) := by decide +kernel
theorem dX11_takeRead_69 : decode cX11_takeRead 69 = .ok (.iastore, 1) := by decide +kernel
theorem dX11_takeRead_70 : decode cX11_takeRead 70 = .ok (.iconst 0, 1) := by decide +kernel
theorem dX11_takeRead_71 : decode cX11_takeRead 71 = .ok (.istore_n 1, 1) := by decide +kernel
theorem dX11_takeRead_72 : decode cX11_takeRead 72 = .ok (.iload_n 1, 1) := by decide +kernel
theorem dX11_takeRead_73 : decode cX11_takeRead 73 = .ok (.bipush 7, 2) := by decide +kernel
theorem dX11_takeRead_75 : decode cX11_takeRead 75 = .ok (.if_icmp .ge 40, 3) := by decide +kernel
theorem dX11_takeRead_78 : decode cX11_takeRead 78 = .ok (.aload_n 0, 1) := by decide +kernel
theorem dX11_takeRead_79 : decode cX11_takeRead 79 = .ok (.getfield 7, 3) := by decide +kernel
theorem dX11_takeRead_82 : decode cX11_takeRead 82 = .ok (.iload_n 1, 1) := by decide +kernel
theorem dX11_takeRead_83 : decode cX11_takeRead 83 = .ok (.aload_n 0, 1) := by decide +kernel
theorem dX11_takeRead_84 : decode cX11_takeRead 84 = .ok (.getfield 38, 3) := by decide +kernel
theorem dX11_takeRead_87 : decode cX11_takeRead 87 = .ok (.iload_n 1, 1) := by decide +kernel
theorem dX11_takeRead_88 : decode cX11_takeRead 88 = .ok (.iaload, 1) := by decide +kernel
theorem dX11_takeRead_89 : decode cX11_takeRead 89 = .ok (.iastore, 1) := by decide +kernel
theorem dX11_takeRead_90 : decode cX11_takeRead 90 = .ok (.aload_n 0, 1) := by decide +kernel
theorem dX11_takeRead_91 : decode cX11_takeRead 91 = .ok (.getfield 13, 3) := by decide +kernel
theorem dX11_takeRead_94 : decode cX11_takeRead 94 = .ok (.iload_n 1, 1) := by decide +kernel
theorem dX11_takeRead_95 : decode cX11_takeRead 95 = .ok (.aload_n 0, 1) := by decide +kernel
theorem dX11_takeRead_96 : decode cX11_takeRead 96 = .ok (.getfield 41, 3) := by decide +kernel
theorem dX11_takeRead_99 : decode cX11_takeRead 99 = .ok (.iload_n 1, 1) := by decide +kernel
theorem dX11_takeRead_100 : decode cX11_takeRead 100 = .ok (.iaload, 1) := by decide +kernel
theorem dX11_takeRead_101 : decode cX11_takeRead 101 = .ok (.iastore, 1) := by decide +kernel
theorem dX11_takeRead_102 : decode cX11_takeRead 102 = .ok (.aload_n 0, 1) := by decide +kernel
theorem dX11_takeRead_103 : decode cX11_takeRead 103 = .ok (.getfield 22, 3) := by decide +kernel
theorem dX11_takeRead_106 : decode cX11_takeRead 106 = .ok (.iload_n 1, 1) := by decide +kernel
theorem dX11_takeRead_107 : decode cX11_takeRead 107 = .ok (.iconst 1, 1) := by decide +kernel
theorem dX11_takeRead_108 : decode cX11_takeRead 108 = .ok (.iastore, 1) := by decide +kernel
theorem dX11_takeRead_109 : decode cX11_takeRead 109 = .ok (.iinc 1 1, 3) := by decide +kernel
theorem dX11_takeRead_112 : decode cX11_takeRead 112 = .ok (.goto (-40), 3) := by decide +kernel
theorem dX11_takeRead_115 : decode cX11_takeRead 115 = .ok (.iconst 0, 1) := by decide +kernel
theorem dX11_takeRead_116 : decode cX11_takeRead 116 = .ok (.istore_n 1, 1) := by decide +kernel
theorem dX11_takeRead_117 : decode cX11_takeRead 117 = .ok (.iload_n 1, 1) := by decide +kernel
theorem dX11_takeRead_118 : decode cX11_takeRead 118 = .ok (.iconst 5, 1) := by decide +kernel
theorem dX11_takeRead_119 : decode cX11_takeRead 119 = .ok (.if_icmp .ge 33, 3) := by decide +kernel
theorem dX11_takeRead_122 : decode cX11_takeRead 122 = .ok (.aload_n 0, 1) := by decide +kernel
theorem dX11_takeRead_123 : decode cX11_takeRead 123 = .ok (.getfield 16, 3) := by decide +kernel
theorem dX11_takeRead_126 : decode cX11_takeRead 126 = .ok (.iload_n 1, 1) := by decide +kernel
theorem dX11_takeRead_127 : decode cX11_takeRead 127 = .ok (.aload_n 0, 1) := by decide +kernel
theorem dX11_takeRead_128 : decode cX11_takeRead 128 = .ok (.getfield 44, 3) := by decide +kernel
theorem dX11_takeRead_131 : decode cX11_takeRead 131 = .ok (.iload_n 1, 1) := by decide +kernel
theorem dX11_takeRead_132 : decode cX11_takeRead 132 = .ok (.iaload, 1) := by decide +kernel
theorem dX11_takeRead_133 : decode cX11_takeRead 133 = .ok (.iastore, 1) := by decide +kernel
theorem dX11_takeRead_134 : decode cX11_takeRead 134 = .ok (.aload_n 0, 1) := by decide +kernel
theorem dX11_takeRead_135 : decode cX11_takeRead 135 = .ok (.getfield 19, 3) := by decide +kernel
theorem dX11_takeRead_138 : decode cX11_takeRead 138 = .ok (.iload_n 1, 1) := by decide +kernel
theorem dX11_takeRead_139 : decode cX11_takeRead 139 = .ok (.aload_n 0, 1) := by decide +kernel
theorem dX11_takeRead_140 : decode cX11_takeRead 140 = .ok (.getfield 47, 3) := by decide +kernel
theorem dX11_takeRead_143 : decode cX11_takeRead 143 = .ok (.iload_n 1, 1) := by decide +kernel
theorem dX11_takeRead_144 : decode cX11_takeRead 144 = .ok (.iaload, 1) := by decide +kernel
theorem dX11_takeRead_145 : decode cX11_takeRead 145 = .ok (.iastore, 1) := by decide +kernel
theorem dX11_takeRead_146 : decode cX11_takeRead 146 = .ok (.iinc 1 1, 3) := by decide +kernel
theorem dX11_takeRead_149 : decode cX11_takeRead 149 = .ok (.goto (-32), 3) := by decide +kernel
theorem dX11_takeRead_152 : decode cX11_takeRead 152 = .ok (.return_, 1) := by decide +kernel
set_option maxRecDepth 20000 in
theorem ggX11_table_X11_here : GoodIn wsX11_table wsX11_here := goodIn_r _ [16, 2, 6, 17, 70, 71, 72, 73, 74, 75, 76, 77, 78, 79, 80, 81, 82, 83, 84, 85, 86, 87, 88, 89, 90, 91, 92, 93, 94, 95, 96, 97, 98, 99, 100, 101, 102, 103, 104, 105, 106, 107, 108, 109] (by decide +kernel) (by decide +kernel)
set_option maxRecDepth 20000 in
theorem gX11_table_X11_here : GoodIn wsX11_table (wsV RX11 113 RX11 yX11_here wsX11_here) := goodIn_app (goodIn_of _ (by decide +kernel)) ggX11_table_X11_here
set_option maxRecDepth 20000 in
theorem ggX11_table_X11_takeClause : GoodIn wsX11_table wsX11_takeClause := goodIn_r _ [21, 3, 2, 4, 5, 12, 13, 14, 15, 16, 6, 17, 22, 23, 24, 25, 1, 26, 27, 28, 29, 30, 31, 32, 33, 34, 35, 36, 37, 38, 39, 40, 41, 42, 43, 44, 45, 46, 47, 48, 49, 50, 51, 52, 53, 54, 55, 56, 70, 71, 72, 73, 74, 75, 76, 77, 78, 79, 80, 81, 82, 83, 84, 85, 86, 87, 88, 89, 90, 91, 92, 93, 94, 95, 96, 97, 98, 99, 100, 101, 102, 103, 104, 105, 106, 107, 108, 109] (by decide +kernel) (by decide +kernel)
set_option maxRecDepth 20000 in
theorem gX11_table_X11_takeClause : GoodIn wsX11_table (wsV RX11 156 RX11 yX11_takeClause wsX11_takeClause) := goodIn_app (goodIn_of _ (by decide +kernel)) ggX11_table_X11_takeClause
set_option maxRecDepth 20000 in
theorem ggX11_table_X11_takeRead : GoodIn wsX11_table wsX11_takeRead := goodIn_r _ [60, 3, 61, 62, 4, 11, 5, 63, 64, 65, 49, 66, 50, 67, 68, 55, 69, 56, 70, 71, 72, 73, 74, 75, 76, 77, 78, 79, 80, 81, 82, 83, 84, 85, 86, 87, 88, 89, 90, 91, 92, 93, 94, 95, 96, 97, 98, 99, 100, 101, 102, 103, 104, 105, 106, 107, 108, 109] (by decide +kernel) (by decide +kernel)
set_option maxRecDepth 20000 in
theorem gX11_table_X11_takeRead : GoodIn wsX11_table (wsV RX11 159 RX11 yX11_takeRead wsX11_takeRead) := goodIn_app (goodIn_of _ (by decide +kernel)) ggX11_table_X11_takeRead
theorem dX11_table_0 : decode cX11_table 0 = .ok (.aload_n 0, 1) := by decide +kernel
theorem dX11_table_1 : decode cX11_table 1 = .ok (.iconst (-1), 1) := by decide +kernel
theorem dX11_table_2 : decode cX11_table 2 = .ok (.putfield 31, 3) := by decide +kernel
theorem dX11_table_5 : decode cX11_table 5 = .ok (.aload_n 0, 1) := by decide +kernel
theorem dX11_table_6 : decode cX11_table 6 = .ok (.iconst 0, 1) := by decide +kernel
theorem dX11_table_7 : decode cX11_table 7 = .ok (.putfield 110, 3) := by decide +kernel
theorem dX11_table_10 : decode cX11_table 10 = .ok (.iconst 0, 1) := by decide +kernel
theorem dX11_table_11 : decode cX11_table 11 = .ok (.istore_n 1, 1) := by decide +kernel
theorem dX11_table_12 : decode cX11_table 12 = .ok (.iload_n 1, 1) := by decide +kernel
theorem dX11_table_13 : decode cX11_table 13 = .ok (.iconst 3, 1) := by decide +kernel
theorem dX11_table_14 : decode cX11_table 14 = .ok (.if_icmp .ge 16, 3) := by decide +kernel
theorem dX11_table_17 : decode cX11_table 17 = .ok (.aload_n 0, 1) := by decide +kernel
theorem dX11_table_18 : decode cX11_table 18 = .ok (.getfield 35, 3) := by decide +kernel
theorem dX11_table_21 : decode cX11_table 21 = .ok (.iload_n 1, 1) := by decide +kernel
theorem dX11_table_22 : decode cX11_table 22 = .ok (.iconst 0, 1) := by decide +kernel
theorem dX11_table_23 : decode cX11_table 23 = .ok (.iastore, 1) := by decide +kernel
theorem dX11_table_24 : decode cX11_table 24 = .ok (.iinc 1 1, 3) := by decide +kernel
theorem dX11_table_27 : decode cX11_table 27 = .ok (.goto (-15), 3) := by decide +kernel
theorem dX11_table_30 : decode cX11_table 30 = .ok (.aload_n 0, 1) := by decide +kernel
theorem dX11_table_31 : decode cX11_table 31 = .ok (.iconst 0, 1) := by decide +kernel
theorem dX11_table_32 : decode cX11_table 32 = .ok (.putfield 138, 3) := by decide +kernel
theorem dX11_table_35 : decode cX11_table 35 = .ok (.aload_n 0, 1) := by decide +kernel
theorem dX11_table_36 : decode cX11_table 36 = .ok (.iconst 0, 1) := by decide +kernel
theorem dX11_table_37 : decode cX11_table 37 = .ok (.putfield 141, 3) := by decide +kernel
theorem dX11_table_40 : decode cX11_table 40 = .ok (.iconst 0, 1) := by decide +kernel
theorem dX11_table_41 : decode cX11_table 41 = .ok (.istore_n 1, 1) := by decide +kernel
theorem dX11_table_42 : decode cX11_table 42 = .ok (.iload_n 1, 1) := by decide +kernel
theorem dX11_table_43 : decode cX11_table 43 = .ok (.ifCond .ne 18, 3) := by decide +kernel
theorem dX11_table_46 : decode cX11_table 46 = .ok (.aload_n 0, 1) := by decide +kernel
theorem dX11_table_47 : decode cX11_table 47 = .ok (.invokevirtual 113, 3) := by decide +kernel
theorem dX11_table_50 : decode cX11_table 50 = .ok (.ifCond .lt 11, 3) := by decide +kernel
theorem dX11_table_53 : decode cX11_table 53 = .ok (.aload_n 0, 1) := by decide +kernel
theorem dX11_table_54 : decode cX11_table 54 = .ok (.invokevirtual 156, 3) := by decide +kernel
theorem dX11_table_57 : decode cX11_table 57 = .ok (.istore_n 1, 1) := by decide +kernel
theorem dX11_table_58 : decode cX11_table 58 = .ok (.goto (-16), 3) := by decide +kernel
theorem dX11_table_61 : decode cX11_table 61 = .ok (.aload_n 0, 1) := by decide +kernel
theorem dX11_table_62 : decode cX11_table 62 = .ok (.iconst 0, 1) := by decide +kernel
theorem dX11_table_63 : decode cX11_table 63 = .ok (.putfield 106, 3) := by decide +kernel
theorem dX11_table_66 : decode cX11_table 66 = .ok (.iload_n 1, 1) := by decide +kernel
theorem dX11_table_67 : decode cX11_table 67 = .ok (.ifCond .le 8, 3) := by decide +kernel
theorem dX11_table_70 : decode cX11_table 70 = .ok (.bipush (-10), 2) := by decide +kernel
theorem dX11_table_72 : decode cX11_table 72 = .ok (.iload_n 1, 1) := by decide +kernel
theorem dX11_table_73 : decode cX11_table 73 = .ok (.isub, 1) := by decide +kernel
theorem dX11_table_74 : decode cX11_table 74 = .ok (.ireturn, 1) := by decide +kernel
theorem dX11_table_75 : decode cX11_table 75 = .ok (.aload_n 0, 1) := by decide +kernel
theorem dX11_table_76 : decode cX11_table 76 = .ok (.invokevirtual 159, 3) := by decide +kernel
theorem dX11_table_79 : decode cX11_table 79 = .ok (.aload_n 0, 1) := by decide +kernel
theorem dX11_table_80 : decode cX11_table 80 = .ok (.iconst 0, 1) := by decide +kernel
theorem dX11_table_81 : decode cX11_table 81 = .ok (.putfield 162, 3) := by decide +kernel
theorem dX11_table_84 : decode cX11_table 84 = .ok (.aload_n 0, 1) := by decide +kernel
theorem dX11_table_85 : decode cX11_table 85 = .ok (.iconst 0, 1) := by decide +kernel
theorem dX11_table_86 : decode cX11_table 86 = .ok (.putfield 165, 3) := by decide +kernel
theorem dX11_table_89 : decode cX11_table 89 = .ok (.aload_n 0, 1) := by decide +kernel
theorem dX11_table_90 : decode cX11_table 90 = .ok (.iconst 0, 1) := by decide +kernel
theorem dX11_table_91 : decode cX11_table 91 = .ok (.putfield 168, 3) := by decide +kernel
theorem dX11_table_94 : decode cX11_table 94 = .ok (.aload_n 0, 1) := by decide +kernel
theorem dX11_table_95 : decode cX11_table 95 = .ok (.getfield 86, 3) := by decide +kernel
theorem dX11_table_98 : decode cX11_table 98 = .ok (.iconst 0, 1) := by decide +kernel
theorem dX11_table_99 : decode cX11_table 99 = .ok (.iconst 0, 1) := by decide +kernel
theorem dX11_table_100 : decode cX11_table 100 = .ok (.bastore, 1) := by decide +kernel
theorem dX11_table_101 : decode cX11_table 101 = .ok (.aload_n 0, 1) := by decide +kernel
theorem dX11_table_102 : decode cX11_table 102 = .ok (.getfield 86, 3) := by decide +kernel
theorem dX11_table_105 : decode cX11_table 105 = .ok (.iconst 1, 1) := by decide +kernel
theorem dX11_table_106 : decode cX11_table 106 = .ok (.iconst 0, 1) := by decide +kernel
theorem dX11_table_107 : decode cX11_table 107 = .ok (.bastore, 1) := by decide +kernel
theorem dX11_table_108 : decode cX11_table 108 = .ok (.aload_n 0, 1) := by decide +kernel
theorem dX11_table_109 : decode cX11_table 109 = .ok (.getfield 93, 3) := by decide +kernel
theorem dX11_table_112 : decode cX11_table 112 = .ok (.ireturn, 1) := by decide +kernel
theorem dX11_fault_0 : decode cX11_fault 0 = .ok (.aload_n 0, 1) := by decide +kernel
theorem dX11_fault_1 : decode cX11_fault 1 = .ok (.getfield 31, 3) := by decide +kernel
theorem dX11_fault_4 : decode cX11_fault 4 = .ok (.ireturn, 1) := by decide +kernel
theorem dX11_hardBy_0 : decode cX11_hardBy 0 = .ok (.bipush 10, 2) := by decide +kernel
theorem dX11_hardBy_2 : decode cX11_hardBy 2 = .ok (.iload_n 2, 1) := by decide +kernel
theorem dX11_hardBy_3 : decode cX11_hardBy 3 = .ok (.imul, 1) := by decide +kernel
theorem dX11_hardBy_4 : decode cX11_hardBy 4 = .ok (.iconst 5, 1) := by decide +kernel
theorem dX11_hardBy_5 : decode cX11_hardBy 5 = .ok (.aload_n 0, 1) := by decide +kernel
theorem dX11_hardBy_6 : decode cX11_hardBy 6 = .ok (.getfield 13, 3) := by decide +kernel
theorem dX11_hardBy_9 : decode cX11_hardBy 9 = .ok (.iload_n 1, 1) := by decide +kernel
theorem dX11_hardBy_10 : decode cX11_hardBy 10 = .ok (.iaload, 1) := by decide +kernel
theorem dX11_hardBy_11 : decode cX11_hardBy 11 = .ok (.imul, 1) := by decide +kernel
theorem dX11_hardBy_12 : decode cX11_hardBy 12 = .ok (.isub, 1) := by decide +kernel
theorem dX11_hardBy_13 : decode cX11_hardBy 13 = .ok (.aload_n 0, 1) := by decide +kernel
theorem dX11_hardBy_14 : decode cX11_hardBy 14 = .ok (.getfield 7, 3) := by decide +kernel
theorem dX11_hardBy_17 : decode cX11_hardBy 17 = .ok (.iload_n 1, 1) := by decide +kernel
theorem dX11_hardBy_18 : decode cX11_hardBy 18 = .ok (.iaload, 1) := by decide +kernel
theorem dX11_hardBy_19 : decode cX11_hardBy 19 = .ok (.iconst 3, 1) := by decide +kernel
theorem dX11_hardBy_20 : decode cX11_hardBy 20 = .ok (.idiv, 1) := by decide +kernel
theorem dX11_hardBy_21 : decode cX11_hardBy 21 = .ok (.iadd, 1) := by decide +kernel
theorem dX11_hardBy_22 : decode cX11_hardBy 22 = .ok (.istore_n 3, 1) := by decide +kernel
theorem dX11_hardBy_23 : decode cX11_hardBy 23 = .ok (.iload_n 3, 1) := by decide +kernel
theorem dX11_hardBy_24 : decode cX11_hardBy 24 = .ok (.ifCond .ge 7, 3) := by decide +kernel
theorem dX11_hardBy_27 : decode cX11_hardBy 27 = .ok (.iconst 0, 1) := by decide +kernel
theorem dX11_hardBy_28 : decode cX11_hardBy 28 = .ok (.goto 15, 3) := by decide +kernel
theorem dX11_hardBy_31 : decode cX11_hardBy 31 = .ok (.iload_n 3, 1) := by decide +kernel
theorem dX11_hardBy_32 : decode cX11_hardBy 32 = .ok (.bipush 99, 2) := by decide +kernel
theorem dX11_hardBy_34 : decode cX11_hardBy 34 = .ok (.if_icmp .ge 7, 3) := by decide +kernel
theorem dX11_hardBy_37 : decode cX11_hardBy 37 = .ok (.iload_n 3, 1) := by decide +kernel
theorem dX11_hardBy_38 : decode cX11_hardBy 38 = .ok (.goto 5, 3) := by decide +kernel
theorem dX11_hardBy_41 : decode cX11_hardBy 41 = .ok (.bipush 99, 2) := by decide +kernel
theorem dX11_hardBy_43 : decode cX11_hardBy 43 = .ok (.ireturn, 1) := by decide +kernel
set_option maxRecDepth 20000 in
theorem ggX11_hard_X11_hardBy : GoodIn wsX11_hard wsX11_hardBy := goodIn_r _ [6, 7, 8, 9, 10, 11, 12, 13, 14, 15, 16, 17, 18, 19, 20, 21, 22, 23, 24, 25, 26, 27, 28, 29, 30, 31, 32, 33, 34, 35, 36, 37, 38, 39, 40, 41, 42, 43, 44, 45, 46, 47, 48] (by decide +kernel) (by decide +kernel)
set_option maxRecDepth 20000 in
theorem gX11_hard_X11_hardBy : GoodIn wsX11_hard (wsV RX11 171 RX11 yX11_hardBy wsX11_hardBy) := goodIn_app (goodIn_of _ (by decide +kernel)) ggX11_hard_X11_hardBy
theorem dX11_hard_0 : decode cX11_hard 0 = .ok (.aload_n 0, 1) := by decide +kernel
theorem dX11_hard_1 : decode cX11_hard 1 = .ok (.iload_n 1, 1) := by decide +kernel
theorem dX11_hard_2 : decode cX11_hard 2 = .ok (.aload_n 0, 1) := by decide +kernel
theorem dX11_hard_3 : decode cX11_hard 3 = .ok (.getfield 25, 3) := by decide +kernel
theorem dX11_hard_6 : decode cX11_hard 6 = .ok (.bipush 7, 2) := by decide +kernel
theorem dX11_hard_8 : decode cX11_hard 8 = .ok (.iload_n 1, 1) := by decide +kernel
theorem dX11_hard_9 : decode cX11_hard 9 = .ok (.iadd, 1) := by decide +kernel
theorem dX11_hard_10 : decode cX11_hard 10 = .ok (.iaload, 1) := by decide +kernel
theorem dX11_hard_11 : decode cX11_hard 11 = .ok (.invokevirtual 171, 3) := by decide +kernel
theorem dX11_hard_14 : decode cX11_hard 14 = .ok (.ireturn, 1) := by decide +kernel
set_option maxRecDepth 20000 in
theorem ggX11_reignBy_X11_hardBy : GoodIn wsX11_reignBy wsX11_hardBy := goodIn_r _ [6, 1, 7, 8, 9, 10, 11, 12, 13, 14, 15, 16, 17, 18, 19, 20, 21, 22, 23, 24, 25, 26, 27, 28, 29, 30, 31, 32, 33, 34, 35, 36, 37, 38, 39, 40, 41, 42, 43, 44, 45, 46, 47] (by decide +kernel) (by decide +kernel)
set_option maxRecDepth 20000 in
theorem gX11_reignBy_X11_hardBy : GoodIn wsX11_reignBy (wsV RX11 171 RX11 yX11_hardBy wsX11_hardBy) := goodIn_app (goodIn_of _ (by decide +kernel)) ggX11_reignBy_X11_hardBy
theorem dX11_reignBy_0 : decode cX11_reignBy 0 = .ok (.iconst 1, 1) := by decide +kernel
theorem dX11_reignBy_1 : decode cX11_reignBy 1 = .ok (.aload_n 0, 1) := by decide +kernel
theorem dX11_reignBy_2 : decode cX11_reignBy 2 = .ok (.iload_n 1, 1) := by decide +kernel
theorem dX11_reignBy_3 : decode cX11_reignBy 3 = .ok (.iload_n 2, 1) := by decide +kernel
theorem dX11_reignBy_4 : decode cX11_reignBy 4 = .ok (.invokevirtual 171, 3) := by decide +kernel
theorem dX11_reignBy_7 : decode cX11_reignBy 7 = .ok (.bipush 10, 2) := by decide +kernel
theorem dX11_reignBy_9 : decode cX11_reignBy 9 = .ok (.idiv, 1) := by decide +kernel
theorem dX11_reignBy_10 : decode cX11_reignBy 10 = .ok (.iadd, 1) := by decide +kernel
theorem dX11_reignBy_11 : decode cX11_reignBy 11 = .ok (.aload_n 0, 1) := by decide +kernel
theorem dX11_reignBy_12 : decode cX11_reignBy 12 = .ok (.getfield 13, 3) := by decide +kernel
theorem dX11_reignBy_15 : decode cX11_reignBy 15 = .ok (.iload_n 1, 1) := by decide +kernel
theorem dX11_reignBy_16 : decode cX11_reignBy 16 = .ok (.iaload, 1) := by decide +kernel
theorem dX11_reignBy_17 : decode cX11_reignBy 17 = .ok (.iadd, 1) := by decide +kernel
theorem dX11_reignBy_18 : decode cX11_reignBy 18 = .ok (.ireturn, 1) := by decide +kernel
set_option maxRecDepth 20000 in
theorem ggX11_reign_X11_reignBy : GoodIn wsX11_reign wsX11_reignBy := goodIn_r _ [6, 7, 8, 9, 10, 5, 11, 12, 13, 14, 15, 16, 17, 18, 19, 20, 21, 22, 23, 24, 25, 26, 27, 28, 29, 30, 31, 32, 33, 34, 35, 36, 37, 38, 39, 40, 41, 42, 43, 44, 45, 46, 47, 48, 49, 50, 51, 52] (by decide +kernel) (by decide +kernel)
set_option maxRecDepth 20000 in
theorem gX11_reign_X11_reignBy : GoodIn wsX11_reign (wsV RX11 174 RX11 yX11_reignBy wsX11_reignBy) := goodIn_app (goodIn_of _ (by decide +kernel)) ggX11_reign_X11_reignBy
end
section
theorem dX11_reign_0 : decode cX11_reign 0 = .ok (.aload_n 0, 1) := by decide +kernel
theorem dX11_reign_1 : decode cX11_reign 1 = .ok (.iload_n 1, 1) := by decide +kernel
theorem dX11_reign_2 : decode cX11_reign 2 = .ok (.aload_n 0, 1) := by decide +kernel
theorem dX11_reign_3 : decode cX11_reign 3 = .ok (.getfield 25, 3) := by decide +kernel
theorem dX11_reign_6 : decode cX11_reign 6 = .ok (.bipush 7, 2) := by decide +kernel
theorem dX11_reign_8 : decode cX11_reign 8 = .ok (.iload_n 1, 1) := by decide +kernel
theorem dX11_reign_9 : decode cX11_reign 9 = .ok (.iadd, 1) := by decide +kernel
theorem dX11_reign_10 : decode cX11_reign 10 = .ok (.iaload, 1) := by decide +kernel
theorem dX11_reign_11 : decode cX11_reign 11 = .ok (.invokevirtual 174, 3) := by decide +kernel
theorem dX11_reign_14 : decode cX11_reign 14 = .ok (.ireturn, 1) := by decide +kernel
theorem dX11_allThat_0 : decode cX11_allThat 0 = .ok (.iconst 0, 1) := by decide +kernel
theorem dX11_allThat_1 : decode cX11_allThat 1 = .ok (.istore_n 2, 1) := by decide +kernel
theorem dX11_allThat_2 : decode cX11_allThat 2 = .ok (.iconst 0, 1) := by decide +kernel
theorem dX11_allThat_3 : decode cX11_allThat 3 = .ok (.istore_n 3, 1) := by decide +kernel
theorem dX11_allThat_4 : decode cX11_allThat 4 = .ok (.iload_n 3, 1) := by decide +kernel
theorem dX11_allThat_5 : decode cX11_allThat 5 = .ok (.aload_n 0, 1) := by decide +kernel
theorem dX11_allThat_6 : decode cX11_allThat 6 = .ok (.getfield 93, 3) := by decide +kernel
theorem dX11_allThat_9 : decode cX11_allThat 9 = .ok (.if_icmp .ge 29, 3) := by decide +kernel
theorem dX11_allThat_12 : decode cX11_allThat 12 = .ok (.iload_n 2, 1) := by decide +kernel
theorem dX11_allThat_13 : decode cX11_allThat 13 = .ok (.aload_n 0, 1) := by decide +kernel
theorem dX11_allThat_14 : decode cX11_allThat 14 = .ok (.getfield 25, 3) := by decide +kernel
theorem dX11_allThat_17 : decode cX11_allThat 17 = .ok (.iload_n 3, 1) := by decide +kernel
theorem dX11_allThat_18 : decode cX11_allThat 18 = .ok (.iaload, 1) := by decide +kernel
theorem dX11_allThat_19 : decode cX11_allThat 19 = .ok (.iload_n 1, 1) := by decide +kernel
theorem dX11_allThat_20 : decode cX11_allThat 20 = .ok (.if_icmp .ne 9, 3) := by decide +kernel
theorem dX11_allThat_23 : decode cX11_allThat 23 = .ok (.iconst 1, 1) := by decide +kernel
theorem dX11_allThat_24 : decode cX11_allThat 24 = .ok (.iload_n 3, 1) := by decide +kernel
theorem dX11_allThat_25 : decode cX11_allThat 25 = .ok (.ishl, 1) := by decide +kernel
theorem dX11_allThat_26 : decode cX11_allThat 26 = .ok (.goto 4, 3) := by decide +kernel
theorem dX11_allThat_29 : decode cX11_allThat 29 = .ok (.iconst 0, 1) := by decide +kernel
theorem dX11_allThat_30 : decode cX11_allThat 30 = .ok (.ior, 1) := by decide +kernel
theorem dX11_allThat_31 : decode cX11_allThat 31 = .ok (.istore_n 2, 1) := by decide +kernel
theorem dX11_allThat_32 : decode cX11_allThat 32 = .ok (.iinc 3 1, 3) := by decide +kernel
theorem dX11_allThat_35 : decode cX11_allThat 35 = .ok (.goto (-31), 3) := by decide +kernel
theorem dX11_allThat_38 : decode cX11_allThat 38 = .ok (.iload_n 2, 1) := by decide +kernel
theorem dX11_allThat_39 : decode cX11_allThat 39 = .ok (.ireturn, 1) := by decide +kernel
theorem dX11_king_0 : decode cX11_king 0 = .ok (.iconst 0, 1) := by decide +kernel
theorem dX11_king_1 : decode cX11_king 1 = .ok (.istore_n 1, 1) := by decide +kernel
theorem dX11_king_2 : decode cX11_king 2 = .ok (.iload_n 1, 1) := by decide +kernel
theorem dX11_king_3 : decode cX11_king 3 = .ok (.aload_n 0, 1) := by decide +kernel
theorem dX11_king_4 : decode cX11_king 4 = .ok (.getfield 93, 3) := by decide +kernel
theorem dX11_king_7 : decode cX11_king 7 = .ok (.if_icmp .ge 21, 3) := by decide +kernel
theorem dX11_king_10 : decode cX11_king 10 = .ok (.aload_n 0, 1) := by decide +kernel
theorem dX11_king_11 : decode cX11_king 11 = .ok (.getfield 25, 3) := by decide +kernel
theorem dX11_king_14 : decode cX11_king 14 = .ok (.iload_n 1, 1) := by decide +kernel
theorem dX11_king_15 : decode cX11_king 15 = .ok (.iaload, 1) := by decide +kernel
theorem dX11_king_16 : decode cX11_king 16 = .ok (.iconst 3, 1) := by decide +kernel
theorem dX11_king_17 : decode cX11_king 17 = .ok (.if_icmp .ne 5, 3) := by decide +kernel
theorem dX11_king_20 : decode cX11_king 20 = .ok (.iload_n 1, 1) := by decide +kernel
theorem dX11_king_21 : decode cX11_king 21 = .ok (.ireturn, 1) := by decide +kernel
theorem dX11_king_22 : decode cX11_king 22 = .ok (.iinc 1 1, 3) := by decide +kernel
theorem dX11_king_25 : decode cX11_king 25 = .ok (.goto (-23), 3) := by decide +kernel
theorem dX11_king_28 : decode cX11_king 28 = .ok (.iconst (-1), 1) := by decide +kernel
theorem dX11_king_29 : decode cX11_king 29 = .ok (.ireturn, 1) := by decide +kernel
theorem dX11_inPan_0 : decode cX11_inPan 0 = .ok (.iconst 0, 1) := by decide +kernel
theorem dX11_inPan_1 : decode cX11_inPan 1 = .ok (.istore_n 1, 1) := by decide +kernel
theorem dX11_inPan_2 : decode cX11_inPan 2 = .ok (.iconst 0, 1) := by decide +kernel
theorem dX11_inPan_3 : decode cX11_inPan 3 = .ok (.istore_n 2, 1) := by decide +kernel
theorem dX11_inPan_4 : decode cX11_inPan 4 = .ok (.iload_n 2, 1) := by decide +kernel
theorem dX11_inPan_5 : decode cX11_inPan 5 = .ok (.aload_n 0, 1) := by decide +kernel
theorem dX11_inPan_6 : decode cX11_inPan 6 = .ok (.getfield 93, 3) := by decide +kernel
theorem dX11_inPan_9 : decode cX11_inPan 9 = .ok (.if_icmp .ge 27, 3) := by decide +kernel
theorem dX11_inPan_12 : decode cX11_inPan 12 = .ok (.iload_n 1, 1) := by decide +kernel
theorem dX11_inPan_13 : decode cX11_inPan 13 = .ok (.aload_n 0, 1) := by decide +kernel
theorem dX11_inPan_14 : decode cX11_inPan 14 = .ok (.getfield 25, 3) := by decide +kernel
theorem dX11_inPan_17 : decode cX11_inPan 17 = .ok (.iload_n 2, 1) := by decide +kernel
theorem dX11_inPan_18 : decode cX11_inPan 18 = .ok (.iaload, 1) := by decide +kernel
theorem dX11_inPan_19 : decode cX11_inPan 19 = .ok (.iconst 1, 1) := by decide +kernel
theorem dX11_inPan_20 : decode cX11_inPan 20 = .ok (.if_icmp .ne 7, 3) := by decide +kernel
theorem dX11_inPan_23 : decode cX11_inPan 23 = .ok (.iconst 1, 1) := by decide +kernel
theorem dX11_inPan_24 : decode cX11_inPan 24 = .ok (.goto 4, 3) := by decide +kernel
theorem dX11_inPan_27 : decode cX11_inPan 27 = .ok (.iconst 0, 1) := by decide +kernel
theorem dX11_inPan_28 : decode cX11_inPan 28 = .ok (.iadd, 1) := by decide +kernel
theorem dX11_inPan_29 : decode cX11_inPan 29 = .ok (.istore_n 1, 1) := by decide +kernel
theorem dX11_inPan_30 : decode cX11_inPan 30 = .ok (.iinc 2 1, 3) := by decide +kernel
theorem dX11_inPan_33 : decode cX11_inPan 33 = .ok (.goto (-29), 3) := by decide +kernel
theorem dX11_inPan_36 : decode cX11_inPan 36 = .ok (.iload_n 1, 1) := by decide +kernel
theorem dX11_inPan_37 : decode cX11_inPan 37 = .ok (.ireturn, 1) := by decide +kernel
set_option maxRecDepth 20000 in
theorem ggX11_pretenders_X11_hard : GoodIn wsX11_pretenders wsX11_hard := goodIn_r _ [7, 2, 8, 9, 10, 6, 11, 12, 13, 14, 15, 16, 17, 18, 19, 20, 21, 22, 23, 24, 25, 26, 27, 28, 29, 30, 31, 32, 33, 34, 35, 36, 37, 38, 39, 40, 41, 42, 43, 44, 45, 46, 47, 48, 49, 50, 51, 52, 53] (by decide +kernel) (by decide +kernel)
set_option maxRecDepth 20000 in
theorem gX11_pretenders_X11_hard : GoodIn wsX11_pretenders (wsV RX11 177 RX11 yX11_hard wsX11_hard) := goodIn_app (goodIn_of _ (by decide +kernel)) ggX11_pretenders_X11_hard
theorem dX11_pretenders_0 : decode cX11_pretenders 0 = .ok (.iconst 0, 1) := by decide +kernel
theorem dX11_pretenders_1 : decode cX11_pretenders 1 = .ok (.istore_n 1, 1) := by decide +kernel
theorem dX11_pretenders_2 : decode cX11_pretenders 2 = .ok (.iconst 0, 1) := by decide +kernel
theorem dX11_pretenders_3 : decode cX11_pretenders 3 = .ok (.istore_n 2, 1) := by decide +kernel
theorem dX11_pretenders_4 : decode cX11_pretenders 4 = .ok (.iload_n 2, 1) := by decide +kernel
theorem dX11_pretenders_5 : decode cX11_pretenders 5 = .ok (.aload_n 0, 1) := by decide +kernel
theorem dX11_pretenders_6 : decode cX11_pretenders 6 = .ok (.getfield 93, 3) := by decide +kernel
theorem dX11_pretenders_9 : decode cX11_pretenders 9 = .ok (.if_icmp .ge 37, 3) := by decide +kernel
theorem dX11_pretenders_12 : decode cX11_pretenders 12 = .ok (.iload_n 1, 1) := by decide +kernel
theorem dX11_pretenders_13 : decode cX11_pretenders 13 = .ok (.aload_n 0, 1) := by decide +kernel
theorem dX11_pretenders_14 : decode cX11_pretenders 14 = .ok (.getfield 25, 3) := by decide +kernel
theorem dX11_pretenders_17 : decode cX11_pretenders 17 = .ok (.iload_n 2, 1) := by decide +kernel
theorem dX11_pretenders_18 : decode cX11_pretenders 18 = .ok (.iaload, 1) := by decide +kernel
theorem dX11_pretenders_19 : decode cX11_pretenders 19 = .ok (.iconst 2, 1) := by decide +kernel
theorem dX11_pretenders_20 : decode cX11_pretenders 20 = .ok (.if_icmp .ne 17, 3) := by decide +kernel
theorem dX11_pretenders_23 : decode cX11_pretenders 23 = .ok (.aload_n 0, 1) := by decide +kernel
theorem dX11_pretenders_24 : decode cX11_pretenders 24 = .ok (.iload_n 2, 1) := by decide +kernel
theorem dX11_pretenders_25 : decode cX11_pretenders 25 = .ok (.invokevirtual 177, 3) := by decide +kernel
theorem dX11_pretenders_28 : decode cX11_pretenders 28 = .ok (.ifCond .ne 9, 3) := by decide +kernel
theorem dX11_pretenders_31 : decode cX11_pretenders 31 = .ok (.iconst 1, 1) := by decide +kernel
theorem dX11_pretenders_32 : decode cX11_pretenders 32 = .ok (.iload_n 2, 1) := by decide +kernel
theorem dX11_pretenders_33 : decode cX11_pretenders 33 = .ok (.ishl, 1) := by decide +kernel
theorem dX11_pretenders_34 : decode cX11_pretenders 34 = .ok (.goto 4, 3) := by decide +kernel
theorem dX11_pretenders_37 : decode cX11_pretenders 37 = .ok (.iconst 0, 1) := by decide +kernel
theorem dX11_pretenders_38 : decode cX11_pretenders 38 = .ok (.ior, 1) := by decide +kernel
theorem dX11_pretenders_39 : decode cX11_pretenders 39 = .ok (.istore_n 1, 1) := by decide +kernel
theorem dX11_pretenders_40 : decode cX11_pretenders 40 = .ok (.iinc 2 1, 3) := by decide +kernel
theorem dX11_pretenders_43 : decode cX11_pretenders 43 = .ok (.goto (-39), 3) := by decide +kernel
theorem dX11_pretenders_46 : decode cX11_pretenders 46 = .ok (.iload_n 1, 1) := by decide +kernel
theorem dX11_pretenders_47 : decode cX11_pretenders 47 = .ok (.ireturn, 1) := by decide +kernel
set_option maxRecDepth 20000 in
theorem ggX11_heir_X11_reign : GoodIn wsX11_heir wsX11_reign := goodIn_r _ [7, 2, 8, 9, 10, 6, 11, 12, 13, 14, 15, 16, 17, 18, 19, 20, 21, 22, 23, 24, 25, 26, 27, 28, 29, 30, 31, 32, 33, 34, 35, 36, 37, 38, 39, 40, 41, 42, 43, 44, 45, 46, 47, 48, 49, 50, 51, 52, 53, 54, 55, 56, 57] (by decide +kernel) (by decide +kernel)
set_option maxRecDepth 20000 in
theorem gX11_heir_X11_reign : GoodIn wsX11_heir (wsV RX11 181 RX11 yX11_reign wsX11_reign) := goodIn_app (goodIn_of _ (by decide +kernel)) ggX11_heir_X11_reign
theorem dX11_heir_0 : decode cX11_heir 0 = .ok (.iconst (-1), 1) := by decide +kernel
theorem dX11_heir_1 : decode cX11_heir 1 = .ok (.istore_n 1, 1) := by decide +kernel
theorem dX11_heir_2 : decode cX11_heir 2 = .ok (.iconst 0, 1) := by decide +kernel
theorem dX11_heir_3 : decode cX11_heir 3 = .ok (.istore_n 2, 1) := by decide +kernel
theorem dX11_heir_4 : decode cX11_heir 4 = .ok (.iload_n 2, 1) := by decide +kernel
theorem dX11_heir_5 : decode cX11_heir 5 = .ok (.aload_n 0, 1) := by decide +kernel
theorem dX11_heir_6 : decode cX11_heir 6 = .ok (.getfield 93, 3) := by decide +kernel
theorem dX11_heir_9 : decode cX11_heir 9 = .ok (.if_icmp .ge 52, 3) := by decide +kernel
theorem dX11_heir_12 : decode cX11_heir 12 = .ok (.iload_n 1, 1) := by decide +kernel
theorem dX11_heir_13 : decode cX11_heir 13 = .ok (.ifCond .lt 16, 3) := by decide +kernel
theorem dX11_heir_16 : decode cX11_heir 16 = .ok (.aload_n 0, 1) := by decide +kernel
theorem dX11_heir_17 : decode cX11_heir 17 = .ok (.iload_n 2, 1) := by decide +kernel
theorem dX11_heir_18 : decode cX11_heir 18 = .ok (.invokevirtual 181, 3) := by decide +kernel
theorem dX11_heir_21 : decode cX11_heir 21 = .ok (.aload_n 0, 1) := by decide +kernel
theorem dX11_heir_22 : decode cX11_heir 22 = .ok (.iload_n 1, 1) := by decide +kernel
theorem dX11_heir_23 : decode cX11_heir 23 = .ok (.invokevirtual 181, 3) := by decide +kernel
theorem dX11_heir_26 : decode cX11_heir 26 = .ok (.if_icmp .le 7, 3) := by decide +kernel
theorem dX11_heir_29 : decode cX11_heir 29 = .ok (.iconst 1, 1) := by decide +kernel
theorem dX11_heir_30 : decode cX11_heir 30 = .ok (.goto 4, 3) := by decide +kernel
theorem dX11_heir_33 : decode cX11_heir 33 = .ok (.iconst 0, 1) := by decide +kernel
theorem dX11_heir_34 : decode cX11_heir 34 = .ok (.istore_n 3, 1) := by decide +kernel
theorem dX11_heir_35 : decode cX11_heir 35 = .ok (.aload_n 0, 1) := by decide +kernel
theorem dX11_heir_36 : decode cX11_heir 36 = .ok (.getfield 25, 3) := by decide +kernel
theorem dX11_heir_39 : decode cX11_heir 39 = .ok (.iload_n 2, 1) := by decide +kernel
theorem dX11_heir_40 : decode cX11_heir 40 = .ok (.iaload, 1) := by decide +kernel
theorem dX11_heir_41 : decode cX11_heir 41 = .ok (.iconst 2, 1) := by decide +kernel
theorem dX11_heir_42 : decode cX11_heir 42 = .ok (.if_icmp .ne 11, 3) := by decide +kernel
theorem dX11_heir_45 : decode cX11_heir 45 = .ok (.iload_n 3, 1) := by decide +kernel
theorem dX11_heir_46 : decode cX11_heir 46 = .ok (.ifCond .eq 7, 3) := by decide +kernel
theorem dX11_heir_49 : decode cX11_heir 49 = .ok (.iload_n 2, 1) := by decide +kernel
theorem dX11_heir_50 : decode cX11_heir 50 = .ok (.goto 4, 3) := by decide +kernel
theorem dX11_heir_53 : decode cX11_heir 53 = .ok (.iload_n 1, 1) := by decide +kernel
theorem dX11_heir_54 : decode cX11_heir 54 = .ok (.istore_n 1, 1) := by decide +kernel
theorem dX11_heir_55 : decode cX11_heir 55 = .ok (.iinc 2 1, 3) := by decide +kernel
theorem dX11_heir_58 : decode cX11_heir 58 = .ok (.goto (-54), 3) := by decide +kernel
theorem dX11_heir_61 : decode cX11_heir 61 = .ok (.iload_n 1, 1) := by decide +kernel
theorem dX11_heir_62 : decode cX11_heir 62 = .ok (.ireturn, 1) := by decide +kernel
set_option maxRecDepth 20000 in
theorem ggX11_told_X11_king : GoodIn wsX11_told wsX11_king := goodIn_r _ [15, 4, 2, 46, 47, 48, 49, 50, 51, 52, 53, 54, 55, 56, 57, 58, 59, 60, 61, 62, 63, 64, 65, 66, 67, 68, 69, 70, 71, 72, 73, 74, 75, 76, 77, 78, 79, 80, 81, 82, 83, 84, 85] (by decide +kernel) (by decide +kernel)
set_option maxRecDepth 20000 in
theorem gX11_told_X11_king : GoodIn wsX11_told (wsV RX11 184 RX11 yX11_king wsX11_king) := goodIn_app (goodIn_of _ (by decide +kernel)) ggX11_told_X11_king
set_option maxRecDepth 20000 in
theorem ggX11_told_X11_allThat : GoodIn wsX11_told wsX11_allThat := goodIn_r _ [19, 4, 2, 46, 47, 48, 49, 50, 51, 52, 53, 54, 55, 56, 57, 58, 59, 60, 61, 62, 63, 64, 65, 66, 67, 68, 69, 70, 71, 72, 73, 74, 75, 76, 77, 78, 79, 80, 81, 82, 83, 84, 85] (by decide +kernel) (by decide +kernel)
set_option maxRecDepth 20000 in
theorem gX11_told_X11_allThat : GoodIn wsX11_told (wsV RX11 187 RX11 yX11_allThat wsX11_allThat) := goodIn_app (goodIn_of _ (by decide +kernel)) ggX11_told_X11_allThat
set_option maxRecDepth 20000 in
theorem ggX11_told_X11_pretenders : GoodIn wsX11_told wsX11_pretenders := goodIn_r _ [23, 4, 2, 24, 25, 26, 14, 27, 28, 29, 30, 31, 32, 33, 46, 47, 48, 49, 50, 51, 52, 53, 54, 55, 56, 57, 58, 59, 60, 61, 62, 63, 64, 65, 66, 67, 68, 69, 70, 71, 72, 73, 74, 75, 76, 77, 78, 79, 80, 81, 82, 83, 84, 85] (by decide +kernel) (by decide +kernel)
set_option maxRecDepth 20000 in
theorem gX11_told_X11_pretenders : GoodIn wsX11_told (wsV RX11 190 RX11 yX11_pretenders wsX11_pretenders) := goodIn_app (goodIn_of _ (by decide +kernel)) ggX11_told_X11_pretenders
set_option maxRecDepth 20000 in
theorem ggX11_told_X11_heir : GoodIn wsX11_told wsX11_heir := goodIn_r _ [37, 4, 2, 38, 39, 40, 14, 41, 42, 43, 44, 45, 32, 28, 29, 30, 31, 33, 46, 47, 48, 49, 50, 51, 52, 53, 54, 55, 56, 57, 58, 59, 60, 61, 62, 63, 64, 65, 66, 67, 68, 69, 70, 71, 72, 73, 74, 75, 76, 77, 78, 79, 80, 81, 82, 83, 84, 85] (by decide +kernel) (by decide +kernel)
set_option maxRecDepth 20000 in
theorem gX11_told_X11_heir : GoodIn wsX11_told (wsV RX11 193 RX11 yX11_heir wsX11_heir) := goodIn_app (goodIn_of _ (by decide +kernel)) ggX11_told_X11_heir
theorem dX11_told_0 : decode cX11_told 0 = .ok (.iload_n 1, 1) := by decide +kernel
theorem dX11_told_1 : decode cX11_told 1 = .ok (.tableswitch 194 0 17 #[87, 92, 100, 105, 110, 115, 120, 128, 133, 141, 149, 157, 163, 169, 174, 179, 184, 189], 87) := by decide +kernel
theorem dX11_told_88 : decode cX11_told 88 = .ok (.aload_n 0, 1) := by decide +kernel
theorem dX11_told_89 : decode cX11_told 89 = .ok (.getfield 90, 3) := by decide +kernel
theorem dX11_told_92 : decode cX11_told 92 = .ok (.ireturn, 1) := by decide +kernel
theorem dX11_told_93 : decode cX11_told 93 = .ok (.aload_n 0, 1) := by decide +kernel
theorem dX11_told_94 : decode cX11_told 94 = .ok (.getfield 25, 3) := by decide +kernel
theorem dX11_told_97 : decode cX11_told 97 = .ok (.bipush 14, 2) := by decide +kernel
theorem dX11_told_99 : decode cX11_told 99 = .ok (.iaload, 1) := by decide +kernel
theorem dX11_told_100 : decode cX11_told 100 = .ok (.ireturn, 1) := by decide +kernel
theorem dX11_told_101 : decode cX11_told 101 = .ok (.aload_n 0, 1) := by decide +kernel
theorem dX11_told_102 : decode cX11_told 102 = .ok (.getfield 153, 3) := by decide +kernel
theorem dX11_told_105 : decode cX11_told 105 = .ok (.ireturn, 1) := by decide +kernel
theorem dX11_told_106 : decode cX11_told 106 = .ok (.aload_n 0, 1) := by decide +kernel
theorem dX11_told_107 : decode cX11_told 107 = .ok (.getfield 93, 3) := by decide +kernel
theorem dX11_told_110 : decode cX11_told 110 = .ok (.ireturn, 1) := by decide +kernel
theorem dX11_told_111 : decode cX11_told 111 = .ok (.aload_n 0, 1) := by decide +kernel
theorem dX11_told_112 : decode cX11_told 112 = .ok (.getfield 100, 3) := by decide +kernel
theorem dX11_told_115 : decode cX11_told 115 = .ok (.ireturn, 1) := by decide +kernel
theorem dX11_told_116 : decode cX11_told 116 = .ok (.aload_n 0, 1) := by decide +kernel
theorem dX11_told_117 : decode cX11_told 117 = .ok (.getfield 106, 3) := by decide +kernel
theorem dX11_told_120 : decode cX11_told 120 = .ok (.ireturn, 1) := by decide +kernel
theorem dX11_told_121 : decode cX11_told 121 = .ok (.aload_n 0, 1) := by decide +kernel
theorem dX11_told_122 : decode cX11_told 122 = .ok (.getfield 25, 3) := by decide +kernel
theorem dX11_told_125 : decode cX11_told 125 = .ok (.bipush 16, 2) := by decide +kernel
theorem dX11_told_127 : decode cX11_told 127 = .ok (.iaload, 1) := by decide +kernel
theorem dX11_told_128 : decode cX11_told 128 = .ok (.ireturn, 1) := by decide +kernel
theorem dX11_told_129 : decode cX11_told 129 = .ok (.aload_n 0, 1) := by decide +kernel
theorem dX11_told_130 : decode cX11_told 130 = .ok (.invokevirtual 184, 3) := by decide +kernel
theorem dX11_told_133 : decode cX11_told 133 = .ok (.ireturn, 1) := by decide +kernel
theorem dX11_told_134 : decode cX11_told 134 = .ok (.aload_n 0, 1) := by decide +kernel
theorem dX11_told_135 : decode cX11_told 135 = .ok (.getfield 25, 3) := by decide +kernel
theorem dX11_told_138 : decode cX11_told 138 = .ok (.bipush 15, 2) := by decide +kernel
theorem dX11_told_140 : decode cX11_told 140 = .ok (.iaload, 1) := by decide +kernel
theorem dX11_told_141 : decode cX11_told 141 = .ok (.ireturn, 1) := by decide +kernel
theorem dX11_told_142 : decode cX11_told 142 = .ok (.aload_n 0, 1) := by decide +kernel
theorem dX11_told_143 : decode cX11_told 143 = .ok (.getfield 25, 3) := by decide +kernel
theorem dX11_told_146 : decode cX11_told 146 = .ok (.bipush 17, 2) := by decide +kernel
theorem dX11_told_148 : decode cX11_told 148 = .ok (.iaload, 1) := by decide +kernel
theorem dX11_told_149 : decode cX11_told 149 = .ok (.ireturn, 1) := by decide +kernel
theorem dX11_told_150 : decode cX11_told 150 = .ok (.aload_n 0, 1) := by decide +kernel
theorem dX11_told_151 : decode cX11_told 151 = .ok (.getfield 25, 3) := by decide +kernel
theorem dX11_told_154 : decode cX11_told 154 = .ok (.bipush 18, 2) := by decide +kernel
theorem dX11_told_156 : decode cX11_told 156 = .ok (.iaload, 1) := by decide +kernel
theorem dX11_told_157 : decode cX11_told 157 = .ok (.ireturn, 1) := by decide +kernel
theorem dX11_told_158 : decode cX11_told 158 = .ok (.aload_n 0, 1) := by decide +kernel
theorem dX11_told_159 : decode cX11_told 159 = .ok (.iconst 1, 1) := by decide +kernel
theorem dX11_told_160 : decode cX11_told 160 = .ok (.invokevirtual 187, 3) := by decide +kernel
theorem dX11_told_163 : decode cX11_told 163 = .ok (.ireturn, 1) := by decide +kernel
theorem dX11_told_164 : decode cX11_told 164 = .ok (.aload_n 0, 1) := by decide +kernel
theorem dX11_told_165 : decode cX11_told 165 = .ok (.iconst 2, 1) := by decide +kernel
theorem dX11_told_166 : decode cX11_told 166 = .ok (.invokevirtual 187, 3) := by decide +kernel
theorem dX11_told_169 : decode cX11_told 169 = .ok (.ireturn, 1) := by decide +kernel
theorem dX11_told_170 : decode cX11_told 170 = .ok (.aload_n 0, 1) := by decide +kernel
theorem dX11_told_171 : decode cX11_told 171 = .ok (.invokevirtual 190, 3) := by decide +kernel
theorem dX11_told_174 : decode cX11_told 174 = .ok (.ireturn, 1) := by decide +kernel
theorem dX11_told_175 : decode cX11_told 175 = .ok (.aload_n 0, 1) := by decide +kernel
theorem dX11_told_176 : decode cX11_told 176 = .ok (.invokevirtual 193, 3) := by decide +kernel
theorem dX11_told_179 : decode cX11_told 179 = .ok (.ireturn, 1) := by decide +kernel
theorem dX11_told_180 : decode cX11_told 180 = .ok (.aload_n 0, 1) := by decide +kernel
theorem dX11_told_181 : decode cX11_told 181 = .ok (.getfield 162, 3) := by decide +kernel
theorem dX11_told_184 : decode cX11_told 184 = .ok (.ireturn, 1) := by decide +kernel
theorem dX11_told_185 : decode cX11_told 185 = .ok (.aload_n 0, 1) := by decide +kernel
theorem dX11_told_186 : decode cX11_told 186 = .ok (.getfield 165, 3) := by decide +kernel
theorem dX11_told_189 : decode cX11_told 189 = .ok (.ireturn, 1) := by decide +kernel
theorem dX11_told_190 : decode cX11_told 190 = .ok (.aload_n 0, 1) := by decide +kernel
theorem dX11_told_191 : decode cX11_told 191 = .ok (.getfield 168, 3) := by decide +kernel
theorem dX11_told_194 : decode cX11_told 194 = .ok (.ireturn, 1) := by decide +kernel
theorem dX11_told_195 : decode cX11_told 195 = .ok (.ldc 105, 2) := by decide +kernel
theorem dX11_told_197 : decode cX11_told 197 = .ok (.ireturn, 1) := by decide +kernel
set_option maxRecDepth 20000 in
theorem ggX11_egg_X11_isEgg : GoodIn wsX11_egg wsX11_isEgg := goodIn_r _ [11, 12, 13, 14, 10, 15, 32, 33, 34, 35, 36, 37, 38, 39, 40, 41, 42, 43, 44, 45, 46, 47, 48, 49, 50, 51, 52, 53, 54, 55, 56, 57, 58, 59, 60, 61, 62, 63, 64, 65, 66, 67, 68, 69, 70, 71] (by decide +kernel) (by decide +kernel)
set_option maxRecDepth 20000 in
theorem gX11_egg_X11_isEgg : GoodIn wsX11_egg (wsV RX11 196 RX11 yX11_isEgg wsX11_isEgg) := goodIn_app (goodIn_of _ (by decide +kernel)) ggX11_egg_X11_isEgg
set_option maxRecDepth 20000 in
theorem ggX11_egg_X11_hard : GoodIn wsX11_egg wsX11_hard := goodIn_r _ [19, 4, 20, 21, 22, 10, 23, 3, 2, 32, 33, 34, 35, 36, 37, 38, 39, 40, 41, 42, 43, 44, 45, 46, 47, 48, 49, 50, 51, 52, 53, 54, 55, 56, 57, 58, 59, 60, 61, 62, 63, 64, 65, 66, 67, 68, 69, 70, 71] (by decide +kernel) (by decide +kernel)
set_option maxRecDepth 20000 in
theorem gX11_egg_X11_hard : GoodIn wsX11_egg (wsV RX11 177 RX11 yX11_hard wsX11_hard) := goodIn_app (goodIn_of _ (by decide +kernel)) ggX11_egg_X11_hard
set_option maxRecDepth 20000 in
theorem ggX11_egg_X11_reign : GoodIn wsX11_egg wsX11_reign := goodIn_r _ [27, 4, 28, 29, 30, 10, 31, 3, 20, 21, 22, 23, 2, 32, 33, 34, 35, 36, 37, 38, 39, 40, 41, 42, 43, 44, 45, 46, 47, 48, 49, 50, 51, 52, 53, 54, 55, 56, 57, 58, 59, 60, 61, 62, 63, 64, 65, 66, 67, 68, 69, 70, 71] (by decide +kernel) (by decide +kernel)
set_option maxRecDepth 20000 in
theorem gX11_egg_X11_reign : GoodIn wsX11_egg (wsV RX11 181 RX11 yX11_reign wsX11_reign) := goodIn_app (goodIn_of _ (by decide +kernel)) ggX11_egg_X11_reign
theorem dX11_egg_0 : decode cX11_egg 0 = .ok (.aload_n 0, 1) := by decide +kernel
theorem dX11_egg_1 : decode cX11_egg 1 = .ok (.iload_n 1, 1) := by decide +kernel
theorem dX11_egg_2 : decode cX11_egg 2 = .ok (.invokevirtual 196, 3) := by decide +kernel
theorem dX11_egg_5 : decode cX11_egg 5 = .ok (.ifCond .ne 6, 3) := by decide +kernel
theorem dX11_egg_8 : decode cX11_egg 8 = .ok (.ldc 200, 2) := by decide +kernel
theorem dX11_egg_10 : decode cX11_egg 10 = .ok (.ireturn, 1) := by decide +kernel
theorem dX11_egg_11 : decode cX11_egg 11 = .ok (.iload_n 2, 1) := by decide +kernel
theorem dX11_egg_12 : decode cX11_egg 12 = .ok (.tableswitch 94 0 6 #[44, 51, 58, 65, 75, 81, 87], 44) := by decide +kernel
theorem dX11_egg_56 : decode cX11_egg 56 = .ok (.aload_n 0, 1) := by decide +kernel
theorem dX11_egg_57 : decode cX11_egg 57 = .ok (.getfield 7, 3) := by decide +kernel
theorem dX11_egg_60 : decode cX11_egg 60 = .ok (.iload_n 1, 1) := by decide +kernel
theorem dX11_egg_61 : decode cX11_egg 61 = .ok (.iaload, 1) := by decide +kernel
theorem dX11_egg_62 : decode cX11_egg 62 = .ok (.ireturn, 1) := by decide +kernel
theorem dX11_egg_63 : decode cX11_egg 63 = .ok (.aload_n 0, 1) := by decide +kernel
theorem dX11_egg_64 : decode cX11_egg 64 = .ok (.getfield 13, 3) := by decide +kernel
theorem dX11_egg_67 : decode cX11_egg 67 = .ok (.iload_n 1, 1) := by decide +kernel
theorem dX11_egg_68 : decode cX11_egg 68 = .ok (.iaload, 1) := by decide +kernel
theorem dX11_egg_69 : decode cX11_egg 69 = .ok (.ireturn, 1) := by decide +kernel
theorem dX11_egg_70 : decode cX11_egg 70 = .ok (.aload_n 0, 1) := by decide +kernel
theorem dX11_egg_71 : decode cX11_egg 71 = .ok (.getfield 25, 3) := by decide +kernel
theorem dX11_egg_74 : decode cX11_egg 74 = .ok (.iload_n 1, 1) := by decide +kernel
theorem dX11_egg_75 : decode cX11_egg 75 = .ok (.iaload, 1) := by decide +kernel
theorem dX11_egg_76 : decode cX11_egg 76 = .ok (.ireturn, 1) := by decide +kernel
theorem dX11_egg_77 : decode cX11_egg 77 = .ok (.aload_n 0, 1) := by decide +kernel
theorem dX11_egg_78 : decode cX11_egg 78 = .ok (.getfield 25, 3) := by decide +kernel
theorem dX11_egg_81 : decode cX11_egg 81 = .ok (.bipush 7, 2) := by decide +kernel
theorem dX11_egg_83 : decode cX11_egg 83 = .ok (.iload_n 1, 1) := by decide +kernel
theorem dX11_egg_84 : decode cX11_egg 84 = .ok (.iadd, 1) := by decide +kernel
theorem dX11_egg_85 : decode cX11_egg 85 = .ok (.iaload, 1) := by decide +kernel
theorem dX11_egg_86 : decode cX11_egg 86 = .ok (.ireturn, 1) := by decide +kernel
theorem dX11_egg_87 : decode cX11_egg 87 = .ok (.aload_n 0, 1) := by decide +kernel
theorem dX11_egg_88 : decode cX11_egg 88 = .ok (.iload_n 1, 1) := by decide +kernel
theorem dX11_egg_89 : decode cX11_egg 89 = .ok (.invokevirtual 177, 3) := by decide +kernel
theorem dX11_egg_92 : decode cX11_egg 92 = .ok (.ireturn, 1) := by decide +kernel
theorem dX11_egg_93 : decode cX11_egg 93 = .ok (.aload_n 0, 1) := by decide +kernel
theorem dX11_egg_94 : decode cX11_egg 94 = .ok (.iload_n 1, 1) := by decide +kernel
theorem dX11_egg_95 : decode cX11_egg 95 = .ok (.invokevirtual 181, 3) := by decide +kernel
theorem dX11_egg_98 : decode cX11_egg 98 = .ok (.ireturn, 1) := by decide +kernel
theorem dX11_egg_99 : decode cX11_egg 99 = .ok (.aload_n 0, 1) := by decide +kernel
theorem dX11_egg_100 : decode cX11_egg 100 = .ok (.getfield 22, 3) := by decide +kernel
theorem dX11_egg_103 : decode cX11_egg 103 = .ok (.iload_n 1, 1) := by decide +kernel
theorem dX11_egg_104 : decode cX11_egg 104 = .ok (.iaload, 1) := by decide +kernel
theorem dX11_egg_105 : decode cX11_egg 105 = .ok (.ireturn, 1) := by decide +kernel
theorem dX11_egg_106 : decode cX11_egg 106 = .ok (.ldc 105, 2) := by decide +kernel
theorem dX11_egg_108 : decode cX11_egg 108 = .ok (.ireturn, 1) := by decide +kernel
set_option maxRecDepth 20000 in
theorem ggX11_eater_X11_isEater : GoodIn wsX11_eater wsX11_isEater := goodIn_r _ [9, 10, 11, 12, 8, 13, 14, 15, 16, 17, 18, 19, 20, 21, 22, 23, 24, 25, 26, 27, 28, 29, 30, 31, 32, 33, 34, 35, 36, 37, 38, 39, 40, 41, 42, 43, 44, 45, 46, 47, 48, 49, 50, 51, 52, 53] (by decide +kernel) (by decide +kernel)
set_option maxRecDepth 20000 in
theorem gX11_eater_X11_isEater : GoodIn wsX11_eater (wsV RX11 201 RX11 yX11_isEater wsX11_isEater) := goodIn_app (goodIn_of _ (by decide +kernel)) ggX11_eater_X11_isEater
theorem dX11_eater_0 : decode cX11_eater 0 = .ok (.aload_n 0, 1) := by decide +kernel
theorem dX11_eater_1 : decode cX11_eater 1 = .ok (.iload_n 1, 1) := by decide +kernel
theorem dX11_eater_2 : decode cX11_eater 2 = .ok (.invokevirtual 201, 3) := by decide +kernel
theorem dX11_eater_5 : decode cX11_eater 5 = .ok (.ifCond .ne 6, 3) := by decide +kernel
theorem dX11_eater_8 : decode cX11_eater 8 = .ok (.ldc 200, 2) := by decide +kernel
theorem dX11_eater_10 : decode cX11_eater 10 = .ok (.ireturn, 1) := by decide +kernel
theorem dX11_eater_11 : decode cX11_eater 11 = .ok (.iload_n 2, 1) := by decide +kernel
theorem dX11_eater_12 : decode cX11_eater 12 = .ok (.ifCond .ne 12, 3) := by decide +kernel
theorem dX11_eater_15 : decode cX11_eater 15 = .ok (.aload_n 0, 1) := by decide +kernel
theorem dX11_eater_16 : decode cX11_eater 16 = .ok (.getfield 16, 3) := by decide +kernel
theorem dX11_eater_19 : decode cX11_eater 19 = .ok (.iload_n 1, 1) := by decide +kernel
theorem dX11_eater_20 : decode cX11_eater 20 = .ok (.iaload, 1) := by decide +kernel
theorem dX11_eater_21 : decode cX11_eater 21 = .ok (.goto 19, 3) := by decide +kernel
theorem dX11_eater_24 : decode cX11_eater 24 = .ok (.iload_n 2, 1) := by decide +kernel
theorem dX11_eater_25 : decode cX11_eater 25 = .ok (.iconst 1, 1) := by decide +kernel
theorem dX11_eater_26 : decode cX11_eater 26 = .ok (.if_icmp .ne 12, 3) := by decide +kernel
theorem dX11_eater_29 : decode cX11_eater 29 = .ok (.aload_n 0, 1) := by decide +kernel
theorem dX11_eater_30 : decode cX11_eater 30 = .ok (.getfield 19, 3) := by decide +kernel
theorem dX11_eater_33 : decode cX11_eater 33 = .ok (.iload_n 1, 1) := by decide +kernel
theorem dX11_eater_34 : decode cX11_eater 34 = .ok (.iaload, 1) := by decide +kernel
theorem dX11_eater_35 : decode cX11_eater 35 = .ok (.goto 5, 3) := by decide +kernel
theorem dX11_eater_38 : decode cX11_eater 38 = .ok (.ldc 105, 2) := by decide +kernel
theorem dX11_eater_40 : decode cX11_eater 40 = .ok (.ireturn, 1) := by decide +kernel
theorem dX11_remember_0 : decode cX11_remember 0 = .ok (.aload_n 0, 1) := by decide +kernel
theorem dX11_remember_1 : decode cX11_remember 1 = .ok (.getfield 168, 3) := by decide +kernel
theorem dX11_remember_4 : decode cX11_remember 4 = .ok (.bipush 20, 2) := by decide +kernel
theorem dX11_remember_6 : decode cX11_remember 6 = .ok (.if_icmp .ne 44, 3) := by decide +kernel
theorem dX11_remember_9 : decode cX11_remember 9 = .ok (.bipush 19, 2) := by decide +kernel
theorem dX11_remember_11 : decode cX11_remember 11 = .ok (.istore_n 1, 1) := by decide +kernel
theorem dX11_remember_12 : decode cX11_remember 12 = .ok (.iload_n 1, 1) := by decide +kernel
theorem dX11_remember_13 : decode cX11_remember 13 = .ok (.sipush 380, 3) := by decide +kernel
theorem dX11_remember_16 : decode cX11_remember 16 = .ok (.if_icmp .ge 24, 3) := by decide +kernel
theorem dX11_remember_19 : decode cX11_remember 19 = .ok (.aload_n 0, 1) := by decide +kernel
theorem dX11_remember_20 : decode cX11_remember 20 = .ok (.getfield 50, 3) := by decide +kernel
theorem dX11_remember_23 : decode cX11_remember 23 = .ok (.iload_n 1, 1) := by decide +kernel
theorem dX11_remember_24 : decode cX11_remember 24 = .ok (.bipush 19, 2) := by decide +kernel
theorem dX11_remember_26 : decode cX11_remember 26 = .ok (.isub, 1) := by decide +kernel
theorem dX11_remember_27 : decode cX11_remember 27 = .ok (.aload_n 0, 1) := by decide +kernel
theorem dX11_remember_28 : decode cX11_remember 28 = .ok (.getfield 50, 3) := by decide +kernel
theorem dX11_remember_31 : decode cX11_remember 31 = .ok (.iload_n 1, 1) := by decide +kernel
theorem dX11_remember_32 : decode cX11_remember 32 = .ok (.iaload, 1) := by decide +kernel
theorem dX11_remember_33 : decode cX11_remember 33 = .ok (.iastore, 1) := by decide +kernel
theorem dX11_remember_34 : decode cX11_remember 34 = .ok (.iinc 1 1, 3) := by decide +kernel
theorem dX11_remember_37 : decode cX11_remember 37 = .ok (.goto (-25), 3) := by decide +kernel
theorem dX11_remember_40 : decode cX11_remember 40 = .ok (.aload_n 0, 1) := by decide +kernel
theorem dX11_remember_41 : decode cX11_remember 41 = .ok (.dup, 1) := by decide +kernel
theorem dX11_remember_42 : decode cX11_remember 42 = .ok (.getfield 168, 3) := by decide +kernel
theorem dX11_remember_45 : decode cX11_remember 45 = .ok (.iconst 1, 1) := by decide +kernel
theorem dX11_remember_46 : decode cX11_remember 46 = .ok (.isub, 1) := by decide +kernel
theorem dX11_remember_47 : decode cX11_remember 47 = .ok (.putfield 168, 3) := by decide +kernel
theorem dX11_remember_50 : decode cX11_remember 50 = .ok (.iconst 0, 1) := by decide +kernel
theorem dX11_remember_51 : decode cX11_remember 51 = .ok (.istore_n 1, 1) := by decide +kernel
theorem dX11_remember_52 : decode cX11_remember 52 = .ok (.iload_n 1, 1) := by decide +kernel
theorem dX11_remember_53 : decode cX11_remember 53 = .ok (.bipush 19, 2) := by decide +kernel
theorem dX11_remember_55 : decode cX11_remember 55 = .ok (.if_icmp .ge 29, 3) := by decide +kernel
theorem dX11_remember_58 : decode cX11_remember 58 = .ok (.aload_n 0, 1) := by decide +kernel
theorem dX11_remember_59 : decode cX11_remember 59 = .ok (.getfield 50, 3) := by decide +kernel
theorem dX11_remember_62 : decode cX11_remember 62 = .ok (.bipush 19, 2) := by decide +kernel
theorem dX11_remember_64 : decode cX11_remember 64 = .ok (.aload_n 0, 1) := by decide +kernel
theorem dX11_remember_65 : decode cX11_remember 65 = .ok (.getfield 168, 3) := by decide +kernel
theorem dX11_remember_68 : decode cX11_remember 68 = .ok (.imul, 1) := by decide +kernel
theorem dX11_remember_69 : decode cX11_remember 69 = .ok (.iload_n 1, 1) := by decide +kernel
theorem dX11_remember_70 : decode cX11_remember 70 = .ok (.iadd, 1) := by decide +kernel
theorem dX11_remember_71 : decode cX11_remember 71 = .ok (.aload_n 0, 1) := by decide +kernel
theorem dX11_remember_72 : decode cX11_remember 72 = .ok (.getfield 25, 3) := by decide +kernel
theorem dX11_remember_75 : decode cX11_remember 75 = .ok (.iload_n 1, 1) := by decide +kernel
theorem dX11_remember_76 : decode cX11_remember 76 = .ok (.iaload, 1) := by decide +kernel
theorem dX11_remember_77 : decode cX11_remember 77 = .ok (.iastore, 1) := by decide +kernel
theorem dX11_remember_78 : decode cX11_remember 78 = .ok (.iinc 1 1, 3) := by decide +kernel
theorem dX11_remember_81 : decode cX11_remember 81 = .ok (.goto (-29), 3) := by decide +kernel
theorem dX11_remember_84 : decode cX11_remember 84 = .ok (.aload_n 0, 1) := by decide +kernel
theorem dX11_remember_85 : decode cX11_remember 85 = .ok (.dup, 1) := by decide +kernel
theorem dX11_remember_86 : decode cX11_remember 86 = .ok (.getfield 168, 3) := by decide +kernel
theorem dX11_remember_89 : decode cX11_remember 89 = .ok (.iconst 1, 1) := by decide +kernel
theorem dX11_remember_90 : decode cX11_remember 90 = .ok (.iadd, 1) := by decide +kernel
theorem dX11_remember_91 : decode cX11_remember 91 = .ok (.putfield 168, 3) := by decide +kernel
theorem dX11_remember_94 : decode cX11_remember 94 = .ok (.return_, 1) := by decide +kernel
set_option maxRecDepth 20000 in
theorem ggX11_pass_X11_king : GoodIn wsX11_pass wsX11_king := goodIn_r _ [8, 1, 2, 9, 10, 11, 12, 13, 14, 15, 16, 17, 18, 19, 20, 21, 22, 23, 24, 25, 26, 27, 28, 29, 30, 31, 32, 33, 34, 35, 36, 37, 38, 39, 40, 41, 42, 43, 44, 45, 46, 47, 48] (by decide +kernel) (by decide +kernel)
set_option maxRecDepth 20000 in
theorem gX11_pass_X11_king : GoodIn wsX11_pass (wsV RX11 184 RX11 yX11_king wsX11_king) := goodIn_app (goodIn_of _ (by decide +kernel)) ggX11_pass_X11_king
theorem dX11_pass_0 : decode cX11_pass 0 = .ok (.iconst 0, 1) := by decide +kernel
theorem dX11_pass_1 : decode cX11_pass 1 = .ok (.istore_n 1, 1) := by decide +kernel
theorem dX11_pass_2 : decode cX11_pass 2 = .ok (.iload_n 1, 1) := by decide +kernel
theorem dX11_pass_3 : decode cX11_pass 3 = .ok (.aload_n 0, 1) := by decide +kernel
theorem dX11_pass_4 : decode cX11_pass 4 = .ok (.getfield 93, 3) := by decide +kernel
theorem dX11_pass_7 : decode cX11_pass 7 = .ok (.if_icmp .ge 59, 3) := by decide +kernel
theorem dX11_pass_10 : decode cX11_pass 10 = .ok (.aload_n 0, 1) := by decide +kernel
theorem dX11_pass_11 : decode cX11_pass 11 = .ok (.getfield 25, 3) := by decide +kernel
theorem dX11_pass_14 : decode cX11_pass 14 = .ok (.iload_n 1, 1) := by decide +kernel
theorem dX11_pass_15 : decode cX11_pass 15 = .ok (.iaload, 1) := by decide +kernel
theorem dX11_pass_16 : decode cX11_pass 16 = .ok (.iconst 1, 1) := by decide +kernel
theorem dX11_pass_17 : decode cX11_pass 17 = .ok (.if_icmp .ne 43, 3) := by decide +kernel
theorem dX11_pass_20 : decode cX11_pass 20 = .ok (.aload_n 0, 1) := by decide +kernel
theorem dX11_pass_21 : decode cX11_pass 21 = .ok (.getfield 25, 3) := by decide +kernel
theorem dX11_pass_24 : decode cX11_pass 24 = .ok (.bipush 7, 2) := by decide +kernel
theorem dX11_pass_26 : decode cX11_pass 26 = .ok (.iload_n 1, 1) := by decide +kernel
theorem dX11_pass_27 : decode cX11_pass 27 = .ok (.iadd, 1) := by decide +kernel
theorem dX11_pass_28 : decode cX11_pass 28 = .ok (.dup2, 1) := by decide +kernel
theorem dX11_pass_29 : decode cX11_pass 29 = .ok (.iaload, 1) := by decide +kernel
theorem dX11_pass_30 : decode cX11_pass 30 = .ok (.iconst 1, 1) := by decide +kernel
theorem dX11_pass_31 : decode cX11_pass 31 = .ok (.iadd, 1) := by decide +kernel
theorem dX11_pass_32 : decode cX11_pass 32 = .ok (.iastore, 1) := by decide +kernel
theorem dX11_pass_33 : decode cX11_pass 33 = .ok (.aload_n 0, 1) := by decide +kernel
theorem dX11_pass_34 : decode cX11_pass 34 = .ok (.getfield 25, 3) := by decide +kernel
theorem dX11_pass_37 : decode cX11_pass 37 = .ok (.iload_n 1, 1) := by decide +kernel
theorem dX11_pass_38 : decode cX11_pass 38 = .ok (.aload_n 0, 1) := by decide +kernel
theorem dX11_pass_39 : decode cX11_pass 39 = .ok (.getfield 25, 3) := by decide +kernel
theorem dX11_pass_42 : decode cX11_pass 42 = .ok (.bipush 7, 2) := by decide +kernel
theorem dX11_pass_44 : decode cX11_pass 44 = .ok (.iload_n 1, 1) := by decide +kernel
theorem dX11_pass_45 : decode cX11_pass 45 = .ok (.iadd, 1) := by decide +kernel
theorem dX11_pass_46 : decode cX11_pass 46 = .ok (.iaload, 1) := by decide +kernel
theorem dX11_pass_47 : decode cX11_pass 47 = .ok (.aload_n 0, 1) := by decide +kernel
theorem dX11_pass_48 : decode cX11_pass 48 = .ok (.getfield 153, 3) := by decide +kernel
theorem dX11_pass_51 : decode cX11_pass 51 = .ok (.if_icmp .le 7, 3) := by decide +kernel
theorem dX11_pass_54 : decode cX11_pass 54 = .ok (.iconst 5, 1) := by decide +kernel
theorem dX11_pass_55 : decode cX11_pass 55 = .ok (.goto 4, 3) := by decide +kernel
theorem dX11_pass_58 : decode cX11_pass 58 = .ok (.iconst 1, 1) := by decide +kernel
theorem dX11_pass_59 : decode cX11_pass 59 = .ok (.iastore, 1) := by decide +kernel
theorem dX11_pass_60 : decode cX11_pass 60 = .ok (.iinc 1 1, 3) := by decide +kernel
theorem dX11_pass_63 : decode cX11_pass 63 = .ok (.goto (-61), 3) := by decide +kernel
theorem dX11_pass_66 : decode cX11_pass 66 = .ok (.aload_n 0, 1) := by decide +kernel
theorem dX11_pass_67 : decode cX11_pass 67 = .ok (.invokevirtual 184, 3) := by decide +kernel
theorem dX11_pass_70 : decode cX11_pass 70 = .ok (.istore_n 1, 1) := by decide +kernel
theorem dX11_pass_71 : decode cX11_pass 71 = .ok (.iload_n 1, 1) := by decide +kernel
theorem dX11_pass_72 : decode cX11_pass 72 = .ok (.ifCond .lt 96, 3) := by decide +kernel
theorem dX11_pass_75 : decode cX11_pass 75 = .ok (.aload_n 0, 1) := by decide +kernel
theorem dX11_pass_76 : decode cX11_pass 76 = .ok (.getfield 25, 3) := by decide +kernel
theorem dX11_pass_79 : decode cX11_pass 79 = .ok (.bipush 14, 2) := by decide +kernel
theorem dX11_pass_81 : decode cX11_pass 81 = .ok (.iaload, 1) := by decide +kernel
theorem dX11_pass_82 : decode cX11_pass 82 = .ok (.iconst 1, 1) := by decide +kernel
theorem dX11_pass_83 : decode cX11_pass 83 = .ok (.if_icmp .le 85, 3) := by decide +kernel
theorem dX11_pass_86 : decode cX11_pass 86 = .ok (.aload_n 0, 1) := by decide +kernel
theorem dX11_pass_87 : decode cX11_pass 87 = .ok (.getfield 25, 3) := by decide +kernel
theorem dX11_pass_90 : decode cX11_pass 90 = .ok (.bipush 14, 2) := by decide +kernel
theorem dX11_pass_92 : decode cX11_pass 92 = .ok (.dup2, 1) := by decide +kernel
theorem dX11_pass_93 : decode cX11_pass 93 = .ok (.iaload, 1) := by decide +kernel
theorem dX11_pass_94 : decode cX11_pass 94 = .ok (.iconst 2, 1) := by decide +kernel
theorem dX11_pass_95 : decode cX11_pass 95 = .ok (.isub, 1) := by decide +kernel
theorem dX11_pass_96 : decode cX11_pass 96 = .ok (.iastore, 1) := by decide +kernel
theorem dX11_pass_97 : decode cX11_pass 97 = .ok (.aload_n 0, 1) := by decide +kernel
theorem dX11_pass_98 : decode cX11_pass 98 = .ok (.getfield 25, 3) := by decide +kernel
theorem dX11_pass_101 : decode cX11_pass 101 = .ok (.bipush 15, 2) := by decide +kernel
theorem dX11_pass_103 : decode cX11_pass 103 = .ok (.dup2, 1) := by decide +kernel
theorem dX11_pass_104 : decode cX11_pass 104 = .ok (.iaload, 1) := by decide +kernel
theorem dX11_pass_105 : decode cX11_pass 105 = .ok (.iconst 1, 1) := by decide +kernel
theorem dX11_pass_106 : decode cX11_pass 106 = .ok (.isub, 1) := by decide +kernel
theorem dX11_pass_107 : decode cX11_pass 107 = .ok (.iastore, 1) := by decide +kernel
theorem dX11_pass_108 : decode cX11_pass 108 = .ok (.aload_n 0, 1) := by decide +kernel
theorem dX11_pass_109 : decode cX11_pass 109 = .ok (.getfield 25, 3) := by decide +kernel
theorem dX11_pass_112 : decode cX11_pass 112 = .ok (.bipush 17, 2) := by decide +kernel
theorem dX11_pass_114 : decode cX11_pass 114 = .ok (.dup2, 1) := by decide +kernel
theorem dX11_pass_115 : decode cX11_pass 115 = .ok (.iaload, 1) := by decide +kernel
theorem dX11_pass_116 : decode cX11_pass 116 = .ok (.iconst 1, 1) := by decide +kernel
theorem dX11_pass_117 : decode cX11_pass 117 = .ok (.iadd, 1) := by decide +kernel
theorem dX11_pass_118 : decode cX11_pass 118 = .ok (.iastore, 1) := by decide +kernel
theorem dX11_pass_119 : decode cX11_pass 119 = .ok (.aload_n 0, 1) := by decide +kernel
theorem dX11_pass_120 : decode cX11_pass 120 = .ok (.getfield 25, 3) := by decide +kernel
theorem dX11_pass_123 : decode cX11_pass 123 = .ok (.bipush 18, 2) := by decide +kernel
theorem dX11_pass_125 : decode cX11_pass 125 = .ok (.dup2, 1) := by decide +kernel
theorem dX11_pass_126 : decode cX11_pass 126 = .ok (.iaload, 1) := by decide +kernel
theorem dX11_pass_127 : decode cX11_pass 127 = .ok (.aload_n 0, 1) := by decide +kernel
theorem dX11_pass_128 : decode cX11_pass 128 = .ok (.getfield 25, 3) := by decide +kernel
theorem dX11_pass_131 : decode cX11_pass 131 = .ok (.bipush 15, 2) := by decide +kernel
theorem dX11_pass_133 : decode cX11_pass 133 = .ok (.iaload, 1) := by decide +kernel
theorem dX11_pass_134 : decode cX11_pass 134 = .ok (.ifCond .ne 7, 3) := by decide +kernel
theorem dX11_pass_137 : decode cX11_pass 137 = .ok (.iconst 1, 1) := by decide +kernel
theorem dX11_pass_138 : decode cX11_pass 138 = .ok (.goto 4, 3) := by decide +kernel
theorem dX11_pass_141 : decode cX11_pass 141 = .ok (.iconst 0, 1) := by decide +kernel
theorem dX11_pass_142 : decode cX11_pass 142 = .ok (.iadd, 1) := by decide +kernel
theorem dX11_pass_143 : decode cX11_pass 143 = .ok (.iastore, 1) := by decide +kernel
theorem dX11_pass_144 : decode cX11_pass 144 = .ok (.aload_n 0, 1) := by decide +kernel
theorem dX11_pass_145 : decode cX11_pass 145 = .ok (.getfield 25, 3) := by decide +kernel
theorem dX11_pass_148 : decode cX11_pass 148 = .ok (.iload_n 1, 1) := by decide +kernel
theorem dX11_pass_149 : decode cX11_pass 149 = .ok (.aload_n 0, 1) := by decide +kernel
theorem dX11_pass_150 : decode cX11_pass 150 = .ok (.getfield 25, 3) := by decide +kernel
theorem dX11_pass_153 : decode cX11_pass 153 = .ok (.bipush 15, 2) := by decide +kernel
theorem dX11_pass_155 : decode cX11_pass 155 = .ok (.iaload, 1) := by decide +kernel
theorem dX11_pass_156 : decode cX11_pass 156 = .ok (.ifCond .ne 7, 3) := by decide +kernel
theorem dX11_pass_159 : decode cX11_pass 159 = .ok (.iconst 4, 1) := by decide +kernel
theorem dX11_pass_160 : decode cX11_pass 160 = .ok (.goto 4, 3) := by decide +kernel
theorem dX11_pass_163 : decode cX11_pass 163 = .ok (.iconst 3, 1) := by decide +kernel
theorem dX11_pass_164 : decode cX11_pass 164 = .ok (.iastore, 1) := by decide +kernel
theorem dX11_pass_165 : decode cX11_pass 165 = .ok (.goto 22, 3) := by decide +kernel
theorem dX11_pass_168 : decode cX11_pass 168 = .ok (.iload_n 1, 1) := by decide +kernel
theorem dX11_pass_169 : decode cX11_pass 169 = .ok (.ifCond .lt 18, 3) := by decide +kernel
theorem dX11_pass_172 : decode cX11_pass 172 = .ok (.aload_n 0, 1) := by decide +kernel
theorem dX11_pass_173 : decode cX11_pass 173 = .ok (.getfield 25, 3) := by decide +kernel
theorem dX11_pass_176 : decode cX11_pass 176 = .ok (.iload_n 1, 1) := by decide +kernel
theorem dX11_pass_177 : decode cX11_pass 177 = .ok (.iconst 0, 1) := by decide +kernel
theorem dX11_pass_178 : decode cX11_pass 178 = .ok (.iastore, 1) := by decide +kernel
theorem dX11_pass_179 : decode cX11_pass 179 = .ok (.aload_n 0, 1) := by decide +kernel
theorem dX11_pass_180 : decode cX11_pass 180 = .ok (.getfield 25, 3) := by decide +kernel
theorem dX11_pass_183 : decode cX11_pass 183 = .ok (.bipush 15, 2) := by decide +kernel
theorem dX11_pass_185 : decode cX11_pass 185 = .ok (.iconst 0, 1) := by decide +kernel
theorem dX11_pass_186 : decode cX11_pass 186 = .ok (.iastore, 1) := by decide +kernel
theorem dX11_pass_187 : decode cX11_pass 187 = .ok (.aload_n 0, 1) := by decide +kernel
theorem dX11_pass_188 : decode cX11_pass 188 = .ok (.getfield 25, 3) := by decide +kernel
theorem dX11_pass_191 : decode cX11_pass 191 = .ok (.bipush 16, 2) := by decide +kernel
theorem dX11_pass_193 : decode cX11_pass 193 = .ok (.dup2, 1) := by decide +kernel
theorem dX11_pass_194 : decode cX11_pass 194 = .ok (.iaload, 1) := by decide +kernel
theorem dX11_pass_195 : decode cX11_pass 195 = .ok (.iconst 1, 1) := by decide +kernel
theorem dX11_pass_196 : decode cX11_pass 196 = .ok (.iadd, 1) := by decide +kernel
theorem dX11_pass_197 : decode cX11_pass 197 = .ok (.iastore, 1) := by decide +kernel
theorem dX11_pass_198 : decode cX11_pass 198 = .ok (.return_, 1) := by decide +kernel
set_option maxRecDepth 20000 in
theorem ggX11_minutesRefused_X11_in : GoodIn wsX11_minutesRefused wsX11_in := goodIn_r _ [10] (by decide +kernel) (by decide +kernel)
set_option maxRecDepth 20000 in
theorem gX11_minutesRefused_X11_in : GoodIn wsX11_minutesRefused (va_wsS RX11 96 yX11_in wsX11_in) := goodIn_app (goodIn_of _ (by decide +kernel)) ggX11_minutesRefused_X11_in
theorem dX11_minutesRefused_0 : decode cX11_minutesRefused 0 = .ok (.iload_n 1, 1) := by decide +kernel
theorem dX11_minutesRefused_1 : decode cX11_minutesRefused 1 = .ok (.i2l, 1) := by decide +kernel
theorem dX11_minutesRefused_2 : decode cX11_minutesRefused 2 = .ok (.lconst 1, 1) := by decide +kernel
theorem dX11_minutesRefused_3 : decode cX11_minutesRefused 3 = .ok (.ldc2_w 204, 3) := by decide +kernel
theorem dX11_minutesRefused_6 : decode cX11_minutesRefused 6 = .ok (.invokestatic 96, 3) := by decide +kernel
theorem dX11_minutesRefused_9 : decode cX11_minutesRefused 9 = .ok (.ifCond .ne 6, 3) := by decide +kernel
theorem dX11_minutesRefused_12 : decode cX11_minutesRefused 12 = .ok (.ldc 105, 2) := by decide +kernel
theorem dX11_minutesRefused_14 : decode cX11_minutesRefused 14 = .ok (.ireturn, 1) := by decide +kernel
theorem dX11_minutesRefused_15 : decode cX11_minutesRefused 15 = .ok (.aload_n 0, 1) := by decide +kernel
theorem dX11_minutesRefused_16 : decode cX11_minutesRefused 16 = .ok (.getfield 90, 3) := by decide +kernel
theorem dX11_minutesRefused_19 : decode cX11_minutesRefused 19 = .ok (.ifCond .ne 8, 3) := by decide +kernel
theorem dX11_minutesRefused_22 : decode cX11_minutesRefused 22 = .ok (.ldc 206, 2) := by decide +kernel
theorem dX11_minutesRefused_24 : decode cX11_minutesRefused 24 = .ok (.goto 22, 3) := by decide +kernel
theorem dX11_minutesRefused_27 : decode cX11_minutesRefused 27 = .ok (.aload_n 0, 1) := by decide +kernel
theorem dX11_minutesRefused_28 : decode cX11_minutesRefused 28 = .ok (.getfield 25, 3) := by decide +kernel
theorem dX11_minutesRefused_31 : decode cX11_minutesRefused 31 = .ok (.bipush 16, 2) := by decide +kernel
theorem dX11_minutesRefused_33 : decode cX11_minutesRefused 33 = .ok (.iaload, 1) := by decide +kernel
theorem dX11_minutesRefused_34 : decode cX11_minutesRefused 34 = .ok (.sipush 9000, 3) := by decide +kernel
theorem dX11_minutesRefused_37 : decode cX11_minutesRefused 37 = .ok (.if_icmp .le 8, 3) := by decide +kernel
theorem dX11_minutesRefused_40 : decode cX11_minutesRefused 40 = .ok (.ldc 109, 2) := by decide +kernel
theorem dX11_minutesRefused_42 : decode cX11_minutesRefused 42 = .ok (.goto 4, 3) := by decide +kernel
theorem dX11_minutesRefused_45 : decode cX11_minutesRefused 45 = .ok (.iconst 0, 1) := by decide +kernel
theorem dX11_minutesRefused_46 : decode cX11_minutesRefused 46 = .ok (.ireturn, 1) := by decide +kernel
set_option maxRecDepth 20000 in
theorem ggX11_minute_X11_minutesRefused : GoodIn wsX11_minute wsX11_minutesRefused := goodIn_r _ [6, 7, 8, 9, 10, 1, 11, 12, 13, 5, 14, 31, 32, 33, 34, 35, 36, 37, 38, 39, 40, 41, 42, 43, 44, 45, 46, 47, 48, 49, 50, 51, 52, 53, 54, 55, 56, 57, 58, 59, 60, 61, 62, 63, 64, 65, 66, 67, 68, 69, 70] (by decide +kernel) (by decide +kernel)
set_option maxRecDepth 20000 in
theorem gX11_minute_X11_minutesRefused : GoodIn wsX11_minute (wsV RX11 207 RX11 yX11_minutesRefused wsX11_minutesRefused) := goodIn_app (goodIn_of _ (by decide +kernel)) ggX11_minute_X11_minutesRefused
set_option maxRecDepth 20000 in
theorem ggX11_minute_X11_remember : GoodIn wsX11_minute wsX11_remember := goodIn_r _ [18, 19, 20, 1, 31, 32, 33, 34, 35, 36, 37, 38, 39, 40, 41, 42, 43, 44, 45, 46, 47, 48, 49, 50, 51, 52, 53, 54, 55, 56, 57, 58, 59, 60, 61, 62, 63, 64, 65, 66, 67, 68, 69, 70] (by decide +kernel) (by decide +kernel)
set_option maxRecDepth 20000 in
theorem gX11_minute_X11_remember : GoodIn wsX11_minute (wsV RX11 210 RX11 yX11_remember wsX11_remember) := goodIn_app (goodIn_of _ (by decide +kernel)) ggX11_minute_X11_remember
set_option maxRecDepth 20000 in
theorem ggX11_minute_X11_pass : GoodIn wsX11_minute wsX11_pass := goodIn_r _ [24, 25, 1, 26, 27, 28, 29, 5, 30, 31, 32, 33, 34, 35, 36, 37, 38, 39, 40, 41, 42, 43, 44, 45, 46, 47, 48, 49, 50, 51, 52, 53, 54, 55, 56, 57, 58, 59, 60, 61, 62, 63, 64, 65, 66, 67, 68, 69, 70] (by decide +kernel) (by decide +kernel)
set_option maxRecDepth 20000 in
theorem gX11_minute_X11_pass : GoodIn wsX11_minute (wsV RX11 213 RX11 yX11_pass wsX11_pass) := goodIn_app (goodIn_of _ (by decide +kernel)) ggX11_minute_X11_pass
theorem dX11_minute_0 : decode cX11_minute 0 = .ok (.aload_n 0, 1) := by decide +kernel
theorem dX11_minute_1 : decode cX11_minute 1 = .ok (.iload_n 1, 1) := by decide +kernel
theorem dX11_minute_2 : decode cX11_minute 2 = .ok (.invokevirtual 207, 3) := by decide +kernel
theorem dX11_minute_5 : decode cX11_minute 5 = .ok (.istore_n 2, 1) := by decide +kernel
theorem dX11_minute_6 : decode cX11_minute 6 = .ok (.iload_n 2, 1) := by decide +kernel
theorem dX11_minute_7 : decode cX11_minute 7 = .ok (.ifCond .eq 5, 3) := by decide +kernel
theorem dX11_minute_10 : decode cX11_minute 10 = .ok (.iload_n 2, 1) := by decide +kernel
theorem dX11_minute_11 : decode cX11_minute 11 = .ok (.ireturn, 1) := by decide +kernel
theorem dX11_minute_12 : decode cX11_minute 12 = .ok (.aload_n 0, 1) := by decide +kernel
theorem dX11_minute_13 : decode cX11_minute 13 = .ok (.invokevirtual 210, 3) := by decide +kernel
theorem dX11_minute_16 : decode cX11_minute 16 = .ok (.iconst 0, 1) := by decide +kernel
theorem dX11_minute_17 : decode cX11_minute 17 = .ok (.istore_n 3, 1) := by decide +kernel
theorem dX11_minute_18 : decode cX11_minute 18 = .ok (.iload_n 3, 1) := by decide +kernel
theorem dX11_minute_19 : decode cX11_minute 19 = .ok (.iload_n 1, 1) := by decide +kernel
theorem dX11_minute_20 : decode cX11_minute 20 = .ok (.if_icmp .ge 13, 3) := by decide +kernel
theorem dX11_minute_23 : decode cX11_minute 23 = .ok (.aload_n 0, 1) := by decide +kernel
theorem dX11_minute_24 : decode cX11_minute 24 = .ok (.invokevirtual 213, 3) := by decide +kernel
theorem dX11_minute_27 : decode cX11_minute 27 = .ok (.iinc 3 1, 3) := by decide +kernel
theorem dX11_minute_30 : decode cX11_minute 30 = .ok (.goto (-12), 3) := by decide +kernel
theorem dX11_minute_33 : decode cX11_minute 33 = .ok (.aload_n 0, 1) := by decide +kernel
theorem dX11_minute_34 : decode cX11_minute 34 = .ok (.getfield 25, 3) := by decide +kernel
theorem dX11_minute_37 : decode cX11_minute 37 = .ok (.bipush 16, 2) := by decide +kernel
theorem dX11_minute_39 : decode cX11_minute 39 = .ok (.iaload, 1) := by decide +kernel
theorem dX11_minute_40 : decode cX11_minute 40 = .ok (.ireturn, 1) := by decide +kernel
set_option maxRecDepth 20000 in
theorem ggX11_canPut_X11_inPan : GoodIn wsX11_canPut wsX11_inPan := goodIn_r _ [7, 8, 1, 9, 10, 11, 12, 13, 14, 15, 16, 17, 18, 19, 20, 21, 22, 23, 24, 25, 26, 27, 28, 29, 30, 31, 32, 33, 34, 35, 36, 37, 38, 39, 40, 41, 42, 43, 44, 45, 46, 47, 48] (by decide +kernel) (by decide +kernel)
set_option maxRecDepth 20000 in
theorem gX11_canPut_X11_inPan : GoodIn wsX11_canPut (wsV RX11 216 RX11 yX11_inPan wsX11_inPan) := goodIn_app (goodIn_of _ (by decide +kernel)) ggX11_canPut_X11_inPan
theorem dX11_canPut_0 : decode cX11_canPut 0 = .ok (.aload_n 0, 1) := by decide +kernel
theorem dX11_canPut_1 : decode cX11_canPut 1 = .ok (.getfield 25, 3) := by decide +kernel
theorem dX11_canPut_4 : decode cX11_canPut 4 = .ok (.iload_n 1, 1) := by decide +kernel
theorem dX11_canPut_5 : decode cX11_canPut 5 = .ok (.iaload, 1) := by decide +kernel
theorem dX11_canPut_6 : decode cX11_canPut 6 = .ok (.ifCond .eq 13, 3) := by decide +kernel
theorem dX11_canPut_9 : decode cX11_canPut 9 = .ok (.aload_n 0, 1) := by decide +kernel
theorem dX11_canPut_10 : decode cX11_canPut 10 = .ok (.getfield 25, 3) := by decide +kernel
theorem dX11_canPut_13 : decode cX11_canPut 13 = .ok (.iload_n 1, 1) := by decide +kernel
theorem dX11_canPut_14 : decode cX11_canPut 14 = .ok (.iaload, 1) := by decide +kernel
theorem dX11_canPut_15 : decode cX11_canPut 15 = .ok (.iconst 2, 1) := by decide +kernel
theorem dX11_canPut_16 : decode cX11_canPut 16 = .ok (.if_icmp .ne 18, 3) := by decide +kernel
theorem dX11_canPut_19 : decode cX11_canPut 19 = .ok (.aload_n 0, 1) := by decide +kernel
theorem dX11_canPut_20 : decode cX11_canPut 20 = .ok (.invokevirtual 216, 3) := by decide +kernel
theorem dX11_canPut_23 : decode cX11_canPut 23 = .ok (.aload_n 0, 1) := by decide +kernel
theorem dX11_canPut_24 : decode cX11_canPut 24 = .ok (.getfield 90, 3) := by decide +kernel
theorem dX11_canPut_27 : decode cX11_canPut 27 = .ok (.if_icmp .ge 7, 3) := by decide +kernel
theorem dX11_canPut_30 : decode cX11_canPut 30 = .ok (.iconst 1, 1) := by decide +kernel
theorem dX11_canPut_31 : decode cX11_canPut 31 = .ok (.goto 4, 3) := by decide +kernel
theorem dX11_canPut_34 : decode cX11_canPut 34 = .ok (.iconst 0, 1) := by decide +kernel
theorem dX11_canPut_35 : decode cX11_canPut 35 = .ok (.ireturn, 1) := by decide +kernel
set_option maxRecDepth 20000 in
theorem ggX11_canCrown_X11_king : GoodIn wsX11_canCrown wsX11_king := goodIn_r _ [6, 7, 1, 8, 9, 10, 11, 12, 13, 14, 15, 16, 17, 18, 19, 20, 21, 22, 23, 24, 25, 26, 27, 28, 29, 30, 31, 32, 33, 34, 35, 36, 37, 38, 39, 40, 41, 42, 43, 44, 45, 46, 47] (by decide +kernel) (by decide +kernel)
set_option maxRecDepth 20000 in
theorem gX11_canCrown_X11_king : GoodIn wsX11_canCrown (wsV RX11 184 RX11 yX11_king wsX11_king) := goodIn_app (goodIn_of _ (by decide +kernel)) ggX11_canCrown_X11_king
theorem dX11_canCrown_0 : decode cX11_canCrown 0 = .ok (.aload_n 0, 1) := by decide +kernel
theorem dX11_canCrown_1 : decode cX11_canCrown 1 = .ok (.getfield 25, 3) := by decide +kernel
theorem dX11_canCrown_4 : decode cX11_canCrown 4 = .ok (.iload_n 1, 1) := by decide +kernel
theorem dX11_canCrown_5 : decode cX11_canCrown 5 = .ok (.iaload, 1) := by decide +kernel
theorem dX11_canCrown_6 : decode cX11_canCrown 6 = .ok (.iconst 2, 1) := by decide +kernel
theorem dX11_canCrown_7 : decode cX11_canCrown 7 = .ok (.if_icmp .ne 14, 3) := by decide +kernel
theorem dX11_canCrown_10 : decode cX11_canCrown 10 = .ok (.aload_n 0, 1) := by decide +kernel
theorem dX11_canCrown_11 : decode cX11_canCrown 11 = .ok (.invokevirtual 184, 3) := by decide +kernel
theorem dX11_canCrown_14 : decode cX11_canCrown 14 = .ok (.ifCond .ge 7, 3) := by decide +kernel
theorem dX11_canCrown_17 : decode cX11_canCrown 17 = .ok (.iconst 1, 1) := by decide +kernel
theorem dX11_canCrown_18 : decode cX11_canCrown 18 = .ok (.goto 4, 3) := by decide +kernel
theorem dX11_canCrown_21 : decode cX11_canCrown 21 = .ok (.iconst 0, 1) := by decide +kernel
theorem dX11_canCrown_22 : decode cX11_canCrown 22 = .ok (.ireturn, 1) := by decide +kernel
set_option maxRecDepth 20000 in
theorem ggX11_crownNow_X11_reign : GoodIn wsX11_crownNow wsX11_reign := goodIn_r _ [6, 1, 7, 8, 9, 5, 10, 11, 12, 13, 14, 15, 16, 17, 18, 19, 20, 21, 22, 23, 24, 25, 26, 27, 28, 29, 30, 31, 32, 33, 34, 35, 36, 37, 38, 39, 40, 41, 42, 43, 44, 45, 46, 47, 48, 49, 50, 51, 52, 53, 54, 55, 56] (by decide +kernel) (by decide +kernel)
set_option maxRecDepth 20000 in
theorem gX11_crownNow_X11_reign : GoodIn wsX11_crownNow (wsV RX11 181 RX11 yX11_reign wsX11_reign) := goodIn_app (goodIn_of _ (by decide +kernel)) ggX11_crownNow_X11_reign
theorem dX11_crownNow_0 : decode cX11_crownNow 0 = .ok (.aload_n 0, 1) := by decide +kernel
theorem dX11_crownNow_1 : decode cX11_crownNow 1 = .ok (.getfield 25, 3) := by decide +kernel
theorem dX11_crownNow_4 : decode cX11_crownNow 4 = .ok (.iload_n 1, 1) := by decide +kernel
theorem dX11_crownNow_5 : decode cX11_crownNow 5 = .ok (.iconst 3, 1) := by decide +kernel
theorem dX11_crownNow_6 : decode cX11_crownNow 6 = .ok (.iastore, 1) := by decide +kernel
theorem dX11_crownNow_7 : decode cX11_crownNow 7 = .ok (.aload_n 0, 1) := by decide +kernel
theorem dX11_crownNow_8 : decode cX11_crownNow 8 = .ok (.getfield 25, 3) := by decide +kernel
theorem dX11_crownNow_11 : decode cX11_crownNow 11 = .ok (.bipush 15, 2) := by decide +kernel
theorem dX11_crownNow_13 : decode cX11_crownNow 13 = .ok (.aload_n 0, 1) := by decide +kernel
theorem dX11_crownNow_14 : decode cX11_crownNow 14 = .ok (.iload_n 1, 1) := by decide +kernel
theorem dX11_crownNow_15 : decode cX11_crownNow 15 = .ok (.invokevirtual 181, 3) := by decide +kernel
theorem dX11_crownNow_18 : decode cX11_crownNow 18 = .ok (.iastore, 1) := by decide +kernel
theorem dX11_crownNow_19 : decode cX11_crownNow 19 = .ok (.return_, 1) := by decide +kernel
set_option maxRecDepth 20000 in
theorem ggX11_put_X11_isEgg : GoodIn wsX11_put wsX11_isEgg := goodIn_r _ [8, 9, 10, 11, 7, 12, 28, 29, 30, 31, 32, 33, 34, 35, 36, 37, 38, 39, 40, 41, 42, 43, 44, 45, 46, 47, 48, 49, 50, 51, 52, 53, 54, 55, 56, 57, 58, 59, 60, 61, 62, 63, 64, 65, 66, 67] (by decide +kernel) (by decide +kernel)
set_option maxRecDepth 20000 in
theorem gX11_put_X11_isEgg : GoodIn wsX11_put (wsV RX11 196 RX11 yX11_isEgg wsX11_isEgg) := goodIn_app (goodIn_of _ (by decide +kernel)) ggX11_put_X11_isEgg
set_option maxRecDepth 20000 in
theorem ggX11_put_X11_canPut : GoodIn wsX11_put wsX11_canPut := goodIn_r _ [16, 3, 17, 18, 19, 20, 7, 21, 9, 28, 29, 30, 31, 32, 33, 34, 35, 36, 37, 38, 39, 40, 41, 42, 43, 44, 45, 46, 47, 48, 49, 50, 51, 52, 53, 54, 55, 56, 57, 58, 59, 60, 61, 62, 63, 64, 65, 66, 67] (by decide +kernel) (by decide +kernel)
set_option maxRecDepth 20000 in
theorem gX11_put_X11_canPut : GoodIn wsX11_put (wsV RX11 219 RX11 yX11_canPut wsX11_canPut) := goodIn_app (goodIn_of _ (by decide +kernel)) ggX11_put_X11_canPut
set_option maxRecDepth 20000 in
theorem ggX11_put_X11_remember : GoodIn wsX11_put wsX11_remember := goodIn_r _ [25, 26, 27, 3, 28, 29, 30, 31, 32, 33, 34, 35, 36, 37, 38, 39, 40, 41, 42, 43, 44, 45, 46, 47, 48, 49, 50, 51, 52, 53, 54, 55, 56, 57, 58, 59, 60, 61, 62, 63, 64, 65, 66, 67] (by decide +kernel) (by decide +kernel)
set_option maxRecDepth 20000 in
theorem gX11_put_X11_remember : GoodIn wsX11_put (wsV RX11 210 RX11 yX11_remember wsX11_remember) := goodIn_app (goodIn_of _ (by decide +kernel)) ggX11_put_X11_remember
set_option maxRecDepth 20000 in
theorem ggX11_put_X11_inPan : GoodIn wsX11_put wsX11_inPan := goodIn_r _ [21, 9, 3, 28, 29, 30, 31, 32, 33, 34, 35, 36, 37, 38, 39, 40, 41, 42, 43, 44, 45, 46, 47, 48, 49, 50, 51, 52, 53, 54, 55, 56, 57, 58, 59, 60, 61, 62, 63, 64, 65, 66, 67] (by decide +kernel) (by decide +kernel)
set_option maxRecDepth 20000 in
theorem gX11_put_X11_inPan : GoodIn wsX11_put (wsV RX11 216 RX11 yX11_inPan wsX11_inPan) := goodIn_app (goodIn_of _ (by decide +kernel)) ggX11_put_X11_inPan
theorem dX11_put_0 : decode cX11_put 0 = .ok (.aload_n 0, 1) := by decide +kernel
theorem dX11_put_1 : decode cX11_put 1 = .ok (.iload_n 1, 1) := by decide +kernel
theorem dX11_put_2 : decode cX11_put 2 = .ok (.invokevirtual 196, 3) := by decide +kernel
theorem dX11_put_5 : decode cX11_put 5 = .ok (.ifCond .ne 6, 3) := by decide +kernel
theorem dX11_put_8 : decode cX11_put 8 = .ok (.ldc 200, 2) := by decide +kernel
theorem dX11_put_10 : decode cX11_put 10 = .ok (.ireturn, 1) := by decide +kernel
theorem dX11_put_11 : decode cX11_put 11 = .ok (.aload_n 0, 1) := by decide +kernel
theorem dX11_put_12 : decode cX11_put 12 = .ok (.iload_n 1, 1) := by decide +kernel
theorem dX11_put_13 : decode cX11_put 13 = .ok (.invokevirtual 219, 3) := by decide +kernel
theorem dX11_put_16 : decode cX11_put 16 = .ok (.ifCond .ne 6, 3) := by decide +kernel
theorem dX11_put_19 : decode cX11_put 19 = .ok (.ldc 206, 2) := by decide +kernel
theorem dX11_put_21 : decode cX11_put 21 = .ok (.ireturn, 1) := by decide +kernel
theorem dX11_put_22 : decode cX11_put 22 = .ok (.aload_n 0, 1) := by decide +kernel
theorem dX11_put_23 : decode cX11_put 23 = .ok (.invokevirtual 210, 3) := by decide +kernel
theorem dX11_put_26 : decode cX11_put 26 = .ok (.aload_n 0, 1) := by decide +kernel
theorem dX11_put_27 : decode cX11_put 27 = .ok (.getfield 25, 3) := by decide +kernel
theorem dX11_put_30 : decode cX11_put 30 = .ok (.iload_n 1, 1) := by decide +kernel
theorem dX11_put_31 : decode cX11_put 31 = .ok (.iconst 1, 1) := by decide +kernel
theorem dX11_put_32 : decode cX11_put 32 = .ok (.iastore, 1) := by decide +kernel
theorem dX11_put_33 : decode cX11_put 33 = .ok (.aload_n 0, 1) := by decide +kernel
theorem dX11_put_34 : decode cX11_put 34 = .ok (.invokevirtual 216, 3) := by decide +kernel
theorem dX11_put_37 : decode cX11_put 37 = .ok (.ireturn, 1) := by decide +kernel
set_option maxRecDepth 20000 in
theorem ggX11_takeOut_X11_isEgg : GoodIn wsX11_takeOut wsX11_isEgg := goodIn_r _ [8, 9, 10, 11, 7, 12, 29, 30, 31, 32, 33, 34, 35, 36, 37, 38, 39, 40, 41, 42, 43, 44, 45, 46, 47, 48, 49, 50, 51, 52, 53, 54, 55, 56, 57, 58, 59, 60, 61, 62, 63, 64, 65, 66, 67, 68] (by decide +kernel) (by decide +kernel)
set_option maxRecDepth 20000 in
theorem gX11_takeOut_X11_isEgg : GoodIn wsX11_takeOut (wsV RX11 196 RX11 yX11_isEgg wsX11_isEgg) := goodIn_app (goodIn_of _ (by decide +kernel)) ggX11_takeOut_X11_isEgg
set_option maxRecDepth 20000 in
theorem ggX11_takeOut_X11_remember : GoodIn wsX11_takeOut wsX11_remember := goodIn_r _ [16, 17, 18, 2, 29, 30, 31, 32, 33, 34, 35, 36, 37, 38, 39, 40, 41, 42, 43, 44, 45, 46, 47, 48, 49, 50, 51, 52, 53, 54, 55, 56, 57, 58, 59, 60, 61, 62, 63, 64, 65, 66, 67, 68] (by decide +kernel) (by decide +kernel)
set_option maxRecDepth 20000 in
theorem gX11_takeOut_X11_remember : GoodIn wsX11_takeOut (wsV RX11 210 RX11 yX11_remember wsX11_remember) := goodIn_app (goodIn_of _ (by decide +kernel)) ggX11_takeOut_X11_remember
set_option maxRecDepth 20000 in
theorem ggX11_takeOut_X11_hard : GoodIn wsX11_takeOut wsX11_hard := goodIn_r _ [22, 2, 23, 24, 25, 7, 26, 27, 28, 29, 30, 31, 32, 33, 34, 35, 36, 37, 38, 39, 40, 41, 42, 43, 44, 45, 46, 47, 48, 49, 50, 51, 52, 53, 54, 55, 56, 57, 58, 59, 60, 61, 62, 63, 64, 65, 66, 67, 68] (by decide +kernel) (by decide +kernel)
set_option maxRecDepth 20000 in
theorem gX11_takeOut_X11_hard : GoodIn wsX11_takeOut (wsV RX11 177 RX11 yX11_hard wsX11_hard) := goodIn_app (goodIn_of _ (by decide +kernel)) ggX11_takeOut_X11_hard
theorem dX11_takeOut_0 : decode cX11_takeOut 0 = .ok (.aload_n 0, 1) := by decide +kernel
theorem dX11_takeOut_1 : decode cX11_takeOut 1 = .ok (.iload_n 1, 1) := by decide +kernel
theorem dX11_takeOut_2 : decode cX11_takeOut 2 = .ok (.invokevirtual 196, 3) := by decide +kernel
theorem dX11_takeOut_5 : decode cX11_takeOut 5 = .ok (.ifCond .ne 6, 3) := by decide +kernel
theorem dX11_takeOut_8 : decode cX11_takeOut 8 = .ok (.ldc 200, 2) := by decide +kernel
theorem dX11_takeOut_10 : decode cX11_takeOut 10 = .ok (.ireturn, 1) := by decide +kernel
theorem dX11_takeOut_11 : decode cX11_takeOut 11 = .ok (.aload_n 0, 1) := by decide +kernel
theorem dX11_takeOut_12 : decode cX11_takeOut 12 = .ok (.getfield 25, 3) := by decide +kernel
theorem dX11_takeOut_15 : decode cX11_takeOut 15 = .ok (.iload_n 1, 1) := by decide +kernel
theorem dX11_takeOut_16 : decode cX11_takeOut 16 = .ok (.iaload, 1) := by decide +kernel
theorem dX11_takeOut_17 : decode cX11_takeOut 17 = .ok (.iconst 1, 1) := by decide +kernel
theorem dX11_takeOut_18 : decode cX11_takeOut 18 = .ok (.if_icmp .eq 6, 3) := by decide +kernel
theorem dX11_takeOut_21 : decode cX11_takeOut 21 = .ok (.ldc 206, 2) := by decide +kernel
theorem dX11_takeOut_23 : decode cX11_takeOut 23 = .ok (.ireturn, 1) := by decide +kernel
theorem dX11_takeOut_24 : decode cX11_takeOut 24 = .ok (.aload_n 0, 1) := by decide +kernel
theorem dX11_takeOut_25 : decode cX11_takeOut 25 = .ok (.invokevirtual 210, 3) := by decide +kernel
theorem dX11_takeOut_28 : decode cX11_takeOut 28 = .ok (.aload_n 0, 1) := by decide +kernel
theorem dX11_takeOut_29 : decode cX11_takeOut 29 = .ok (.getfield 25, 3) := by decide +kernel
theorem dX11_takeOut_32 : decode cX11_takeOut 32 = .ok (.iload_n 1, 1) := by decide +kernel
theorem dX11_takeOut_33 : decode cX11_takeOut 33 = .ok (.iconst 2, 1) := by decide +kernel
theorem dX11_takeOut_34 : decode cX11_takeOut 34 = .ok (.iastore, 1) := by decide +kernel
theorem dX11_takeOut_35 : decode cX11_takeOut 35 = .ok (.aload_n 0, 1) := by decide +kernel
theorem dX11_takeOut_36 : decode cX11_takeOut 36 = .ok (.iload_n 1, 1) := by decide +kernel
theorem dX11_takeOut_37 : decode cX11_takeOut 37 = .ok (.invokevirtual 177, 3) := by decide +kernel
theorem dX11_takeOut_40 : decode cX11_takeOut 40 = .ok (.ireturn, 1) := by decide +kernel
set_option maxRecDepth 20000 in
theorem ggX11_crown_X11_isEgg : GoodIn wsX11_crown wsX11_isEgg := goodIn_r _ [8, 9, 10, 11, 7, 12, 45, 46, 47, 48, 49, 50, 51, 52, 53, 54, 55, 56, 57, 58, 59, 60, 61, 62, 63, 64, 65, 66, 67, 68, 69, 70, 71, 72, 73, 74, 75, 76, 77, 78, 79, 80, 81, 82, 83, 84] (by decide +kernel) (by decide +kernel)
set_option maxRecDepth 20000 in
theorem gX11_crown_X11_isEgg : GoodIn wsX11_crown (wsV RX11 196 RX11 yX11_isEgg wsX11_isEgg) := goodIn_app (goodIn_of _ (by decide +kernel)) ggX11_crown_X11_isEgg
set_option maxRecDepth 20000 in
theorem ggX11_crown_X11_canCrown : GoodIn wsX11_crown wsX11_canCrown := goodIn_r _ [16, 3, 17, 18, 19, 7, 20, 9, 45, 46, 47, 48, 49, 50, 51, 52, 53, 54, 55, 56, 57, 58, 59, 60, 61, 62, 63, 64, 65, 66, 67, 68, 69, 70, 71, 72, 73, 74, 75, 76, 77, 78, 79, 80, 81, 82, 83, 84] (by decide +kernel) (by decide +kernel)
set_option maxRecDepth 20000 in
theorem gX11_crown_X11_canCrown : GoodIn wsX11_crown (wsV RX11 222 RX11 yX11_canCrown wsX11_canCrown) := goodIn_app (goodIn_of _ (by decide +kernel)) ggX11_crown_X11_canCrown
set_option maxRecDepth 20000 in
theorem ggX11_crown_X11_remember : GoodIn wsX11_crown wsX11_remember := goodIn_r _ [24, 25, 26, 3, 45, 46, 47, 48, 49, 50, 51, 52, 53, 54, 55, 56, 57, 58, 59, 60, 61, 62, 63, 64, 65, 66, 67, 68, 69, 70, 71, 72, 73, 74, 75, 76, 77, 78, 79, 80, 81, 82, 83, 84] (by decide +kernel) (by decide +kernel)
set_option maxRecDepth 20000 in
theorem gX11_crown_X11_remember : GoodIn wsX11_crown (wsV RX11 210 RX11 yX11_remember wsX11_remember) := goodIn_app (goodIn_of _ (by decide +kernel)) ggX11_crown_X11_remember
set_option maxRecDepth 20000 in
theorem ggX11_crown_X11_crownNow : GoodIn wsX11_crown wsX11_crownNow := goodIn_r _ [30, 3, 31, 32, 33, 7, 34, 35, 36, 37, 38, 39, 40, 41, 42, 43, 44, 45, 46, 47, 48, 49, 50, 51, 52, 53, 54, 55, 56, 57, 58, 59, 60, 61, 62, 63, 64, 65, 66, 67, 68, 69, 70, 71, 72, 73, 74, 75, 76, 77, 78, 79, 80, 81, 82, 83, 84] (by decide +kernel) (by decide +kernel)
set_option maxRecDepth 20000 in
theorem gX11_crown_X11_crownNow : GoodIn wsX11_crown (wsV RX11 225 RX11 yX11_crownNow wsX11_crownNow) := goodIn_app (goodIn_of _ (by decide +kernel)) ggX11_crown_X11_crownNow
theorem dX11_crown_0 : decode cX11_crown 0 = .ok (.aload_n 0, 1) := by decide +kernel
theorem dX11_crown_1 : decode cX11_crown 1 = .ok (.iload_n 1, 1) := by decide +kernel
theorem dX11_crown_2 : decode cX11_crown 2 = .ok (.invokevirtual 196, 3) := by decide +kernel
theorem dX11_crown_5 : decode cX11_crown 5 = .ok (.ifCond .ne 6, 3) := by decide +kernel
theorem dX11_crown_8 : decode cX11_crown 8 = .ok (.ldc 200, 2) := by decide +kernel
theorem dX11_crown_10 : decode cX11_crown 10 = .ok (.ireturn, 1) := by decide +kernel
theorem dX11_crown_11 : decode cX11_crown 11 = .ok (.aload_n 0, 1) := by decide +kernel
theorem dX11_crown_12 : decode cX11_crown 12 = .ok (.iload_n 1, 1) := by decide +kernel
theorem dX11_crown_13 : decode cX11_crown 13 = .ok (.invokevirtual 222, 3) := by decide +kernel
theorem dX11_crown_16 : decode cX11_crown 16 = .ok (.ifCond .ne 6, 3) := by decide +kernel
theorem dX11_crown_19 : decode cX11_crown 19 = .ok (.ldc 206, 2) := by decide +kernel
theorem dX11_crown_21 : decode cX11_crown 21 = .ok (.ireturn, 1) := by decide +kernel
theorem dX11_crown_22 : decode cX11_crown 22 = .ok (.aload_n 0, 1) := by decide +kernel
theorem dX11_crown_23 : decode cX11_crown 23 = .ok (.invokevirtual 210, 3) := by decide +kernel
theorem dX11_crown_26 : decode cX11_crown 26 = .ok (.aload_n 0, 1) := by decide +kernel
theorem dX11_crown_27 : decode cX11_crown 27 = .ok (.iload_n 1, 1) := by decide +kernel
theorem dX11_crown_28 : decode cX11_crown 28 = .ok (.invokevirtual 225, 3) := by decide +kernel
theorem dX11_crown_31 : decode cX11_crown 31 = .ok (.aload_n 0, 1) := by decide +kernel
theorem dX11_crown_32 : decode cX11_crown 32 = .ok (.getfield 25, 3) := by decide +kernel
theorem dX11_crown_35 : decode cX11_crown 35 = .ok (.bipush 15, 2) := by decide +kernel
theorem dX11_crown_37 : decode cX11_crown 37 = .ok (.iaload, 1) := by decide +kernel
theorem dX11_crown_38 : decode cX11_crown 38 = .ok (.ireturn, 1) := by decide +kernel
set_option maxRecDepth 20000 in
theorem ggX11_cutToast_X11_in : GoodIn wsX11_cutToast wsX11_in := goodIn_r _ [9] (by decide +kernel) (by decide +kernel)
set_option maxRecDepth 20000 in
theorem gX11_cutToast_X11_in : GoodIn wsX11_cutToast (va_wsS RX11 96 yX11_in wsX11_in) := goodIn_app (goodIn_of _ (by decide +kernel)) ggX11_cutToast_X11_in
set_option maxRecDepth 20000 in
theorem ggX11_cutToast_X11_remember : GoodIn wsX11_cutToast wsX11_remember := goodIn_r _ [13, 14, 15, 5, 16, 17, 18, 19, 20, 21, 22, 23, 24, 25, 26, 27, 28, 29, 30, 31, 32, 33, 34, 35, 36, 37, 38, 39, 40, 41, 42, 43, 44, 45, 46, 47, 48, 49, 50, 51, 52, 53, 54, 55] (by decide +kernel) (by decide +kernel)
set_option maxRecDepth 20000 in
theorem gX11_cutToast_X11_remember : GoodIn wsX11_cutToast (wsV RX11 210 RX11 yX11_remember wsX11_remember) := goodIn_app (goodIn_of _ (by decide +kernel)) ggX11_cutToast_X11_remember
theorem dX11_cutToast_0 : decode cX11_cutToast 0 = .ok (.iload_n 1, 1) := by decide +kernel
theorem dX11_cutToast_1 : decode cX11_cutToast 1 = .ok (.i2l, 1) := by decide +kernel
theorem dX11_cutToast_2 : decode cX11_cutToast 2 = .ok (.lconst 1, 1) := by decide +kernel
theorem dX11_cutToast_3 : decode cX11_cutToast 3 = .ok (.ldc2_w 229, 3) := by decide +kernel
theorem dX11_cutToast_6 : decode cX11_cutToast 6 = .ok (.invokestatic 96, 3) := by decide +kernel
theorem dX11_cutToast_9 : decode cX11_cutToast 9 = .ok (.ifCond .ne 6, 3) := by decide +kernel
theorem dX11_cutToast_12 : decode cX11_cutToast 12 = .ok (.ldc 105, 2) := by decide +kernel
theorem dX11_cutToast_14 : decode cX11_cutToast 14 = .ok (.ireturn, 1) := by decide +kernel
theorem dX11_cutToast_15 : decode cX11_cutToast 15 = .ok (.aload_n 0, 1) := by decide +kernel
theorem dX11_cutToast_16 : decode cX11_cutToast 16 = .ok (.getfield 90, 3) := by decide +kernel
theorem dX11_cutToast_19 : decode cX11_cutToast 19 = .ok (.ifCond .ne 6, 3) := by decide +kernel
theorem dX11_cutToast_22 : decode cX11_cutToast 22 = .ok (.ldc 206, 2) := by decide +kernel
theorem dX11_cutToast_24 : decode cX11_cutToast 24 = .ok (.ireturn, 1) := by decide +kernel
theorem dX11_cutToast_25 : decode cX11_cutToast 25 = .ok (.aload_n 0, 1) := by decide +kernel
theorem dX11_cutToast_26 : decode cX11_cutToast 26 = .ok (.invokevirtual 210, 3) := by decide +kernel
theorem dX11_cutToast_29 : decode cX11_cutToast 29 = .ok (.aload_n 0, 1) := by decide +kernel
theorem dX11_cutToast_30 : decode cX11_cutToast 30 = .ok (.getfield 25, 3) := by decide +kernel
theorem dX11_cutToast_33 : decode cX11_cutToast 33 = .ok (.bipush 14, 2) := by decide +kernel
theorem dX11_cutToast_35 : decode cX11_cutToast 35 = .ok (.aload_n 0, 1) := by decide +kernel
theorem dX11_cutToast_36 : decode cX11_cutToast 36 = .ok (.getfield 25, 3) := by decide +kernel
theorem dX11_cutToast_39 : decode cX11_cutToast 39 = .ok (.bipush 14, 2) := by decide +kernel
theorem dX11_cutToast_41 : decode cX11_cutToast 41 = .ok (.iaload, 1) := by decide +kernel
theorem dX11_cutToast_42 : decode cX11_cutToast 42 = .ok (.iload_n 1, 1) := by decide +kernel
theorem dX11_cutToast_43 : decode cX11_cutToast 43 = .ok (.iadd, 1) := by decide +kernel
theorem dX11_cutToast_44 : decode cX11_cutToast 44 = .ok (.sipush 999, 3) := by decide +kernel
theorem dX11_cutToast_47 : decode cX11_cutToast 47 = .ok (.if_icmp .ge 15, 3) := by decide +kernel
theorem dX11_cutToast_50 : decode cX11_cutToast 50 = .ok (.aload_n 0, 1) := by decide +kernel
theorem dX11_cutToast_51 : decode cX11_cutToast 51 = .ok (.getfield 25, 3) := by decide +kernel
theorem dX11_cutToast_54 : decode cX11_cutToast 54 = .ok (.bipush 14, 2) := by decide +kernel
theorem dX11_cutToast_56 : decode cX11_cutToast 56 = .ok (.iaload, 1) := by decide +kernel
theorem dX11_cutToast_57 : decode cX11_cutToast 57 = .ok (.iload_n 1, 1) := by decide +kernel
theorem dX11_cutToast_58 : decode cX11_cutToast 58 = .ok (.iadd, 1) := by decide +kernel
theorem dX11_cutToast_59 : decode cX11_cutToast 59 = .ok (.goto 6, 3) := by decide +kernel
theorem dX11_cutToast_62 : decode cX11_cutToast 62 = .ok (.sipush 999, 3) := by decide +kernel
theorem dX11_cutToast_65 : decode cX11_cutToast 65 = .ok (.iastore, 1) := by decide +kernel
theorem dX11_cutToast_66 : decode cX11_cutToast 66 = .ok (.aload_n 0, 1) := by decide +kernel
theorem dX11_cutToast_67 : decode cX11_cutToast 67 = .ok (.getfield 25, 3) := by decide +kernel
theorem dX11_cutToast_70 : decode cX11_cutToast 70 = .ok (.bipush 14, 2) := by decide +kernel
theorem dX11_cutToast_72 : decode cX11_cutToast 72 = .ok (.iaload, 1) := by decide +kernel
theorem dX11_cutToast_73 : decode cX11_cutToast 73 = .ok (.ireturn, 1) := by decide +kernel
theorem dX11_draw_0 : decode cX11_draw 0 = .ok (.aload_n 0, 1) := by decide +kernel
theorem dX11_draw_1 : decode cX11_draw 1 = .ok (.aload_n 0, 1) := by decide +kernel
theorem dX11_draw_2 : decode cX11_draw 2 = .ok (.getfield 231, 3) := by decide +kernel
theorem dX11_draw_5 : decode cX11_draw 5 = .ok (.i2l, 1) := by decide +kernel
theorem dX11_draw_6 : decode cX11_draw 6 = .ok (.ldc2_w 234, 3) := by decide +kernel
theorem dX11_draw_9 : decode cX11_draw 9 = .ok (.lmul, 1) := by decide +kernel
theorem dX11_draw_10 : decode cX11_draw 10 = .ok (.ldc2_w 236, 3) := by decide +kernel
theorem dX11_draw_13 : decode cX11_draw 13 = .ok (.ladd, 1) := by decide +kernel
theorem dX11_draw_14 : decode cX11_draw 14 = .ok (.ldc2_w 238, 3) := by decide +kernel
theorem dX11_draw_17 : decode cX11_draw 17 = .ok (.lrem, 1) := by decide +kernel
theorem dX11_draw_18 : decode cX11_draw 18 = .ok (.l2i, 1) := by decide +kernel
theorem dX11_draw_19 : decode cX11_draw 19 = .ok (.putfield 231, 3) := by decide +kernel
theorem dX11_draw_22 : decode cX11_draw 22 = .ok (.aload_n 0, 1) := by decide +kernel
theorem dX11_draw_23 : decode cX11_draw 23 = .ok (.getfield 231, 3) := by decide +kernel
theorem dX11_draw_26 : decode cX11_draw 26 = .ok (.ldc 240, 2) := by decide +kernel
theorem dX11_draw_28 : decode cX11_draw 28 = .ok (.idiv, 1) := by decide +kernel
theorem dX11_draw_29 : decode cX11_draw 29 = .ok (.iload_n 1, 1) := by decide +kernel
theorem dX11_draw_30 : decode cX11_draw 30 = .ok (.irem, 1) := by decide +kernel
theorem dX11_draw_31 : decode cX11_draw 31 = .ok (.ireturn, 1) := by decide +kernel
set_option maxRecDepth 20000 in
theorem ggX11_chance_X11_draw : GoodIn wsX11_chance wsX11_draw := goodIn_r _ [7, 8, 9, 10, 11, 12, 48, 49, 50, 51, 52, 53, 54, 55, 56, 57, 58, 59, 60, 61, 62, 63, 64, 65, 66, 67, 68, 69, 70, 71, 72, 73, 74, 75, 76, 77, 78, 79, 80, 81, 82, 83, 84, 85, 86, 87] (by decide +kernel) (by decide +kernel)
set_option maxRecDepth 20000 in
theorem gX11_chance_X11_draw : GoodIn wsX11_chance (wsV RX11 241 RX11 yX11_draw wsX11_draw) := goodIn_app (goodIn_of _ (by decide +kernel)) ggX11_chance_X11_draw
set_option maxRecDepth 20000 in
theorem ggX11_chance_X11_canPut : GoodIn wsX11_chance wsX11_canPut := goodIn_r _ [16, 2, 17, 18, 19, 20, 6, 21, 1, 48, 49, 50, 51, 52, 53, 54, 55, 56, 57, 58, 59, 60, 61, 62, 63, 64, 65, 66, 67, 68, 69, 70, 71, 72, 73, 74, 75, 76, 77, 78, 79, 80, 81, 82, 83, 84, 85, 86, 87] (by decide +kernel) (by decide +kernel)
set_option maxRecDepth 20000 in
theorem gX11_chance_X11_canPut : GoodIn wsX11_chance (wsV RX11 219 RX11 yX11_canPut wsX11_canPut) := goodIn_app (goodIn_of _ (by decide +kernel)) ggX11_chance_X11_canPut
set_option maxRecDepth 20000 in
theorem ggX11_chance_X11_canCrown : GoodIn wsX11_chance wsX11_canCrown := goodIn_r _ [25, 2, 26, 27, 28, 6, 29, 1, 48, 49, 50, 51, 52, 53, 54, 55, 56, 57, 58, 59, 60, 61, 62, 63, 64, 65, 66, 67, 68, 69, 70, 71, 72, 73, 74, 75, 76, 77, 78, 79, 80, 81, 82, 83, 84, 85, 86, 87] (by decide +kernel) (by decide +kernel)
set_option maxRecDepth 20000 in
theorem gX11_chance_X11_canCrown : GoodIn wsX11_chance (wsV RX11 222 RX11 yX11_canCrown wsX11_canCrown) := goodIn_app (goodIn_of _ (by decide +kernel)) ggX11_chance_X11_canCrown
set_option maxRecDepth 20000 in
theorem ggX11_chance_X11_crownNow : GoodIn wsX11_chance wsX11_crownNow := goodIn_r _ [33, 2, 34, 35, 36, 6, 37, 38, 39, 40, 41, 42, 43, 44, 45, 46, 47, 48, 49, 50, 51, 52, 53, 54, 55, 56, 57, 58, 59, 60, 61, 62, 63, 64, 65, 66, 67, 68, 69, 70, 71, 72, 73, 74, 75, 76, 77, 78, 79, 80, 81, 82, 83, 84, 85, 86, 87] (by decide +kernel) (by decide +kernel)
set_option maxRecDepth 20000 in
theorem gX11_chance_X11_crownNow : GoodIn wsX11_chance (wsV RX11 225 RX11 yX11_crownNow wsX11_crownNow) := goodIn_app (goodIn_of _ (by decide +kernel)) ggX11_chance_X11_crownNow
theorem dX11_chance_0 : decode cX11_chance 0 = .ok (.aload_n 0, 1) := by decide +kernel
theorem dX11_chance_1 : decode cX11_chance 1 = .ok (.aload_n 0, 1) := by decide +kernel
theorem dX11_chance_2 : decode cX11_chance 2 = .ok (.getfield 93, 3) := by decide +kernel
theorem dX11_chance_5 : decode cX11_chance 5 = .ok (.invokevirtual 241, 3) := by decide +kernel
theorem dX11_chance_8 : decode cX11_chance 8 = .ok (.istore_n 1, 1) := by decide +kernel
theorem dX11_chance_9 : decode cX11_chance 9 = .ok (.aload_n 0, 1) := by decide +kernel
theorem dX11_chance_10 : decode cX11_chance 10 = .ok (.iconst 3, 1) := by decide +kernel
theorem dX11_chance_11 : decode cX11_chance 11 = .ok (.invokevirtual 241, 3) := by decide +kernel
theorem dX11_chance_14 : decode cX11_chance 14 = .ok (.istore_n 2, 1) := by decide +kernel
theorem dX11_chance_15 : decode cX11_chance 15 = .ok (.iload_n 2, 1) := by decide +kernel
theorem dX11_chance_16 : decode cX11_chance 16 = .ok (.ifCond .ne 21, 3) := by decide +kernel
theorem dX11_chance_19 : decode cX11_chance 19 = .ok (.aload_n 0, 1) := by decide +kernel
theorem dX11_chance_20 : decode cX11_chance 20 = .ok (.iload_n 1, 1) := by decide +kernel
theorem dX11_chance_21 : decode cX11_chance 21 = .ok (.invokevirtual 219, 3) := by decide +kernel
theorem dX11_chance_24 : decode cX11_chance 24 = .ok (.ifCond .eq 13, 3) := by decide +kernel
theorem dX11_chance_27 : decode cX11_chance 27 = .ok (.aload_n 0, 1) := by decide +kernel
theorem dX11_chance_28 : decode cX11_chance 28 = .ok (.getfield 25, 3) := by decide +kernel
theorem dX11_chance_31 : decode cX11_chance 31 = .ok (.iload_n 1, 1) := by decide +kernel
theorem dX11_chance_32 : decode cX11_chance 32 = .ok (.iconst 1, 1) := by decide +kernel
theorem dX11_chance_33 : decode cX11_chance 33 = .ok (.iastore, 1) := by decide +kernel
theorem dX11_chance_34 : decode cX11_chance 34 = .ok (.goto 46, 3) := by decide +kernel
theorem dX11_chance_37 : decode cX11_chance 37 = .ok (.iload_n 2, 1) := by decide +kernel
theorem dX11_chance_38 : decode cX11_chance 38 = .ok (.iconst 1, 1) := by decide +kernel
theorem dX11_chance_39 : decode cX11_chance 39 = .ok (.if_icmp .ne 23, 3) := by decide +kernel
theorem dX11_chance_42 : decode cX11_chance 42 = .ok (.aload_n 0, 1) := by decide +kernel
theorem dX11_chance_43 : decode cX11_chance 43 = .ok (.getfield 25, 3) := by decide +kernel
theorem dX11_chance_46 : decode cX11_chance 46 = .ok (.iload_n 1, 1) := by decide +kernel
theorem dX11_chance_47 : decode cX11_chance 47 = .ok (.iaload, 1) := by decide +kernel
theorem dX11_chance_48 : decode cX11_chance 48 = .ok (.iconst 1, 1) := by decide +kernel
theorem dX11_chance_49 : decode cX11_chance 49 = .ok (.if_icmp .ne 13, 3) := by decide +kernel
theorem dX11_chance_52 : decode cX11_chance 52 = .ok (.aload_n 0, 1) := by decide +kernel
theorem dX11_chance_53 : decode cX11_chance 53 = .ok (.getfield 25, 3) := by decide +kernel
theorem dX11_chance_56 : decode cX11_chance 56 = .ok (.iload_n 1, 1) := by decide +kernel
theorem dX11_chance_57 : decode cX11_chance 57 = .ok (.iconst 2, 1) := by decide +kernel
theorem dX11_chance_58 : decode cX11_chance 58 = .ok (.iastore, 1) := by decide +kernel
theorem dX11_chance_59 : decode cX11_chance 59 = .ok (.goto 21, 3) := by decide +kernel
theorem dX11_chance_62 : decode cX11_chance 62 = .ok (.iload_n 2, 1) := by decide +kernel
theorem dX11_chance_63 : decode cX11_chance 63 = .ok (.iconst 2, 1) := by decide +kernel
theorem dX11_chance_64 : decode cX11_chance 64 = .ok (.if_icmp .ne 16, 3) := by decide +kernel
theorem dX11_chance_67 : decode cX11_chance 67 = .ok (.aload_n 0, 1) := by decide +kernel
theorem dX11_chance_68 : decode cX11_chance 68 = .ok (.iload_n 1, 1) := by decide +kernel
theorem dX11_chance_69 : decode cX11_chance 69 = .ok (.invokevirtual 222, 3) := by decide +kernel
theorem dX11_chance_72 : decode cX11_chance 72 = .ok (.ifCond .eq 8, 3) := by decide +kernel
theorem dX11_chance_75 : decode cX11_chance 75 = .ok (.aload_n 0, 1) := by decide +kernel
theorem dX11_chance_76 : decode cX11_chance 76 = .ok (.iload_n 1, 1) := by decide +kernel
theorem dX11_chance_77 : decode cX11_chance 77 = .ok (.invokevirtual 225, 3) := by decide +kernel
theorem dX11_chance_80 : decode cX11_chance 80 = .ok (.return_, 1) := by decide +kernel
set_option maxRecDepth 20000 in
theorem ggX11_drift_X11_minutesRefused : GoodIn wsX11_drift wsX11_minutesRefused := goodIn_r _ [7, 8, 9, 10, 11, 2, 12, 13, 14, 6, 15, 74, 75, 76, 77, 78, 79, 80, 81, 82, 83, 84, 85, 86, 87, 88, 89, 90, 91, 92, 93, 94, 95, 96, 97, 98, 99, 100, 101, 102, 103, 104, 105, 106, 107, 108, 109, 110, 111, 112, 113] (by decide +kernel) (by decide +kernel)
set_option maxRecDepth 20000 in
theorem gX11_drift_X11_minutesRefused : GoodIn wsX11_drift (wsV RX11 207 RX11 yX11_minutesRefused wsX11_minutesRefused) := goodIn_app (goodIn_of _ (by decide +kernel)) ggX11_drift_X11_minutesRefused
set_option maxRecDepth 20000 in
theorem ggX11_drift_X11_remember : GoodIn wsX11_drift wsX11_remember := goodIn_r _ [19, 20, 21, 2, 74, 75, 76, 77, 78, 79, 80, 81, 82, 83, 84, 85, 86, 87, 88, 89, 90, 91, 92, 93, 94, 95, 96, 97, 98, 99, 100, 101, 102, 103, 104, 105, 106, 107, 108, 109, 110, 111, 112, 113] (by decide +kernel) (by decide +kernel)
set_option maxRecDepth 20000 in
theorem gX11_drift_X11_remember : GoodIn wsX11_drift (wsV RX11 210 RX11 yX11_remember wsX11_remember) := goodIn_app (goodIn_of _ (by decide +kernel)) ggX11_drift_X11_remember
set_option maxRecDepth 20000 in
theorem ggX11_drift_X11_chance : GoodIn wsX11_drift wsX11_chance := goodIn_r _ [25, 1, 2, 26, 27, 28, 6, 29, 30, 31, 32, 33, 34, 35, 36, 37, 38, 10, 39, 40, 41, 42, 43, 44, 45, 46, 47, 48, 49, 50, 51, 52, 53, 54, 55, 56, 57, 58, 59, 60, 61, 62, 63, 64, 65, 66, 67, 68, 74, 75, 76, 77, 78, 79, 80, 81, 82, 83, 84, 85, 86, 87, 88, 89, 90, 91, 92, 93, 94, 95, 96, 97, 98, 99, 100, 101, 102, 103, 104, 105, 106, 107, 108, 109, 110, 111, 112, 113] (by decide +kernel) (by decide +kernel)
set_option maxRecDepth 20000 in
theorem gX11_drift_X11_chance : GoodIn wsX11_drift (wsV RX11 244 RX11 yX11_chance wsX11_chance) := goodIn_app (goodIn_of _ (by decide +kernel)) ggX11_drift_X11_chance
set_option maxRecDepth 20000 in
theorem ggX11_drift_X11_pass : GoodIn wsX11_drift wsX11_pass := goodIn_r _ [72, 1, 2, 73, 47, 48, 49, 6, 50, 74, 75, 76, 77, 78, 79, 80, 81, 82, 83, 84, 85, 86, 87, 88, 89, 90, 91, 92, 93, 94, 95, 96, 97, 98, 99, 100, 101, 102, 103, 104, 105, 106, 107, 108, 109, 110, 111, 112, 113] (by decide +kernel) (by decide +kernel)
set_option maxRecDepth 20000 in
theorem gX11_drift_X11_pass : GoodIn wsX11_drift (wsV RX11 213 RX11 yX11_pass wsX11_pass) := goodIn_app (goodIn_of _ (by decide +kernel)) ggX11_drift_X11_pass
theorem dX11_drift_0 : decode cX11_drift 0 = .ok (.aload_n 0, 1) := by decide +kernel
theorem dX11_drift_1 : decode cX11_drift 1 = .ok (.iload_n 1, 1) := by decide +kernel
theorem dX11_drift_2 : decode cX11_drift 2 = .ok (.invokevirtual 207, 3) := by decide +kernel
theorem dX11_drift_5 : decode cX11_drift 5 = .ok (.istore_n 2, 1) := by decide +kernel
theorem dX11_drift_6 : decode cX11_drift 6 = .ok (.iload_n 2, 1) := by decide +kernel
theorem dX11_drift_7 : decode cX11_drift 7 = .ok (.ifCond .eq 5, 3) := by decide +kernel
theorem dX11_drift_10 : decode cX11_drift 10 = .ok (.iload_n 2, 1) := by decide +kernel
theorem dX11_drift_11 : decode cX11_drift 11 = .ok (.ireturn, 1) := by decide +kernel
theorem dX11_drift_12 : decode cX11_drift 12 = .ok (.aload_n 0, 1) := by decide +kernel
theorem dX11_drift_13 : decode cX11_drift 13 = .ok (.invokevirtual 210, 3) := by decide +kernel
theorem dX11_drift_16 : decode cX11_drift 16 = .ok (.iconst 0, 1) := by decide +kernel
theorem dX11_drift_17 : decode cX11_drift 17 = .ok (.istore_n 3, 1) := by decide +kernel
theorem dX11_drift_18 : decode cX11_drift 18 = .ok (.iload_n 3, 1) := by decide +kernel
theorem dX11_drift_19 : decode cX11_drift 19 = .ok (.iload_n 1, 1) := by decide +kernel
theorem dX11_drift_20 : decode cX11_drift 20 = .ok (.if_icmp .ge 24, 3) := by decide +kernel
theorem dX11_drift_23 : decode cX11_drift 23 = .ok (.aload_n 0, 1) := by decide +kernel
theorem dX11_drift_24 : decode cX11_drift 24 = .ok (.getfield 93, 3) := by decide +kernel
theorem dX11_drift_27 : decode cX11_drift 27 = .ok (.ifCond .le 7, 3) := by decide +kernel
theorem dX11_drift_30 : decode cX11_drift 30 = .ok (.aload_n 0, 1) := by decide +kernel
theorem dX11_drift_31 : decode cX11_drift 31 = .ok (.invokevirtual 244, 3) := by decide +kernel
theorem dX11_drift_34 : decode cX11_drift 34 = .ok (.aload_n 0, 1) := by decide +kernel
theorem dX11_drift_35 : decode cX11_drift 35 = .ok (.invokevirtual 213, 3) := by decide +kernel
theorem dX11_drift_38 : decode cX11_drift 38 = .ok (.iinc 3 1, 3) := by decide +kernel
theorem dX11_drift_41 : decode cX11_drift 41 = .ok (.goto (-23), 3) := by decide +kernel
theorem dX11_drift_44 : decode cX11_drift 44 = .ok (.aload_n 0, 1) := by decide +kernel
theorem dX11_drift_45 : decode cX11_drift 45 = .ok (.getfield 25, 3) := by decide +kernel
theorem dX11_drift_48 : decode cX11_drift 48 = .ok (.bipush 17, 2) := by decide +kernel
theorem dX11_drift_50 : decode cX11_drift 50 = .ok (.iaload, 1) := by decide +kernel
theorem dX11_drift_51 : decode cX11_drift 51 = .ok (.ireturn, 1) := by decide +kernel
theorem dX11_undo_0 : decode cX11_undo 0 = .ok (.aload_n 0, 1) := by decide +kernel
theorem dX11_undo_1 : decode cX11_undo 1 = .ok (.getfield 168, 3) := by decide +kernel
theorem dX11_undo_4 : decode cX11_undo 4 = .ok (.ifCond .ne 6, 3) := by decide +kernel
theorem dX11_undo_7 : decode cX11_undo 7 = .ok (.ldc 206, 2) := by decide +kernel
theorem dX11_undo_9 : decode cX11_undo 9 = .ok (.ireturn, 1) := by decide +kernel
theorem dX11_undo_10 : decode cX11_undo 10 = .ok (.aload_n 0, 1) := by decide +kernel
theorem dX11_undo_11 : decode cX11_undo 11 = .ok (.dup, 1) := by decide +kernel
theorem dX11_undo_12 : decode cX11_undo 12 = .ok (.getfield 168, 3) := by decide +kernel
theorem dX11_undo_15 : decode cX11_undo 15 = .ok (.iconst 1, 1) := by decide +kernel
theorem dX11_undo_16 : decode cX11_undo 16 = .ok (.isub, 1) := by decide +kernel
theorem dX11_undo_17 : decode cX11_undo 17 = .ok (.putfield 168, 3) := by decide +kernel
theorem dX11_undo_20 : decode cX11_undo 20 = .ok (.iconst 0, 1) := by decide +kernel
theorem dX11_undo_21 : decode cX11_undo 21 = .ok (.istore_n 1, 1) := by decide +kernel
theorem dX11_undo_22 : decode cX11_undo 22 = .ok (.iload_n 1, 1) := by decide +kernel
theorem dX11_undo_23 : decode cX11_undo 23 = .ok (.bipush 19, 2) := by decide +kernel
theorem dX11_undo_25 : decode cX11_undo 25 = .ok (.if_icmp .ge 29, 3) := by decide +kernel
theorem dX11_undo_28 : decode cX11_undo 28 = .ok (.aload_n 0, 1) := by decide +kernel
theorem dX11_undo_29 : decode cX11_undo 29 = .ok (.getfield 25, 3) := by decide +kernel
theorem dX11_undo_32 : decode cX11_undo 32 = .ok (.iload_n 1, 1) := by decide +kernel
theorem dX11_undo_33 : decode cX11_undo 33 = .ok (.aload_n 0, 1) := by decide +kernel
theorem dX11_undo_34 : decode cX11_undo 34 = .ok (.getfield 50, 3) := by decide +kernel
theorem dX11_undo_37 : decode cX11_undo 37 = .ok (.bipush 19, 2) := by decide +kernel
theorem dX11_undo_39 : decode cX11_undo 39 = .ok (.aload_n 0, 1) := by decide +kernel
theorem dX11_undo_40 : decode cX11_undo 40 = .ok (.getfield 168, 3) := by decide +kernel
theorem dX11_undo_43 : decode cX11_undo 43 = .ok (.imul, 1) := by decide +kernel
theorem dX11_undo_44 : decode cX11_undo 44 = .ok (.iload_n 1, 1) := by decide +kernel
theorem dX11_undo_45 : decode cX11_undo 45 = .ok (.iadd, 1) := by decide +kernel
theorem dX11_undo_46 : decode cX11_undo 46 = .ok (.iaload, 1) := by decide +kernel
theorem dX11_undo_47 : decode cX11_undo 47 = .ok (.iastore, 1) := by decide +kernel
theorem dX11_undo_48 : decode cX11_undo 48 = .ok (.iinc 1 1, 3) := by decide +kernel
theorem dX11_undo_51 : decode cX11_undo 51 = .ok (.goto (-29), 3) := by decide +kernel
theorem dX11_undo_54 : decode cX11_undo 54 = .ok (.aload_n 0, 1) := by decide +kernel
theorem dX11_undo_55 : decode cX11_undo 55 = .ok (.getfield 168, 3) := by decide +kernel
theorem dX11_undo_58 : decode cX11_undo 58 = .ok (.ireturn, 1) := by decide +kernel
set_option maxRecDepth 20000 in
theorem ggX11_wish_X11_isEgg : GoodIn wsX11_wish wsX11_isEgg := goodIn_r _ [9, 10, 11, 12, 8, 13, 14, 15, 16, 17, 18, 19, 20, 21, 22, 23, 24, 25, 26, 27, 28, 29, 30, 31, 32, 33, 34, 35, 36, 37, 38, 39, 40, 41, 42, 43, 44, 45, 46, 47, 48, 49, 50, 51, 52, 53] (by decide +kernel) (by decide +kernel)
set_option maxRecDepth 20000 in
theorem gX11_wish_X11_isEgg : GoodIn wsX11_wish (wsV RX11 196 RX11 yX11_isEgg wsX11_isEgg) := goodIn_app (goodIn_of _ (by decide +kernel)) ggX11_wish_X11_isEgg
set_option maxRecDepth 20000 in
theorem ggX11_wish_X11_in : GoodIn wsX11_wish wsX11_in := goodIn_r _ [13] (by decide +kernel) (by decide +kernel)
set_option maxRecDepth 20000 in
theorem gX11_wish_X11_in : GoodIn wsX11_wish (va_wsS RX11 96 yX11_in wsX11_in) := goodIn_app (goodIn_of _ (by decide +kernel)) ggX11_wish_X11_in
theorem dX11_wish_0 : decode cX11_wish 0 = .ok (.aload_n 0, 1) := by decide +kernel
theorem dX11_wish_1 : decode cX11_wish 1 = .ok (.iload_n 1, 1) := by decide +kernel
theorem dX11_wish_2 : decode cX11_wish 2 = .ok (.invokevirtual 196, 3) := by decide +kernel
theorem dX11_wish_5 : decode cX11_wish 5 = .ok (.ifCond .ne 6, 3) := by decide +kernel
theorem dX11_wish_8 : decode cX11_wish 8 = .ok (.ldc 200, 2) := by decide +kernel
theorem dX11_wish_10 : decode cX11_wish 10 = .ok (.ireturn, 1) := by decide +kernel
theorem dX11_wish_11 : decode cX11_wish 11 = .ok (.iload_n 2, 1) := by decide +kernel
theorem dX11_wish_12 : decode cX11_wish 12 = .ok (.i2l, 1) := by decide +kernel
theorem dX11_wish_13 : decode cX11_wish 13 = .ok (.lconst 1, 1) := by decide +kernel
theorem dX11_wish_14 : decode cX11_wish 14 = .ok (.aload_n 0, 1) := by decide +kernel
theorem dX11_wish_15 : decode cX11_wish 15 = .ok (.getfield 153, 3) := by decide +kernel
theorem dX11_wish_18 : decode cX11_wish 18 = .ok (.i2l, 1) := by decide +kernel
theorem dX11_wish_19 : decode cX11_wish 19 = .ok (.invokestatic 96, 3) := by decide +kernel
theorem dX11_wish_22 : decode cX11_wish 22 = .ok (.ifCond .ne 6, 3) := by decide +kernel
theorem dX11_wish_25 : decode cX11_wish 25 = .ok (.ldc 105, 2) := by decide +kernel
theorem dX11_wish_27 : decode cX11_wish 27 = .ok (.ireturn, 1) := by decide +kernel
theorem dX11_wish_28 : decode cX11_wish 28 = .ok (.aload_n 0, 1) := by decide +kernel
theorem dX11_wish_29 : decode cX11_wish 29 = .ok (.getfield 22, 3) := by decide +kernel
theorem dX11_wish_32 : decode cX11_wish 32 = .ok (.iload_n 1, 1) := by decide +kernel
theorem dX11_wish_33 : decode cX11_wish 33 = .ok (.iaload, 1) := by decide +kernel
theorem dX11_wish_34 : decode cX11_wish 34 = .ok (.istore_n 3, 1) := by decide +kernel
theorem dX11_wish_35 : decode cX11_wish 35 = .ok (.aload_n 0, 1) := by decide +kernel
theorem dX11_wish_36 : decode cX11_wish 36 = .ok (.getfield 22, 3) := by decide +kernel
theorem dX11_wish_39 : decode cX11_wish 39 = .ok (.iload_n 1, 1) := by decide +kernel
theorem dX11_wish_40 : decode cX11_wish 40 = .ok (.iload_n 2, 1) := by decide +kernel
theorem dX11_wish_41 : decode cX11_wish 41 = .ok (.iastore, 1) := by decide +kernel
theorem dX11_wish_42 : decode cX11_wish 42 = .ok (.iload_n 3, 1) := by decide +kernel
theorem dX11_wish_43 : decode cX11_wish 43 = .ok (.ireturn, 1) := by decide +kernel
set_option maxRecDepth 20000 in
theorem ggX11_needs_X11_isEgg : GoodIn wsX11_needs wsX11_isEgg := goodIn_r _ [9, 10, 11, 12, 8, 13, 24, 25, 26, 27, 28, 29, 30, 31, 32, 33, 34, 35, 36, 37, 38, 39, 40, 41, 42, 43, 44, 45, 46, 47, 48, 49, 50, 51, 52, 53, 54, 55, 56, 57, 58, 59, 60, 61, 62, 63] (by decide +kernel) (by decide +kernel)
set_option maxRecDepth 20000 in
theorem gX11_needs_X11_isEgg : GoodIn wsX11_needs (wsV RX11 196 RX11 yX11_isEgg wsX11_isEgg) := goodIn_app (goodIn_of _ (by decide +kernel)) ggX11_needs_X11_isEgg
set_option maxRecDepth 20000 in
theorem ggX11_needs_X11_in : GoodIn wsX11_needs wsX11_in := goodIn_r _ [13] (by decide +kernel) (by decide +kernel)
set_option maxRecDepth 20000 in
theorem gX11_needs_X11_in : GoodIn wsX11_needs (va_wsS RX11 96 yX11_in wsX11_in) := goodIn_app (goodIn_of _ (by decide +kernel)) ggX11_needs_X11_in
set_option maxRecDepth 20000 in
theorem ggX11_needs_X11_reignBy : GoodIn wsX11_needs wsX11_reignBy := goodIn_r _ [17, 18, 19, 20, 21, 8, 22, 23, 24, 25, 26, 27, 28, 29, 30, 31, 32, 33, 34, 35, 36, 37, 38, 39, 40, 41, 42, 43, 44, 45, 46, 47, 48, 49, 50, 51, 52, 53, 54, 55, 56, 57, 58, 59, 60, 61, 62, 63] (by decide +kernel) (by decide +kernel)
set_option maxRecDepth 20000 in
theorem gX11_needs_X11_reignBy : GoodIn wsX11_needs (wsV RX11 174 RX11 yX11_reignBy wsX11_reignBy) := goodIn_app (goodIn_of _ (by decide +kernel)) ggX11_needs_X11_reignBy
theorem dX11_needs_0 : decode cX11_needs 0 = .ok (.aload_n 0, 1) := by decide +kernel
theorem dX11_needs_1 : decode cX11_needs 1 = .ok (.iload_n 1, 1) := by decide +kernel
theorem dX11_needs_2 : decode cX11_needs 2 = .ok (.invokevirtual 196, 3) := by decide +kernel
theorem dX11_needs_5 : decode cX11_needs 5 = .ok (.ifCond .ne 6, 3) := by decide +kernel
theorem dX11_needs_8 : decode cX11_needs 8 = .ok (.ldc 200, 2) := by decide +kernel
theorem dX11_needs_10 : decode cX11_needs 10 = .ok (.ireturn, 1) := by decide +kernel
theorem dX11_needs_11 : decode cX11_needs 11 = .ok (.iload_n 2, 1) := by decide +kernel
theorem dX11_needs_12 : decode cX11_needs 12 = .ok (.i2l, 1) := by decide +kernel
theorem dX11_needs_13 : decode cX11_needs 13 = .ok (.lconst 1, 1) := by decide +kernel
theorem dX11_needs_14 : decode cX11_needs 14 = .ok (.ldc2_w 229, 3) := by decide +kernel
theorem dX11_needs_17 : decode cX11_needs 17 = .ok (.invokestatic 96, 3) := by decide +kernel
theorem dX11_needs_20 : decode cX11_needs 20 = .ok (.ifCond .ne 6, 3) := by decide +kernel
theorem dX11_needs_23 : decode cX11_needs 23 = .ok (.ldc 105, 2) := by decide +kernel
theorem dX11_needs_25 : decode cX11_needs 25 = .ok (.ireturn, 1) := by decide +kernel
theorem dX11_needs_26 : decode cX11_needs 26 = .ok (.iconst 0, 1) := by decide +kernel
theorem dX11_needs_27 : decode cX11_needs 27 = .ok (.istore_n 3, 1) := by decide +kernel
theorem dX11_needs_28 : decode cX11_needs 28 = .ok (.iload_n 3, 1) := by decide +kernel
theorem dX11_needs_29 : decode cX11_needs 29 = .ok (.aload_n 0, 1) := by decide +kernel
theorem dX11_needs_30 : decode cX11_needs 30 = .ok (.getfield 153, 3) := by decide +kernel
theorem dX11_needs_33 : decode cX11_needs 33 = .ok (.if_icmp .gt 21, 3) := by decide +kernel
theorem dX11_needs_36 : decode cX11_needs 36 = .ok (.aload_n 0, 1) := by decide +kernel
theorem dX11_needs_37 : decode cX11_needs 37 = .ok (.iload_n 1, 1) := by decide +kernel
theorem dX11_needs_38 : decode cX11_needs 38 = .ok (.iload_n 3, 1) := by decide +kernel
theorem dX11_needs_39 : decode cX11_needs 39 = .ok (.invokevirtual 174, 3) := by decide +kernel
theorem dX11_needs_42 : decode cX11_needs 42 = .ok (.iload_n 2, 1) := by decide +kernel
theorem dX11_needs_43 : decode cX11_needs 43 = .ok (.if_icmp .lt 5, 3) := by decide +kernel
theorem dX11_needs_46 : decode cX11_needs 46 = .ok (.iload_n 3, 1) := by decide +kernel
theorem dX11_needs_47 : decode cX11_needs 47 = .ok (.ireturn, 1) := by decide +kernel
theorem dX11_needs_48 : decode cX11_needs 48 = .ok (.iinc 3 1, 3) := by decide +kernel
theorem dX11_needs_51 : decode cX11_needs 51 = .ok (.goto (-23), 3) := by decide +kernel
theorem dX11_needs_54 : decode cX11_needs 54 = .ok (.iconst (-1), 1) := by decide +kernel
theorem dX11_needs_55 : decode cX11_needs 55 = .ok (.ireturn, 1) := by decide +kernel
set_option maxRecDepth 20000 in
theorem ggX11_placeBy_X11_has : GoodIn wsX11_placeBy wsX11_has := goodIn_r _ [10] (by decide +kernel) (by decide +kernel)
set_option maxRecDepth 20000 in
theorem gX11_placeBy_X11_has : GoodIn wsX11_placeBy (va_wsS RX11 247 yX11_has wsX11_has) := goodIn_app (goodIn_of _ (by decide +kernel)) ggX11_placeBy_X11_has
theorem dX11_placeBy_0 : decode cX11_placeBy 0 = .ok (.iload_n 1, 1) := by decide +kernel
theorem dX11_placeBy_1 : decode cX11_placeBy 1 = .ok (.istore_n 3, 1) := by decide +kernel
theorem dX11_placeBy_2 : decode cX11_placeBy 2 = .ok (.iconst 0, 1) := by decide +kernel
theorem dX11_placeBy_3 : decode cX11_placeBy 3 = .ok (.istore 4, 2) := by decide +kernel
theorem dX11_placeBy_5 : decode cX11_placeBy 5 = .ok (.iconst 0, 1) := by decide +kernel
theorem dX11_placeBy_6 : decode cX11_placeBy 6 = .ok (.istore 5, 2) := by decide +kernel
theorem dX11_placeBy_8 : decode cX11_placeBy 8 = .ok (.iload 5, 2) := by decide +kernel
theorem dX11_placeBy_10 : decode cX11_placeBy 10 = .ok (.iconst 3, 1) := by decide +kernel
theorem dX11_placeBy_11 : decode cX11_placeBy 11 = .ok (.if_icmp .ge 17, 3) := by decide +kernel
theorem dX11_placeBy_14 : decode cX11_placeBy 14 = .ok (.aload_n 0, 1) := by decide +kernel
theorem dX11_placeBy_15 : decode cX11_placeBy 15 = .ok (.getfield 59, 3) := by decide +kernel
theorem dX11_placeBy_18 : decode cX11_placeBy 18 = .ok (.iload 5, 2) := by decide +kernel
theorem dX11_placeBy_20 : decode cX11_placeBy 20 = .ok (.iconst 0, 1) := by decide +kernel
theorem dX11_placeBy_21 : decode cX11_placeBy 21 = .ok (.iastore, 1) := by decide +kernel
theorem dX11_placeBy_22 : decode cX11_placeBy 22 = .ok (.iinc 5 1, 3) := by decide +kernel
theorem dX11_placeBy_25 : decode cX11_placeBy 25 = .ok (.goto (-17), 3) := by decide +kernel
theorem dX11_placeBy_28 : decode cX11_placeBy 28 = .ok (.aload_n 0, 1) := by decide +kernel
theorem dX11_placeBy_29 : decode cX11_placeBy 29 = .ok (.getfield 93, 3) := by decide +kernel
theorem dX11_placeBy_32 : decode cX11_placeBy 32 = .ok (.iconst 1, 1) := by decide +kernel
theorem dX11_placeBy_33 : decode cX11_placeBy 33 = .ok (.isub, 1) := by decide +kernel
theorem dX11_placeBy_34 : decode cX11_placeBy 34 = .ok (.istore 5, 2) := by decide +kernel
theorem dX11_placeBy_36 : decode cX11_placeBy 36 = .ok (.iload 5, 2) := by decide +kernel
theorem dX11_placeBy_38 : decode cX11_placeBy 38 = .ok (.ifCond .lt 94, 3) := by decide +kernel
theorem dX11_placeBy_41 : decode cX11_placeBy 41 = .ok (.aload_n 0, 1) := by decide +kernel
theorem dX11_placeBy_42 : decode cX11_placeBy 42 = .ok (.getfield 53, 3) := by decide +kernel
theorem dX11_placeBy_45 : decode cX11_placeBy 45 = .ok (.iload 5, 2) := by decide +kernel
theorem dX11_placeBy_47 : decode cX11_placeBy 47 = .ok (.iload_n 3, 1) := by decide +kernel
theorem dX11_placeBy_48 : decode cX11_placeBy 48 = .ok (.iconst 3, 1) := by decide +kernel
theorem dX11_placeBy_49 : decode cX11_placeBy 49 = .ok (.irem, 1) := by decide +kernel
theorem dX11_placeBy_50 : decode cX11_placeBy 50 = .ok (.iastore, 1) := by decide +kernel
theorem dX11_placeBy_51 : decode cX11_placeBy 51 = .ok (.iload_n 3, 1) := by decide +kernel
theorem dX11_placeBy_52 : decode cX11_placeBy 52 = .ok (.iconst 3, 1) := by decide +kernel
theorem dX11_placeBy_53 : decode cX11_placeBy 53 = .ok (.idiv, 1) := by decide +kernel
theorem dX11_placeBy_54 : decode cX11_placeBy 54 = .ok (.istore_n 3, 1) := by decide +kernel
theorem dX11_placeBy_55 : decode cX11_placeBy 55 = .ok (.aload_n 0, 1) := by decide +kernel
theorem dX11_placeBy_56 : decode cX11_placeBy 56 = .ok (.getfield 53, 3) := by decide +kernel
theorem dX11_placeBy_59 : decode cX11_placeBy 59 = .ok (.iload 5, 2) := by decide +kernel
theorem dX11_placeBy_61 : decode cX11_placeBy 61 = .ok (.iaload, 1) := by decide +kernel
theorem dX11_placeBy_62 : decode cX11_placeBy 62 = .ok (.aload_n 0, 1) := by decide +kernel
theorem dX11_placeBy_63 : decode cX11_placeBy 63 = .ok (.getfield 90, 3) := by decide +kernel
theorem dX11_placeBy_66 : decode cX11_placeBy 66 = .ok (.if_icmp .ge 22, 3) := by decide +kernel
theorem dX11_placeBy_69 : decode cX11_placeBy 69 = .ok (.iload_n 2, 1) := by decide +kernel
theorem dX11_placeBy_70 : decode cX11_placeBy 70 = .ok (.iload 5, 2) := by decide +kernel
theorem dX11_placeBy_72 : decode cX11_placeBy 72 = .ok (.invokestatic 247, 3) := by decide +kernel
theorem dX11_placeBy_75 : decode cX11_placeBy 75 = .ok (.ifCond .ne 16, 3) := by decide +kernel
theorem dX11_placeBy_78 : decode cX11_placeBy 78 = .ok (.aload_n 0, 1) := by decide +kernel
theorem dX11_placeBy_79 : decode cX11_placeBy 79 = .ok (.getfield 53, 3) := by decide +kernel
theorem dX11_placeBy_82 : decode cX11_placeBy 82 = .ok (.iload 5, 2) := by decide +kernel
theorem dX11_placeBy_84 : decode cX11_placeBy 84 = .ok (.iaload, 1) := by decide +kernel
theorem dX11_placeBy_85 : decode cX11_placeBy 85 = .ok (.ifCond .le 6, 3) := by decide +kernel
theorem dX11_placeBy_88 : decode cX11_placeBy 88 = .ok (.ldc 251, 2) := by decide +kernel
theorem dX11_placeBy_90 : decode cX11_placeBy 90 = .ok (.ireturn, 1) := by decide +kernel
theorem dX11_placeBy_91 : decode cX11_placeBy 91 = .ok (.aload_n 0, 1) := by decide +kernel
theorem dX11_placeBy_92 : decode cX11_placeBy 92 = .ok (.getfield 59, 3) := by decide +kernel
theorem dX11_placeBy_95 : decode cX11_placeBy 95 = .ok (.aload_n 0, 1) := by decide +kernel
theorem dX11_placeBy_96 : decode cX11_placeBy 96 = .ok (.getfield 53, 3) := by decide +kernel
theorem dX11_placeBy_99 : decode cX11_placeBy 99 = .ok (.iload 5, 2) := by decide +kernel
theorem dX11_placeBy_101 : decode cX11_placeBy 101 = .ok (.iaload, 1) := by decide +kernel
theorem dX11_placeBy_102 : decode cX11_placeBy 102 = .ok (.dup2, 1) := by decide +kernel
theorem dX11_placeBy_103 : decode cX11_placeBy 103 = .ok (.iaload, 1) := by decide +kernel
theorem dX11_placeBy_104 : decode cX11_placeBy 104 = .ok (.iload_n 2, 1) := by decide +kernel
theorem dX11_placeBy_105 : decode cX11_placeBy 105 = .ok (.iload 5, 2) := by decide +kernel
theorem dX11_placeBy_107 : decode cX11_placeBy 107 = .ok (.invokestatic 247, 3) := by decide +kernel
theorem dX11_placeBy_110 : decode cX11_placeBy 110 = .ok (.ifCond .eq 13, 3) := by decide +kernel
theorem dX11_placeBy_113 : decode cX11_placeBy 113 = .ok (.aload_n 0, 1) := by decide +kernel
theorem dX11_placeBy_114 : decode cX11_placeBy 114 = .ok (.getfield 22, 3) := by decide +kernel
theorem dX11_placeBy_117 : decode cX11_placeBy 117 = .ok (.iload 5, 2) := by decide +kernel
theorem dX11_placeBy_119 : decode cX11_placeBy 119 = .ok (.iaload, 1) := by decide +kernel
theorem dX11_placeBy_120 : decode cX11_placeBy 120 = .ok (.goto 4, 3) := by decide +kernel
theorem dX11_placeBy_123 : decode cX11_placeBy 123 = .ok (.iconst 0, 1) := by decide +kernel
theorem dX11_placeBy_124 : decode cX11_placeBy 124 = .ok (.iadd, 1) := by decide +kernel
theorem dX11_placeBy_125 : decode cX11_placeBy 125 = .ok (.iastore, 1) := by decide +kernel
theorem dX11_placeBy_126 : decode cX11_placeBy 126 = .ok (.iinc 5 (-1), 3) := by decide +kernel
theorem dX11_placeBy_129 : decode cX11_placeBy 129 = .ok (.goto (-93), 3) := by decide +kernel
theorem dX11_placeBy_132 : decode cX11_placeBy 132 = .ok (.iconst 0, 1) := by decide +kernel
theorem dX11_placeBy_133 : decode cX11_placeBy 133 = .ok (.istore 5, 2) := by decide +kernel
theorem dX11_placeBy_135 : decode cX11_placeBy 135 = .ok (.iload 5, 2) := by decide +kernel
theorem dX11_placeBy_137 : decode cX11_placeBy 137 = .ok (.iconst 3, 1) := by decide +kernel
theorem dX11_placeBy_138 : decode cX11_placeBy 138 = .ok (.if_icmp .ge 35, 3) := by decide +kernel
theorem dX11_placeBy_141 : decode cX11_placeBy 141 = .ok (.aload_n 0, 1) := by decide +kernel
theorem dX11_placeBy_142 : decode cX11_placeBy 142 = .ok (.getfield 59, 3) := by decide +kernel
theorem dX11_placeBy_145 : decode cX11_placeBy 145 = .ok (.iload 5, 2) := by decide +kernel
theorem dX11_placeBy_147 : decode cX11_placeBy 147 = .ok (.iaload, 1) := by decide +kernel
theorem dX11_placeBy_148 : decode cX11_placeBy 148 = .ok (.iload 4, 2) := by decide +kernel
theorem dX11_placeBy_150 : decode cX11_placeBy 150 = .ok (.if_icmp .le 13, 3) := by decide +kernel
theorem dX11_placeBy_153 : decode cX11_placeBy 153 = .ok (.aload_n 0, 1) := by decide +kernel
theorem dX11_placeBy_154 : decode cX11_placeBy 154 = .ok (.getfield 59, 3) := by decide +kernel
theorem dX11_placeBy_157 : decode cX11_placeBy 157 = .ok (.iload 5, 2) := by decide +kernel
theorem dX11_placeBy_159 : decode cX11_placeBy 159 = .ok (.iaload, 1) := by decide +kernel
theorem dX11_placeBy_160 : decode cX11_placeBy 160 = .ok (.goto 5, 3) := by decide +kernel
theorem dX11_placeBy_163 : decode cX11_placeBy 163 = .ok (.iload 4, 2) := by decide +kernel
theorem dX11_placeBy_165 : decode cX11_placeBy 165 = .ok (.istore 4, 2) := by decide +kernel
theorem dX11_placeBy_167 : decode cX11_placeBy 167 = .ok (.iinc 5 1, 3) := by decide +kernel
theorem dX11_placeBy_170 : decode cX11_placeBy 170 = .ok (.goto (-35), 3) := by decide +kernel
theorem dX11_placeBy_173 : decode cX11_placeBy 173 = .ok (.iload 4, 2) := by decide +kernel
theorem dX11_placeBy_175 : decode cX11_placeBy 175 = .ok (.ireturn, 1) := by decide +kernel
set_option maxRecDepth 20000 in
theorem ggX11_allBoiled_X11_in : GoodIn wsX11_allBoiled wsX11_in := goodIn_r _ [11] (by decide +kernel) (by decide +kernel)
set_option maxRecDepth 20000 in
theorem gX11_allBoiled_X11_in : GoodIn wsX11_allBoiled (va_wsS RX11 96 yX11_in wsX11_in) := goodIn_app (goodIn_of _ (by decide +kernel)) ggX11_allBoiled_X11_in
set_option maxRecDepth 20000 in
theorem ggX11_allBoiled_X11_isEgg : GoodIn wsX11_allBoiled wsX11_isEgg := goodIn_r _ [15, 1, 8, 9, 10, 11, 25, 26, 27, 28, 29, 30, 31, 32, 33, 34, 35, 36, 37, 38, 39, 40, 41, 42, 43, 44, 45, 46, 47, 48, 49, 50, 51, 52, 53, 54, 55, 56, 57, 58, 59, 60, 61, 62, 63, 64] (by decide +kernel) (by decide +kernel)
set_option maxRecDepth 20000 in
theorem gX11_allBoiled_X11_isEgg : GoodIn wsX11_allBoiled (wsV RX11 196 RX11 yX11_isEgg wsX11_isEgg) := goodIn_app (goodIn_of _ (by decide +kernel)) ggX11_allBoiled_X11_isEgg
set_option maxRecDepth 20000 in
theorem ggX11_allBoiled_X11_placeBy : GoodIn wsX11_allBoiled wsX11_placeBy := goodIn_r _ [19, 20, 1, 7, 3, 5, 21, 22, 23, 10, 24, 25, 26, 27, 28, 29, 30, 31, 32, 33, 34, 35, 36, 37, 38, 39, 40, 41, 42, 43, 44, 45, 46, 47, 48, 49, 50, 51, 52, 53, 54, 55, 56, 57, 58, 59, 60, 61, 62, 63, 64] (by decide +kernel) (by decide +kernel)
set_option maxRecDepth 20000 in
theorem gX11_allBoiled_X11_placeBy : GoodIn wsX11_allBoiled (wsV RX11 252 RX11 yX11_placeBy wsX11_placeBy) := goodIn_app (goodIn_of _ (by decide +kernel)) ggX11_allBoiled_X11_placeBy
set_option maxRecDepth 20000 in
theorem ggX11_allBoiled_X11_has : GoodIn wsX11_allBoiled wsX11_has := goodIn_r _ [24] (by decide +kernel) (by decide +kernel)
set_option maxRecDepth 20000 in
theorem gX11_allBoiled_X11_has : GoodIn wsX11_allBoiled (va_wsS RX11 247 yX11_has wsX11_has) := goodIn_app (goodIn_of _ (by decide +kernel)) ggX11_allBoiled_X11_has
theorem dX11_allBoiled_0 : decode cX11_allBoiled 0 = .ok (.iload_n 1, 1) := by decide +kernel
theorem dX11_allBoiled_1 : decode cX11_allBoiled 1 = .ok (.i2l, 1) := by decide +kernel
theorem dX11_allBoiled_2 : decode cX11_allBoiled 2 = .ok (.lconst 0, 1) := by decide +kernel
theorem dX11_allBoiled_3 : decode cX11_allBoiled 3 = .ok (.iconst 1, 1) := by decide +kernel
theorem dX11_allBoiled_4 : decode cX11_allBoiled 4 = .ok (.aload_n 0, 1) := by decide +kernel
theorem dX11_allBoiled_5 : decode cX11_allBoiled 5 = .ok (.getfield 93, 3) := by decide +kernel
theorem dX11_allBoiled_8 : decode cX11_allBoiled 8 = .ok (.ishl, 1) := by decide +kernel
theorem dX11_allBoiled_9 : decode cX11_allBoiled 9 = .ok (.iconst 1, 1) := by decide +kernel
theorem dX11_allBoiled_10 : decode cX11_allBoiled 10 = .ok (.isub, 1) := by decide +kernel
theorem dX11_allBoiled_11 : decode cX11_allBoiled 11 = .ok (.i2l, 1) := by decide +kernel
theorem dX11_allBoiled_12 : decode cX11_allBoiled 12 = .ok (.invokestatic 96, 3) := by decide +kernel
theorem dX11_allBoiled_15 : decode cX11_allBoiled 15 = .ok (.ifCond .eq 16, 3) := by decide +kernel
theorem dX11_allBoiled_18 : decode cX11_allBoiled 18 = .ok (.iload_n 2, 1) := by decide +kernel
theorem dX11_allBoiled_19 : decode cX11_allBoiled 19 = .ok (.iconst (-1), 1) := by decide +kernel
theorem dX11_allBoiled_20 : decode cX11_allBoiled 20 = .ok (.if_icmp .eq 14, 3) := by decide +kernel
theorem dX11_allBoiled_23 : decode cX11_allBoiled 23 = .ok (.aload_n 0, 1) := by decide +kernel
theorem dX11_allBoiled_24 : decode cX11_allBoiled 24 = .ok (.iload_n 2, 1) := by decide +kernel
theorem dX11_allBoiled_25 : decode cX11_allBoiled 25 = .ok (.invokevirtual 196, 3) := by decide +kernel
theorem dX11_allBoiled_28 : decode cX11_allBoiled 28 = .ok (.ifCond .ne 6, 3) := by decide +kernel
theorem dX11_allBoiled_31 : decode cX11_allBoiled 31 = .ok (.ldc 200, 2) := by decide +kernel
theorem dX11_allBoiled_33 : decode cX11_allBoiled 33 = .ok (.ireturn, 1) := by decide +kernel
theorem dX11_allBoiled_34 : decode cX11_allBoiled 34 = .ok (.aload_n 0, 1) := by decide +kernel
theorem dX11_allBoiled_35 : decode cX11_allBoiled 35 = .ok (.getfield 90, 3) := by decide +kernel
theorem dX11_allBoiled_38 : decode cX11_allBoiled 38 = .ok (.ifCond .ne 6, 3) := by decide +kernel
theorem dX11_allBoiled_41 : decode cX11_allBoiled 41 = .ok (.ldc 206, 2) := by decide +kernel
theorem dX11_allBoiled_43 : decode cX11_allBoiled 43 = .ok (.ireturn, 1) := by decide +kernel
theorem dX11_allBoiled_44 : decode cX11_allBoiled 44 = .ok (.iconst 1, 1) := by decide +kernel
theorem dX11_allBoiled_45 : decode cX11_allBoiled 45 = .ok (.istore_n 3, 1) := by decide +kernel
theorem dX11_allBoiled_46 : decode cX11_allBoiled 46 = .ok (.iconst 0, 1) := by decide +kernel
theorem dX11_allBoiled_47 : decode cX11_allBoiled 47 = .ok (.istore 4, 2) := by decide +kernel
theorem dX11_allBoiled_49 : decode cX11_allBoiled 49 = .ok (.iload 4, 2) := by decide +kernel
theorem dX11_allBoiled_51 : decode cX11_allBoiled 51 = .ok (.aload_n 0, 1) := by decide +kernel
theorem dX11_allBoiled_52 : decode cX11_allBoiled 52 = .ok (.getfield 93, 3) := by decide +kernel
theorem dX11_allBoiled_55 : decode cX11_allBoiled 55 = .ok (.if_icmp .ge 13, 3) := by decide +kernel
theorem dX11_allBoiled_58 : decode cX11_allBoiled 58 = .ok (.iload_n 3, 1) := by decide +kernel
theorem dX11_allBoiled_59 : decode cX11_allBoiled 59 = .ok (.iconst 3, 1) := by decide +kernel
theorem dX11_allBoiled_60 : decode cX11_allBoiled 60 = .ok (.imul, 1) := by decide +kernel
theorem dX11_allBoiled_61 : decode cX11_allBoiled 61 = .ok (.istore_n 3, 1) := by decide +kernel
theorem dX11_allBoiled_62 : decode cX11_allBoiled 62 = .ok (.iinc 4 1, 3) := by decide +kernel
theorem dX11_allBoiled_65 : decode cX11_allBoiled 65 = .ok (.goto (-16), 3) := by decide +kernel
theorem dX11_allBoiled_68 : decode cX11_allBoiled 68 = .ok (.ldc 251, 2) := by decide +kernel
theorem dX11_allBoiled_70 : decode cX11_allBoiled 70 = .ok (.istore 4, 2) := by decide +kernel
theorem dX11_allBoiled_72 : decode cX11_allBoiled 72 = .ok (.iconst 0, 1) := by decide +kernel
theorem dX11_allBoiled_73 : decode cX11_allBoiled 73 = .ok (.istore 5, 2) := by decide +kernel
theorem dX11_allBoiled_75 : decode cX11_allBoiled 75 = .ok (.iload 5, 2) := by decide +kernel
theorem dX11_allBoiled_77 : decode cX11_allBoiled 77 = .ok (.iload_n 3, 1) := by decide +kernel
theorem dX11_allBoiled_78 : decode cX11_allBoiled 78 = .ok (.if_icmp .ge 61, 3) := by decide +kernel
theorem dX11_allBoiled_81 : decode cX11_allBoiled 81 = .ok (.aload_n 0, 1) := by decide +kernel
theorem dX11_allBoiled_82 : decode cX11_allBoiled 82 = .ok (.iload 5, 2) := by decide +kernel
theorem dX11_allBoiled_84 : decode cX11_allBoiled 84 = .ok (.iload_n 1, 1) := by decide +kernel
theorem dX11_allBoiled_85 : decode cX11_allBoiled 85 = .ok (.invokevirtual 252, 3) := by decide +kernel
theorem dX11_allBoiled_88 : decode cX11_allBoiled 88 = .ok (.istore 6, 2) := by decide +kernel
theorem dX11_allBoiled_90 : decode cX11_allBoiled 90 = .ok (.iload 6, 2) := by decide +kernel
theorem dX11_allBoiled_92 : decode cX11_allBoiled 92 = .ok (.iload 4, 2) := by decide +kernel
theorem dX11_allBoiled_94 : decode cX11_allBoiled 94 = .ok (.if_icmp .ge 39, 3) := by decide +kernel
theorem dX11_allBoiled_97 : decode cX11_allBoiled 97 = .ok (.iload 6, 2) := by decide +kernel
theorem dX11_allBoiled_99 : decode cX11_allBoiled 99 = .ok (.istore 4, 2) := by decide +kernel
theorem dX11_allBoiled_101 : decode cX11_allBoiled 101 = .ok (.iconst 0, 1) := by decide +kernel
theorem dX11_allBoiled_102 : decode cX11_allBoiled 102 = .ok (.istore 7, 2) := by decide +kernel
theorem dX11_allBoiled_104 : decode cX11_allBoiled 104 = .ok (.iload 7, 2) := by decide +kernel
theorem dX11_allBoiled_106 : decode cX11_allBoiled 106 = .ok (.aload_n 0, 1) := by decide +kernel
theorem dX11_allBoiled_107 : decode cX11_allBoiled 107 = .ok (.getfield 93, 3) := by decide +kernel
theorem dX11_allBoiled_110 : decode cX11_allBoiled 110 = .ok (.if_icmp .ge 23, 3) := by decide +kernel
theorem dX11_allBoiled_113 : decode cX11_allBoiled 113 = .ok (.aload_n 0, 1) := by decide +kernel
theorem dX11_allBoiled_114 : decode cX11_allBoiled 114 = .ok (.getfield 56, 3) := by decide +kernel
theorem dX11_allBoiled_117 : decode cX11_allBoiled 117 = .ok (.iload 7, 2) := by decide +kernel
theorem dX11_allBoiled_119 : decode cX11_allBoiled 119 = .ok (.aload_n 0, 1) := by decide +kernel
theorem dX11_allBoiled_120 : decode cX11_allBoiled 120 = .ok (.getfield 53, 3) := by decide +kernel
theorem dX11_allBoiled_123 : decode cX11_allBoiled 123 = .ok (.iload 7, 2) := by decide +kernel
theorem dX11_allBoiled_125 : decode cX11_allBoiled 125 = .ok (.iaload, 1) := by decide +kernel
theorem dX11_allBoiled_126 : decode cX11_allBoiled 126 = .ok (.iastore, 1) := by decide +kernel
theorem dX11_allBoiled_127 : decode cX11_allBoiled 127 = .ok (.iinc 7 1, 3) := by decide +kernel
theorem dX11_allBoiled_130 : decode cX11_allBoiled 130 = .ok (.goto (-26), 3) := by decide +kernel
theorem dX11_allBoiled_133 : decode cX11_allBoiled 133 = .ok (.iinc 5 1, 3) := by decide +kernel
theorem dX11_allBoiled_136 : decode cX11_allBoiled 136 = .ok (.goto (-61), 3) := by decide +kernel
theorem dX11_allBoiled_139 : decode cX11_allBoiled 139 = .ok (.iload_n 2, 1) := by decide +kernel
theorem dX11_allBoiled_140 : decode cX11_allBoiled 140 = .ok (.iconst (-1), 1) := by decide +kernel
theorem dX11_allBoiled_141 : decode cX11_allBoiled 141 = .ok (.if_icmp .ne 8, 3) := by decide +kernel
theorem dX11_allBoiled_144 : decode cX11_allBoiled 144 = .ok (.iload 4, 2) := by decide +kernel
theorem dX11_allBoiled_146 : decode cX11_allBoiled 146 = .ok (.goto 21, 3) := by decide +kernel
theorem dX11_allBoiled_149 : decode cX11_allBoiled 149 = .ok (.iload_n 1, 1) := by decide +kernel
theorem dX11_allBoiled_150 : decode cX11_allBoiled 150 = .ok (.iload_n 2, 1) := by decide +kernel
theorem dX11_allBoiled_151 : decode cX11_allBoiled 151 = .ok (.invokestatic 247, 3) := by decide +kernel
theorem dX11_allBoiled_154 : decode cX11_allBoiled 154 = .ok (.ifCond .eq 12, 3) := by decide +kernel
theorem dX11_allBoiled_157 : decode cX11_allBoiled 157 = .ok (.aload_n 0, 1) := by decide +kernel
theorem dX11_allBoiled_158 : decode cX11_allBoiled 158 = .ok (.getfield 56, 3) := by decide +kernel
theorem dX11_allBoiled_161 : decode cX11_allBoiled 161 = .ok (.iload_n 2, 1) := by decide +kernel
theorem dX11_allBoiled_162 : decode cX11_allBoiled 162 = .ok (.iaload, 1) := by decide +kernel
theorem dX11_allBoiled_163 : decode cX11_allBoiled 163 = .ok (.goto 4, 3) := by decide +kernel
theorem dX11_allBoiled_166 : decode cX11_allBoiled 166 = .ok (.iconst (-1), 1) := by decide +kernel
theorem dX11_allBoiled_167 : decode cX11_allBoiled 167 = .ok (.ireturn, 1) := by decide +kernel
set_option maxRecDepth 20000 in
theorem ggX11_minutesOf_X11_has : GoodIn wsX11_minutesOf wsX11_has := goodIn_r _ [5] (by decide +kernel) (by decide +kernel)
set_option maxRecDepth 20000 in
theorem gX11_minutesOf_X11_has : GoodIn wsX11_minutesOf (va_wsS RX11 247 yX11_has wsX11_has) := goodIn_app (goodIn_of _ (by decide +kernel)) ggX11_minutesOf_X11_has
set_option maxRecDepth 20000 in
theorem ggX11_minutesOf_X11_reign : GoodIn wsX11_minutesOf wsX11_reign := goodIn_r _ [9, 10, 11, 12, 13, 4, 14, 15, 16, 17, 18, 19, 20, 21, 22, 23, 24, 25, 26, 27, 28, 29, 30, 31, 32, 33, 34, 35, 36, 37, 38, 39, 40, 41, 42, 43, 44, 45, 46, 47, 48, 49, 50, 51, 52, 53, 54, 55, 56, 57, 58, 59, 60] (by decide +kernel) (by decide +kernel)
set_option maxRecDepth 20000 in
theorem gX11_minutesOf_X11_reign : GoodIn wsX11_minutesOf (wsV RX11 181 RX11 yX11_reign wsX11_reign) := goodIn_app (goodIn_of _ (by decide +kernel)) ggX11_minutesOf_X11_reign
theorem dX11_minutesOf_0 : decode cX11_minutesOf 0 = .ok (.iconst 0, 1) := by decide +kernel
theorem dX11_minutesOf_1 : decode cX11_minutesOf 1 = .ok (.istore_n 2, 1) := by decide +kernel
theorem dX11_minutesOf_2 : decode cX11_minutesOf 2 = .ok (.iconst 0, 1) := by decide +kernel
theorem dX11_minutesOf_3 : decode cX11_minutesOf 3 = .ok (.istore_n 3, 1) := by decide +kernel
theorem dX11_minutesOf_4 : decode cX11_minutesOf 4 = .ok (.iload_n 3, 1) := by decide +kernel
theorem dX11_minutesOf_5 : decode cX11_minutesOf 5 = .ok (.aload_n 0, 1) := by decide +kernel
theorem dX11_minutesOf_6 : decode cX11_minutesOf 6 = .ok (.getfield 93, 3) := by decide +kernel
theorem dX11_minutesOf_9 : decode cX11_minutesOf 9 = .ok (.if_icmp .ge 29, 3) := by decide +kernel
theorem dX11_minutesOf_12 : decode cX11_minutesOf 12 = .ok (.iload_n 2, 1) := by decide +kernel
theorem dX11_minutesOf_13 : decode cX11_minutesOf 13 = .ok (.iload_n 1, 1) := by decide +kernel
theorem dX11_minutesOf_14 : decode cX11_minutesOf 14 = .ok (.iload_n 3, 1) := by decide +kernel
theorem dX11_minutesOf_15 : decode cX11_minutesOf 15 = .ok (.invokestatic 247, 3) := by decide +kernel
theorem dX11_minutesOf_18 : decode cX11_minutesOf 18 = .ok (.ifCond .eq 11, 3) := by decide +kernel
theorem dX11_minutesOf_21 : decode cX11_minutesOf 21 = .ok (.aload_n 0, 1) := by decide +kernel
theorem dX11_minutesOf_22 : decode cX11_minutesOf 22 = .ok (.iload_n 3, 1) := by decide +kernel
theorem dX11_minutesOf_23 : decode cX11_minutesOf 23 = .ok (.invokevirtual 181, 3) := by decide +kernel
theorem dX11_minutesOf_26 : decode cX11_minutesOf 26 = .ok (.goto 4, 3) := by decide +kernel
theorem dX11_minutesOf_29 : decode cX11_minutesOf 29 = .ok (.iconst 0, 1) := by decide +kernel
theorem dX11_minutesOf_30 : decode cX11_minutesOf 30 = .ok (.iadd, 1) := by decide +kernel
theorem dX11_minutesOf_31 : decode cX11_minutesOf 31 = .ok (.istore_n 2, 1) := by decide +kernel
theorem dX11_minutesOf_32 : decode cX11_minutesOf 32 = .ok (.iinc 3 1, 3) := by decide +kernel
theorem dX11_minutesOf_35 : decode cX11_minutesOf 35 = .ok (.goto (-31), 3) := by decide +kernel
theorem dX11_minutesOf_38 : decode cX11_minutesOf 38 = .ok (.iload_n 2, 1) := by decide +kernel
theorem dX11_minutesOf_39 : decode cX11_minutesOf 39 = .ok (.ireturn, 1) := by decide +kernel
theorem dX11_bits_0 : decode cX11_bits 0 = .ok (.iconst 0, 1) := by decide +kernel
theorem dX11_bits_1 : decode cX11_bits 1 = .ok (.istore_n 1, 1) := by decide +kernel
theorem dX11_bits_2 : decode cX11_bits 2 = .ok (.iconst 0, 1) := by decide +kernel
theorem dX11_bits_3 : decode cX11_bits 3 = .ok (.istore_n 2, 1) := by decide +kernel
theorem dX11_bits_4 : decode cX11_bits 4 = .ok (.iload_n 2, 1) := by decide +kernel
theorem dX11_bits_5 : decode cX11_bits 5 = .ok (.bipush 7, 2) := by decide +kernel
theorem dX11_bits_7 : decode cX11_bits 7 = .ok (.if_icmp .ge 17, 3) := by decide +kernel
theorem dX11_bits_10 : decode cX11_bits 10 = .ok (.iload_n 1, 1) := by decide +kernel
theorem dX11_bits_11 : decode cX11_bits 11 = .ok (.iload_n 0, 1) := by decide +kernel
theorem dX11_bits_12 : decode cX11_bits 12 = .ok (.iload_n 2, 1) := by decide +kernel
theorem dX11_bits_13 : decode cX11_bits 13 = .ok (.ishr, 1) := by decide +kernel
theorem dX11_bits_14 : decode cX11_bits 14 = .ok (.iconst 1, 1) := by decide +kernel
theorem dX11_bits_15 : decode cX11_bits 15 = .ok (.iand, 1) := by decide +kernel
theorem dX11_bits_16 : decode cX11_bits 16 = .ok (.iadd, 1) := by decide +kernel
theorem dX11_bits_17 : decode cX11_bits 17 = .ok (.istore_n 1, 1) := by decide +kernel
theorem dX11_bits_18 : decode cX11_bits 18 = .ok (.iinc 2 1, 3) := by decide +kernel
theorem dX11_bits_21 : decode cX11_bits 21 = .ok (.goto (-17), 3) := by decide +kernel
theorem dX11_bits_24 : decode cX11_bits 24 = .ok (.iload_n 1, 1) := by decide +kernel
theorem dX11_bits_25 : decode cX11_bits 25 = .ok (.ireturn, 1) := by decide +kernel
set_option maxRecDepth 20000 in
theorem ggX11_dynastySet_X11_allThat : GoodIn wsX11_dynastySet wsX11_allThat := goodIn_r _ [7, 1, 2, 32, 33, 34, 35, 36, 37, 38, 39, 40, 41, 42, 43, 44, 45, 46, 47, 48, 49, 50, 51, 52, 53, 54, 55, 56, 57, 58, 59, 60, 61, 62, 63, 64, 65, 66, 67, 68, 69, 70, 71] (by decide +kernel) (by decide +kernel)
set_option maxRecDepth 20000 in
theorem gX11_dynastySet_X11_allThat : GoodIn wsX11_dynastySet (wsV RX11 187 RX11 yX11_allThat wsX11_allThat) := goodIn_app (goodIn_of _ (by decide +kernel)) ggX11_dynastySet_X11_allThat
set_option maxRecDepth 20000 in
theorem ggX11_dynastySet_X11_minutesOf : GoodIn wsX11_dynastySet wsX11_minutesOf := goodIn_r _ [11, 1, 12, 13, 6, 14, 15, 16, 17, 18, 2, 19, 20, 21, 22, 23, 24, 25, 26, 27, 28, 32, 33, 34, 35, 36, 37, 38, 39, 40, 41, 42, 43, 44, 45, 46, 47, 48, 49, 50, 51, 52, 53, 54, 55, 56, 57, 58, 59, 60, 61, 62, 63, 64, 65, 66, 67, 68, 69, 70, 71] (by decide +kernel) (by decide +kernel)
set_option maxRecDepth 20000 in
theorem gX11_dynastySet_X11_minutesOf : GoodIn wsX11_dynastySet (wsV RX11 255 RX11 yX11_minutesOf wsX11_minutesOf) := goodIn_app (goodIn_of _ (by decide +kernel)) ggX11_dynastySet_X11_minutesOf
set_option maxRecDepth 20000 in
theorem ggX11_dynastySet_X11_bits : GoodIn wsX11_dynastySet wsX11_bits := goodIn_r _ [31] (by decide +kernel) (by decide +kernel)
set_option maxRecDepth 20000 in
theorem gX11_dynastySet_X11_bits : GoodIn wsX11_dynastySet (va_wsS RX11 258 yX11_bits wsX11_bits) := goodIn_app (goodIn_of _ (by decide +kernel)) ggX11_dynastySet_X11_bits
theorem dX11_dynastySet_0 : decode cX11_dynastySet 0 = .ok (.aload_n 0, 1) := by decide +kernel
theorem dX11_dynastySet_1 : decode cX11_dynastySet 1 = .ok (.iconst 2, 1) := by decide +kernel
theorem dX11_dynastySet_2 : decode cX11_dynastySet 2 = .ok (.invokevirtual 187, 3) := by decide +kernel
theorem dX11_dynastySet_5 : decode cX11_dynastySet 5 = .ok (.istore_n 1, 1) := by decide +kernel
theorem dX11_dynastySet_6 : decode cX11_dynastySet 6 = .ok (.iconst 0, 1) := by decide +kernel
theorem dX11_dynastySet_7 : decode cX11_dynastySet 7 = .ok (.istore_n 2, 1) := by decide +kernel
theorem dX11_dynastySet_8 : decode cX11_dynastySet 8 = .ok (.iconst 0, 1) := by decide +kernel
theorem dX11_dynastySet_9 : decode cX11_dynastySet 9 = .ok (.istore_n 3, 1) := by decide +kernel
theorem dX11_dynastySet_10 : decode cX11_dynastySet 10 = .ok (.iload_n 3, 1) := by decide +kernel
theorem dX11_dynastySet_11 : decode cX11_dynastySet 11 = .ok (.iconst 1, 1) := by decide +kernel
theorem dX11_dynastySet_12 : decode cX11_dynastySet 12 = .ok (.aload_n 0, 1) := by decide +kernel
theorem dX11_dynastySet_13 : decode cX11_dynastySet 13 = .ok (.getfield 93, 3) := by decide +kernel
theorem dX11_dynastySet_16 : decode cX11_dynastySet 16 = .ok (.ishl, 1) := by decide +kernel
theorem dX11_dynastySet_17 : decode cX11_dynastySet 17 = .ok (.if_icmp .ge 111, 3) := by decide +kernel
theorem dX11_dynastySet_20 : decode cX11_dynastySet 20 = .ok (.iload_n 3, 1) := by decide +kernel
theorem dX11_dynastySet_21 : decode cX11_dynastySet 21 = .ok (.iload_n 1, 1) := by decide +kernel
theorem dX11_dynastySet_22 : decode cX11_dynastySet 22 = .ok (.iconst (-1), 1) := by decide +kernel
theorem dX11_dynastySet_23 : decode cX11_dynastySet 23 = .ok (.ixor, 1) := by decide +kernel
theorem dX11_dynastySet_24 : decode cX11_dynastySet 24 = .ok (.iand, 1) := by decide +kernel
theorem dX11_dynastySet_25 : decode cX11_dynastySet 25 = .ok (.ifCond .ne 24, 3) := by decide +kernel
theorem dX11_dynastySet_28 : decode cX11_dynastySet 28 = .ok (.iconst 2, 1) := by decide +kernel
theorem dX11_dynastySet_29 : decode cX11_dynastySet 29 = .ok (.aload_n 0, 1) := by decide +kernel
theorem dX11_dynastySet_30 : decode cX11_dynastySet 30 = .ok (.iload_n 3, 1) := by decide +kernel
theorem dX11_dynastySet_31 : decode cX11_dynastySet 31 = .ok (.invokevirtual 255, 3) := by decide +kernel
theorem dX11_dynastySet_34 : decode cX11_dynastySet 34 = .ok (.imul, 1) := by decide +kernel
theorem dX11_dynastySet_35 : decode cX11_dynastySet 35 = .ok (.aload_n 0, 1) := by decide +kernel
theorem dX11_dynastySet_36 : decode cX11_dynastySet 36 = .ok (.getfield 25, 3) := by decide +kernel
theorem dX11_dynastySet_39 : decode cX11_dynastySet 39 = .ok (.bipush 14, 2) := by decide +kernel
theorem dX11_dynastySet_41 : decode cX11_dynastySet 41 = .ok (.iaload, 1) := by decide +kernel
theorem dX11_dynastySet_42 : decode cX11_dynastySet 42 = .ok (.if_icmp .gt 7, 3) := by decide +kernel
theorem dX11_dynastySet_45 : decode cX11_dynastySet 45 = .ok (.iconst 1, 1) := by decide +kernel
theorem dX11_dynastySet_46 : decode cX11_dynastySet 46 = .ok (.goto 4, 3) := by decide +kernel
theorem dX11_dynastySet_49 : decode cX11_dynastySet 49 = .ok (.iconst 0, 1) := by decide +kernel
theorem dX11_dynastySet_50 : decode cX11_dynastySet 50 = .ok (.istore 4, 2) := by decide +kernel
theorem dX11_dynastySet_52 : decode cX11_dynastySet 52 = .ok (.iload_n 3, 1) := by decide +kernel
theorem dX11_dynastySet_53 : decode cX11_dynastySet 53 = .ok (.invokestatic 258, 3) := by decide +kernel
theorem dX11_dynastySet_56 : decode cX11_dynastySet 56 = .ok (.iload_n 2, 1) := by decide +kernel
theorem dX11_dynastySet_57 : decode cX11_dynastySet 57 = .ok (.invokestatic 258, 3) := by decide +kernel
theorem dX11_dynastySet_60 : decode cX11_dynastySet 60 = .ok (.if_icmp .le 7, 3) := by decide +kernel
theorem dX11_dynastySet_63 : decode cX11_dynastySet 63 = .ok (.iconst 1, 1) := by decide +kernel
theorem dX11_dynastySet_64 : decode cX11_dynastySet 64 = .ok (.goto 4, 3) := by decide +kernel
theorem dX11_dynastySet_67 : decode cX11_dynastySet 67 = .ok (.iconst 0, 1) := by decide +kernel
theorem dX11_dynastySet_68 : decode cX11_dynastySet 68 = .ok (.istore 5, 2) := by decide +kernel
theorem dX11_dynastySet_70 : decode cX11_dynastySet 70 = .ok (.iload_n 3, 1) := by decide +kernel
theorem dX11_dynastySet_71 : decode cX11_dynastySet 71 = .ok (.invokestatic 258, 3) := by decide +kernel
theorem dX11_dynastySet_74 : decode cX11_dynastySet 74 = .ok (.iload_n 2, 1) := by decide +kernel
theorem dX11_dynastySet_75 : decode cX11_dynastySet 75 = .ok (.invokestatic 258, 3) := by decide +kernel
theorem dX11_dynastySet_78 : decode cX11_dynastySet 78 = .ok (.if_icmp .ne 20, 3) := by decide +kernel
theorem dX11_dynastySet_81 : decode cX11_dynastySet 81 = .ok (.aload_n 0, 1) := by decide +kernel
theorem dX11_dynastySet_82 : decode cX11_dynastySet 82 = .ok (.iload_n 3, 1) := by decide +kernel
theorem dX11_dynastySet_83 : decode cX11_dynastySet 83 = .ok (.invokevirtual 255, 3) := by decide +kernel
theorem dX11_dynastySet_86 : decode cX11_dynastySet 86 = .ok (.aload_n 0, 1) := by decide +kernel
theorem dX11_dynastySet_87 : decode cX11_dynastySet 87 = .ok (.iload_n 2, 1) := by decide +kernel
theorem dX11_dynastySet_88 : decode cX11_dynastySet 88 = .ok (.invokevirtual 255, 3) := by decide +kernel
theorem dX11_dynastySet_91 : decode cX11_dynastySet 91 = .ok (.if_icmp .le 7, 3) := by decide +kernel
theorem dX11_dynastySet_94 : decode cX11_dynastySet 94 = .ok (.iconst 1, 1) := by decide +kernel
theorem dX11_dynastySet_95 : decode cX11_dynastySet 95 = .ok (.goto 4, 3) := by decide +kernel
theorem dX11_dynastySet_98 : decode cX11_dynastySet 98 = .ok (.iconst 0, 1) := by decide +kernel
theorem dX11_dynastySet_99 : decode cX11_dynastySet 99 = .ok (.istore 6, 2) := by decide +kernel
theorem dX11_dynastySet_101 : decode cX11_dynastySet 101 = .ok (.iload 4, 2) := by decide +kernel
theorem dX11_dynastySet_103 : decode cX11_dynastySet 103 = .ok (.ifCond .eq 17, 3) := by decide +kernel
theorem dX11_dynastySet_106 : decode cX11_dynastySet 106 = .ok (.iload 5, 2) := by decide +kernel
theorem dX11_dynastySet_108 : decode cX11_dynastySet 108 = .ok (.ifCond .ne 8, 3) := by decide +kernel
theorem dX11_dynastySet_111 : decode cX11_dynastySet 111 = .ok (.iload 6, 2) := by decide +kernel
theorem dX11_dynastySet_113 : decode cX11_dynastySet 113 = .ok (.ifCond .eq 7, 3) := by decide +kernel
theorem dX11_dynastySet_116 : decode cX11_dynastySet 116 = .ok (.iload_n 3, 1) := by decide +kernel
theorem dX11_dynastySet_117 : decode cX11_dynastySet 117 = .ok (.goto 4, 3) := by decide +kernel
theorem dX11_dynastySet_120 : decode cX11_dynastySet 120 = .ok (.iload_n 2, 1) := by decide +kernel
theorem dX11_dynastySet_121 : decode cX11_dynastySet 121 = .ok (.istore_n 2, 1) := by decide +kernel
theorem dX11_dynastySet_122 : decode cX11_dynastySet 122 = .ok (.iinc 3 1, 3) := by decide +kernel
theorem dX11_dynastySet_125 : decode cX11_dynastySet 125 = .ok (.goto (-115), 3) := by decide +kernel
theorem dX11_dynastySet_128 : decode cX11_dynastySet 128 = .ok (.iload_n 2, 1) := by decide +kernel
theorem dX11_dynastySet_129 : decode cX11_dynastySet 129 = .ok (.ireturn, 1) := by decide +kernel
set_option maxRecDepth 20000 in
theorem ggX11_dynasty_X11_in : GoodIn wsX11_dynasty wsX11_in := goodIn_r _ [6] (by decide +kernel) (by decide +kernel)
set_option maxRecDepth 20000 in
theorem gX11_dynasty_X11_in : GoodIn wsX11_dynasty (va_wsS RX11 96 yX11_in wsX11_in) := goodIn_app (goodIn_of _ (by decide +kernel)) ggX11_dynasty_X11_in
set_option maxRecDepth 20000 in
theorem ggX11_dynasty_X11_dynastySet : GoodIn wsX11_dynasty wsX11_dynastySet := goodIn_r _ [10, 11, 12, 13, 14, 15, 5, 16, 17, 18, 19, 20, 21, 22, 23, 24, 25, 26, 27, 28, 29, 30, 31, 32, 33, 34, 35, 36, 37, 38, 39, 40, 41, 42, 43, 44, 45, 46, 47, 48, 49, 50, 51, 52, 53, 54, 55, 56, 57, 58, 59, 60, 61, 62, 63, 64, 65, 66, 67, 68, 69, 70, 71, 72, 73, 74, 75, 76, 77, 78, 79, 80] (by decide +kernel) (by decide +kernel)
set_option maxRecDepth 20000 in
theorem gX11_dynasty_X11_dynastySet : GoodIn wsX11_dynasty (wsV RX11 263 RX11 yX11_dynastySet wsX11_dynastySet) := goodIn_app (goodIn_of _ (by decide +kernel)) ggX11_dynasty_X11_dynastySet
set_option maxRecDepth 20000 in
theorem ggX11_dynasty_X11_bits : GoodIn wsX11_dynasty wsX11_bits := goodIn_r _ [40] (by decide +kernel) (by decide +kernel)
set_option maxRecDepth 20000 in
theorem gX11_dynasty_X11_bits : GoodIn wsX11_dynasty (va_wsS RX11 258 yX11_bits wsX11_bits) := goodIn_app (goodIn_of _ (by decide +kernel)) ggX11_dynasty_X11_bits
set_option maxRecDepth 20000 in
theorem ggX11_dynasty_X11_minutesOf : GoodIn wsX11_dynasty wsX11_minutesOf := goodIn_r _ [20, 11, 21, 22, 5, 23, 24, 25, 26, 27, 12, 28, 29, 30, 31, 32, 33, 34, 35, 36, 37, 41, 42, 43, 44, 45, 46, 47, 48, 49, 50, 51, 52, 53, 54, 55, 56, 57, 58, 59, 60, 61, 62, 63, 64, 65, 66, 67, 68, 69, 70, 71, 72, 73, 74, 75, 76, 77, 78, 79, 80] (by decide +kernel) (by decide +kernel)
set_option maxRecDepth 20000 in
theorem gX11_dynasty_X11_minutesOf : GoodIn wsX11_dynasty (wsV RX11 255 RX11 yX11_minutesOf wsX11_minutesOf) := goodIn_app (goodIn_of _ (by decide +kernel)) ggX11_dynasty_X11_minutesOf
theorem dX11_dynasty_0 : decode cX11_dynasty 0 = .ok (.iload_n 1, 1) := by decide +kernel
theorem dX11_dynasty_1 : decode cX11_dynasty 1 = .ok (.i2l, 1) := by decide +kernel
theorem dX11_dynasty_2 : decode cX11_dynasty 2 = .ok (.lconst 0, 1) := by decide +kernel
theorem dX11_dynasty_3 : decode cX11_dynasty 3 = .ok (.ldc2_w 261, 3) := by decide +kernel
theorem dX11_dynasty_6 : decode cX11_dynasty 6 = .ok (.invokestatic 96, 3) := by decide +kernel
theorem dX11_dynasty_9 : decode cX11_dynasty 9 = .ok (.ifCond .ne 6, 3) := by decide +kernel
theorem dX11_dynasty_12 : decode cX11_dynasty 12 = .ok (.ldc 105, 2) := by decide +kernel
theorem dX11_dynasty_14 : decode cX11_dynasty 14 = .ok (.ireturn, 1) := by decide +kernel
theorem dX11_dynasty_15 : decode cX11_dynasty 15 = .ok (.aload_n 0, 1) := by decide +kernel
theorem dX11_dynasty_16 : decode cX11_dynasty 16 = .ok (.invokevirtual 263, 3) := by decide +kernel
theorem dX11_dynasty_19 : decode cX11_dynasty 19 = .ok (.istore_n 2, 1) := by decide +kernel
theorem dX11_dynasty_20 : decode cX11_dynasty 20 = .ok (.iload_n 1, 1) := by decide +kernel
theorem dX11_dynasty_21 : decode cX11_dynasty 21 = .ok (.ifCond .ne 10, 3) := by decide +kernel
theorem dX11_dynasty_24 : decode cX11_dynasty 24 = .ok (.iload_n 2, 1) := by decide +kernel
theorem dX11_dynasty_25 : decode cX11_dynasty 25 = .ok (.invokestatic 258, 3) := by decide +kernel
theorem dX11_dynasty_28 : decode cX11_dynasty 28 = .ok (.goto 17, 3) := by decide +kernel
theorem dX11_dynasty_31 : decode cX11_dynasty 31 = .ok (.iload_n 1, 1) := by decide +kernel
theorem dX11_dynasty_32 : decode cX11_dynasty 32 = .ok (.iconst 1, 1) := by decide +kernel
theorem dX11_dynasty_33 : decode cX11_dynasty 33 = .ok (.if_icmp .ne 11, 3) := by decide +kernel
theorem dX11_dynasty_36 : decode cX11_dynasty 36 = .ok (.aload_n 0, 1) := by decide +kernel
theorem dX11_dynasty_37 : decode cX11_dynasty 37 = .ok (.iload_n 2, 1) := by decide +kernel
theorem dX11_dynasty_38 : decode cX11_dynasty 38 = .ok (.invokevirtual 255, 3) := by decide +kernel
theorem dX11_dynasty_41 : decode cX11_dynasty 41 = .ok (.goto 4, 3) := by decide +kernel
theorem dX11_dynasty_44 : decode cX11_dynasty 44 = .ok (.iload_n 2, 1) := by decide +kernel
theorem dX11_dynasty_45 : decode cX11_dynasty 45 = .ok (.ireturn, 1) := by decide +kernel
set_option maxRecDepth 20000 in
theorem ggX11_likes_X11_hard : GoodIn wsX11_likes wsX11_hard := goodIn_r _ [9, 2, 10, 11, 12, 8, 13, 14, 15, 19, 20, 21, 22, 23, 24, 25, 26, 27, 28, 29, 30, 31, 32, 33, 34, 35, 36, 37, 38, 39, 40, 41, 42, 43, 44, 45, 46, 47, 48, 49, 50, 51, 52, 53, 54, 55, 56, 57, 58] (by decide +kernel) (by decide +kernel)
set_option maxRecDepth 20000 in
theorem gX11_likes_X11_hard : GoodIn wsX11_likes (wsV RX11 177 RX11 yX11_hard wsX11_hard) := goodIn_app (goodIn_of _ (by decide +kernel)) ggX11_likes_X11_hard
set_option maxRecDepth 20000 in
theorem ggX11_likes_X11_in : GoodIn wsX11_likes wsX11_in := goodIn_r _ [18] (by decide +kernel) (by decide +kernel)
set_option maxRecDepth 20000 in
theorem gX11_likes_X11_in : GoodIn wsX11_likes (va_wsS RX11 96 yX11_in wsX11_in) := goodIn_app (goodIn_of _ (by decide +kernel)) ggX11_likes_X11_in
theorem dX11_likes_0 : decode cX11_likes 0 = .ok (.iload_n 2, 1) := by decide +kernel
theorem dX11_likes_1 : decode cX11_likes 1 = .ok (.aload_n 0, 1) := by decide +kernel
theorem dX11_likes_2 : decode cX11_likes 2 = .ok (.getfield 93, 3) := by decide +kernel
theorem dX11_likes_5 : decode cX11_likes 5 = .ok (.if_icmp .ge 43, 3) := by decide +kernel
theorem dX11_likes_8 : decode cX11_likes 8 = .ok (.aload_n 0, 1) := by decide +kernel
theorem dX11_likes_9 : decode cX11_likes 9 = .ok (.getfield 25, 3) := by decide +kernel
theorem dX11_likes_12 : decode cX11_likes 12 = .ok (.iload_n 2, 1) := by decide +kernel
theorem dX11_likes_13 : decode cX11_likes 13 = .ok (.iaload, 1) := by decide +kernel
theorem dX11_likes_14 : decode cX11_likes 14 = .ok (.iconst 2, 1) := by decide +kernel
theorem dX11_likes_15 : decode cX11_likes 15 = .ok (.if_icmp .ne 33, 3) := by decide +kernel
theorem dX11_likes_18 : decode cX11_likes 18 = .ok (.aload_n 0, 1) := by decide +kernel
theorem dX11_likes_19 : decode cX11_likes 19 = .ok (.iload_n 2, 1) := by decide +kernel
theorem dX11_likes_20 : decode cX11_likes 20 = .ok (.invokevirtual 177, 3) := by decide +kernel
theorem dX11_likes_23 : decode cX11_likes 23 = .ok (.i2l, 1) := by decide +kernel
theorem dX11_likes_24 : decode cX11_likes 24 = .ok (.aload_n 0, 1) := by decide +kernel
theorem dX11_likes_25 : decode cX11_likes 25 = .ok (.getfield 16, 3) := by decide +kernel
theorem dX11_likes_28 : decode cX11_likes 28 = .ok (.iload_n 1, 1) := by decide +kernel
theorem dX11_likes_29 : decode cX11_likes 29 = .ok (.iaload, 1) := by decide +kernel
theorem dX11_likes_30 : decode cX11_likes 30 = .ok (.i2l, 1) := by decide +kernel
theorem dX11_likes_31 : decode cX11_likes 31 = .ok (.aload_n 0, 1) := by decide +kernel
theorem dX11_likes_32 : decode cX11_likes 32 = .ok (.getfield 19, 3) := by decide +kernel
theorem dX11_likes_35 : decode cX11_likes 35 = .ok (.iload_n 1, 1) := by decide +kernel
theorem dX11_likes_36 : decode cX11_likes 36 = .ok (.iaload, 1) := by decide +kernel
theorem dX11_likes_37 : decode cX11_likes 37 = .ok (.i2l, 1) := by decide +kernel
theorem dX11_likes_38 : decode cX11_likes 38 = .ok (.invokestatic 96, 3) := by decide +kernel
theorem dX11_likes_41 : decode cX11_likes 41 = .ok (.ifCond .eq 7, 3) := by decide +kernel
theorem dX11_likes_44 : decode cX11_likes 44 = .ok (.iconst 1, 1) := by decide +kernel
theorem dX11_likes_45 : decode cX11_likes 45 = .ok (.goto 4, 3) := by decide +kernel
theorem dX11_likes_48 : decode cX11_likes 48 = .ok (.iconst 0, 1) := by decide +kernel
theorem dX11_likes_49 : decode cX11_likes 49 = .ok (.ireturn, 1) := by decide +kernel
set_option maxRecDepth 20000 in
theorem ggX11_giveBy_X11_likes : GoodIn wsX11_giveBy wsX11_likes := goodIn_r _ [7, 8, 9, 10, 11, 12, 13, 14, 6, 15, 16, 17, 18, 19, 20, 21, 22, 23, 24, 28, 29, 30, 31, 32, 33, 34, 35, 36, 37, 38, 39, 40, 41, 42, 43, 44, 45, 46, 47, 48, 49, 50, 51, 52, 53, 54, 55, 56, 57, 58, 59, 60, 61, 62, 63, 64, 65, 66, 67] (by decide +kernel) (by decide +kernel)
set_option maxRecDepth 20000 in
theorem gX11_giveBy_X11_likes : GoodIn wsX11_giveBy (wsV RX11 266 RX11 yX11_likes wsX11_likes) := goodIn_app (goodIn_of _ (by decide +kernel)) ggX11_giveBy_X11_likes
set_option maxRecDepth 20000 in
theorem ggX11_giveBy_X11_has : GoodIn wsX11_giveBy wsX11_has := goodIn_r _ [27] (by decide +kernel) (by decide +kernel)
set_option maxRecDepth 20000 in
theorem gX11_giveBy_X11_has : GoodIn wsX11_giveBy (va_wsS RX11 247 yX11_has wsX11_has) := goodIn_app (goodIn_of _ (by decide +kernel)) ggX11_giveBy_X11_has
theorem dX11_giveBy_0 : decode cX11_giveBy 0 = .ok (.iload_n 1, 1) := by decide +kernel
theorem dX11_giveBy_1 : decode cX11_giveBy 1 = .ok (.istore_n 2, 1) := by decide +kernel
theorem dX11_giveBy_2 : decode cX11_giveBy 2 = .ok (.iconst 0, 1) := by decide +kernel
theorem dX11_giveBy_3 : decode cX11_giveBy 3 = .ok (.istore_n 3, 1) := by decide +kernel
theorem dX11_giveBy_4 : decode cX11_giveBy 4 = .ok (.iconst 0, 1) := by decide +kernel
theorem dX11_giveBy_5 : decode cX11_giveBy 5 = .ok (.istore 4, 2) := by decide +kernel
theorem dX11_giveBy_7 : decode cX11_giveBy 7 = .ok (.aload_n 0, 1) := by decide +kernel
theorem dX11_giveBy_8 : decode cX11_giveBy 8 = .ok (.getfield 100, 3) := by decide +kernel
theorem dX11_giveBy_11 : decode cX11_giveBy 11 = .ok (.iconst 1, 1) := by decide +kernel
theorem dX11_giveBy_12 : decode cX11_giveBy 12 = .ok (.isub, 1) := by decide +kernel
theorem dX11_giveBy_13 : decode cX11_giveBy 13 = .ok (.istore 5, 2) := by decide +kernel
theorem dX11_giveBy_15 : decode cX11_giveBy 15 = .ok (.iload 5, 2) := by decide +kernel
theorem dX11_giveBy_17 : decode cX11_giveBy 17 = .ok (.ifCond .lt 84, 3) := by decide +kernel
theorem dX11_giveBy_20 : decode cX11_giveBy 20 = .ok (.aload_n 0, 1) := by decide +kernel
theorem dX11_giveBy_21 : decode cX11_giveBy 21 = .ok (.getfield 62, 3) := by decide +kernel
theorem dX11_giveBy_24 : decode cX11_giveBy 24 = .ok (.iload 5, 2) := by decide +kernel
theorem dX11_giveBy_26 : decode cX11_giveBy 26 = .ok (.iload_n 2, 1) := by decide +kernel
theorem dX11_giveBy_27 : decode cX11_giveBy 27 = .ok (.bipush 8, 2) := by decide +kernel
theorem dX11_giveBy_29 : decode cX11_giveBy 29 = .ok (.irem, 1) := by decide +kernel
theorem dX11_giveBy_30 : decode cX11_giveBy 30 = .ok (.iastore, 1) := by decide +kernel
theorem dX11_giveBy_31 : decode cX11_giveBy 31 = .ok (.iload_n 2, 1) := by decide +kernel
theorem dX11_giveBy_32 : decode cX11_giveBy 32 = .ok (.bipush 8, 2) := by decide +kernel
theorem dX11_giveBy_34 : decode cX11_giveBy 34 = .ok (.idiv, 1) := by decide +kernel
theorem dX11_giveBy_35 : decode cX11_giveBy 35 = .ok (.istore_n 2, 1) := by decide +kernel
theorem dX11_giveBy_36 : decode cX11_giveBy 36 = .ok (.aload_n 0, 1) := by decide +kernel
theorem dX11_giveBy_37 : decode cX11_giveBy 37 = .ok (.getfield 62, 3) := by decide +kernel
theorem dX11_giveBy_40 : decode cX11_giveBy 40 = .ok (.iload 5, 2) := by decide +kernel
theorem dX11_giveBy_42 : decode cX11_giveBy 42 = .ok (.iaload, 1) := by decide +kernel
theorem dX11_giveBy_43 : decode cX11_giveBy 43 = .ok (.bipush 7, 2) := by decide +kernel
theorem dX11_giveBy_45 : decode cX11_giveBy 45 = .ok (.if_icmp .ge 50, 3) := by decide +kernel
theorem dX11_giveBy_48 : decode cX11_giveBy 48 = .ok (.aload_n 0, 1) := by decide +kernel
theorem dX11_giveBy_49 : decode cX11_giveBy 49 = .ok (.iload 5, 2) := by decide +kernel
theorem dX11_giveBy_51 : decode cX11_giveBy 51 = .ok (.aload_n 0, 1) := by decide +kernel
theorem dX11_giveBy_52 : decode cX11_giveBy 52 = .ok (.getfield 62, 3) := by decide +kernel
theorem dX11_giveBy_55 : decode cX11_giveBy 55 = .ok (.iload 5, 2) := by decide +kernel
theorem dX11_giveBy_57 : decode cX11_giveBy 57 = .ok (.iaload, 1) := by decide +kernel
theorem dX11_giveBy_58 : decode cX11_giveBy 58 = .ok (.invokevirtual 266, 3) := by decide +kernel
theorem dX11_giveBy_61 : decode cX11_giveBy 61 = .ok (.ifCond .eq 17, 3) := by decide +kernel
theorem dX11_giveBy_64 : decode cX11_giveBy 64 = .ok (.iload_n 3, 1) := by decide +kernel
theorem dX11_giveBy_65 : decode cX11_giveBy 65 = .ok (.aload_n 0, 1) := by decide +kernel
theorem dX11_giveBy_66 : decode cX11_giveBy 66 = .ok (.getfield 62, 3) := by decide +kernel
theorem dX11_giveBy_69 : decode cX11_giveBy 69 = .ok (.iload 5, 2) := by decide +kernel
theorem dX11_giveBy_71 : decode cX11_giveBy 71 = .ok (.iaload, 1) := by decide +kernel
theorem dX11_giveBy_72 : decode cX11_giveBy 72 = .ok (.invokestatic 247, 3) := by decide +kernel
theorem dX11_giveBy_75 : decode cX11_giveBy 75 = .ok (.ifCond .eq 5, 3) := by decide +kernel
theorem dX11_giveBy_78 : decode cX11_giveBy 78 = .ok (.iconst (-1), 1) := by decide +kernel
theorem dX11_giveBy_79 : decode cX11_giveBy 79 = .ok (.ireturn, 1) := by decide +kernel
theorem dX11_giveBy_80 : decode cX11_giveBy 80 = .ok (.iload_n 3, 1) := by decide +kernel
theorem dX11_giveBy_81 : decode cX11_giveBy 81 = .ok (.iconst 1, 1) := by decide +kernel
theorem dX11_giveBy_82 : decode cX11_giveBy 82 = .ok (.aload_n 0, 1) := by decide +kernel
theorem dX11_giveBy_83 : decode cX11_giveBy 83 = .ok (.getfield 62, 3) := by decide +kernel
theorem dX11_giveBy_86 : decode cX11_giveBy 86 = .ok (.iload 5, 2) := by decide +kernel
theorem dX11_giveBy_88 : decode cX11_giveBy 88 = .ok (.iaload, 1) := by decide +kernel
theorem dX11_giveBy_89 : decode cX11_giveBy 89 = .ok (.ishl, 1) := by decide +kernel
theorem dX11_giveBy_90 : decode cX11_giveBy 90 = .ok (.ior, 1) := by decide +kernel
theorem dX11_giveBy_91 : decode cX11_giveBy 91 = .ok (.istore_n 3, 1) := by decide +kernel
theorem dX11_giveBy_92 : decode cX11_giveBy 92 = .ok (.iinc 4 1, 3) := by decide +kernel
theorem dX11_giveBy_95 : decode cX11_giveBy 95 = .ok (.iinc 5 (-1), 3) := by decide +kernel
theorem dX11_giveBy_98 : decode cX11_giveBy 98 = .ok (.goto (-83), 3) := by decide +kernel
theorem dX11_giveBy_101 : decode cX11_giveBy 101 = .ok (.iload 4, 2) := by decide +kernel
theorem dX11_giveBy_103 : decode cX11_giveBy 103 = .ok (.ireturn, 1) := by decide +kernel
set_option maxRecDepth 20000 in
theorem ggX11_liked_X11_isEater : GoodIn wsX11_liked wsX11_isEater := goodIn_r _ [9, 2, 10, 11, 8, 12, 38, 39, 40, 41, 42, 43, 44, 45, 46, 47, 48, 49, 50, 51, 52, 53, 54, 55, 56, 57, 58, 59, 60, 61, 62, 63, 64, 65, 66, 67, 68, 69, 70, 71, 72, 73, 74, 75, 76, 77] (by decide +kernel) (by decide +kernel)
set_option maxRecDepth 20000 in
theorem gX11_liked_X11_isEater : GoodIn wsX11_liked (wsV RX11 201 RX11 yX11_isEater wsX11_isEater) := goodIn_app (goodIn_of _ (by decide +kernel)) ggX11_liked_X11_isEater
set_option maxRecDepth 20000 in
theorem ggX11_liked_X11_giveBy : GoodIn wsX11_liked wsX11_giveBy := goodIn_r _ [16, 2, 4, 17, 18, 19, 8, 20, 21, 22, 23, 24, 25, 26, 27, 28, 29, 30, 31, 32, 33, 34, 10, 11, 12, 35, 36, 37, 38, 39, 40, 41, 42, 43, 44, 45, 46, 47, 48, 49, 50, 51, 52, 53, 54, 55, 56, 57, 58, 59, 60, 61, 62, 63, 64, 65, 66, 67, 68, 69, 70, 71, 72, 73, 74, 75, 76, 77] (by decide +kernel) (by decide +kernel)
set_option maxRecDepth 20000 in
theorem gX11_liked_X11_giveBy : GoodIn wsX11_liked (wsV RX11 269 RX11 yX11_giveBy wsX11_giveBy) := goodIn_app (goodIn_of _ (by decide +kernel)) ggX11_liked_X11_giveBy
theorem dX11_liked_0 : decode cX11_liked 0 = .ok (.iload_n 1, 1) := by decide +kernel
theorem dX11_liked_1 : decode cX11_liked 1 = .ok (.iconst (-1), 1) := by decide +kernel
theorem dX11_liked_2 : decode cX11_liked 2 = .ok (.if_icmp .eq 14, 3) := by decide +kernel
theorem dX11_liked_5 : decode cX11_liked 5 = .ok (.aload_n 0, 1) := by decide +kernel
theorem dX11_liked_6 : decode cX11_liked 6 = .ok (.iload_n 1, 1) := by decide +kernel
theorem dX11_liked_7 : decode cX11_liked 7 = .ok (.invokevirtual 201, 3) := by decide +kernel
theorem dX11_liked_10 : decode cX11_liked 10 = .ok (.ifCond .ne 6, 3) := by decide +kernel
theorem dX11_liked_13 : decode cX11_liked 13 = .ok (.ldc 200, 2) := by decide +kernel
theorem dX11_liked_15 : decode cX11_liked 15 = .ok (.ireturn, 1) := by decide +kernel
theorem dX11_liked_16 : decode cX11_liked 16 = .ok (.iconst 1, 1) := by decide +kernel
theorem dX11_liked_17 : decode cX11_liked 17 = .ok (.istore_n 2, 1) := by decide +kernel
theorem dX11_liked_18 : decode cX11_liked 18 = .ok (.iconst 0, 1) := by decide +kernel
theorem dX11_liked_19 : decode cX11_liked 19 = .ok (.istore_n 3, 1) := by decide +kernel
theorem dX11_liked_20 : decode cX11_liked 20 = .ok (.iload_n 3, 1) := by decide +kernel
theorem dX11_liked_21 : decode cX11_liked 21 = .ok (.aload_n 0, 1) := by decide +kernel
theorem dX11_liked_22 : decode cX11_liked 22 = .ok (.getfield 100, 3) := by decide +kernel
theorem dX11_liked_25 : decode cX11_liked 25 = .ok (.if_icmp .ge 14, 3) := by decide +kernel
theorem dX11_liked_28 : decode cX11_liked 28 = .ok (.iload_n 2, 1) := by decide +kernel
theorem dX11_liked_29 : decode cX11_liked 29 = .ok (.bipush 8, 2) := by decide +kernel
theorem dX11_liked_31 : decode cX11_liked 31 = .ok (.imul, 1) := by decide +kernel
theorem dX11_liked_32 : decode cX11_liked 32 = .ok (.istore_n 2, 1) := by decide +kernel
theorem dX11_liked_33 : decode cX11_liked 33 = .ok (.iinc 3 1, 3) := by decide +kernel
theorem dX11_liked_36 : decode cX11_liked 36 = .ok (.goto (-16), 3) := by decide +kernel
theorem dX11_liked_39 : decode cX11_liked 39 = .ok (.iconst (-1), 1) := by decide +kernel
theorem dX11_liked_40 : decode cX11_liked 40 = .ok (.istore_n 3, 1) := by decide +kernel
theorem dX11_liked_41 : decode cX11_liked 41 = .ok (.iconst 0, 1) := by decide +kernel
theorem dX11_liked_42 : decode cX11_liked 42 = .ok (.istore 4, 2) := by decide +kernel
theorem dX11_liked_44 : decode cX11_liked 44 = .ok (.iload 4, 2) := by decide +kernel
theorem dX11_liked_46 : decode cX11_liked 46 = .ok (.iload_n 2, 1) := by decide +kernel
theorem dX11_liked_47 : decode cX11_liked 47 = .ok (.if_icmp .ge 58, 3) := by decide +kernel
theorem dX11_liked_50 : decode cX11_liked 50 = .ok (.aload_n 0, 1) := by decide +kernel
theorem dX11_liked_51 : decode cX11_liked 51 = .ok (.iload 4, 2) := by decide +kernel
theorem dX11_liked_53 : decode cX11_liked 53 = .ok (.invokevirtual 269, 3) := by decide +kernel
theorem dX11_liked_56 : decode cX11_liked 56 = .ok (.istore 5, 2) := by decide +kernel
theorem dX11_liked_58 : decode cX11_liked 58 = .ok (.iload 5, 2) := by decide +kernel
theorem dX11_liked_60 : decode cX11_liked 60 = .ok (.iload_n 3, 1) := by decide +kernel
theorem dX11_liked_61 : decode cX11_liked 61 = .ok (.if_icmp .le 38, 3) := by decide +kernel
theorem dX11_liked_64 : decode cX11_liked 64 = .ok (.iload 5, 2) := by decide +kernel
theorem dX11_liked_66 : decode cX11_liked 66 = .ok (.istore_n 3, 1) := by decide +kernel
theorem dX11_liked_67 : decode cX11_liked 67 = .ok (.iconst 0, 1) := by decide +kernel
theorem dX11_liked_68 : decode cX11_liked 68 = .ok (.istore 6, 2) := by decide +kernel
theorem dX11_liked_70 : decode cX11_liked 70 = .ok (.iload 6, 2) := by decide +kernel
theorem dX11_liked_72 : decode cX11_liked 72 = .ok (.aload_n 0, 1) := by decide +kernel
theorem dX11_liked_73 : decode cX11_liked 73 = .ok (.getfield 100, 3) := by decide +kernel
theorem dX11_liked_76 : decode cX11_liked 76 = .ok (.if_icmp .ge 23, 3) := by decide +kernel
theorem dX11_liked_79 : decode cX11_liked 79 = .ok (.aload_n 0, 1) := by decide +kernel
theorem dX11_liked_80 : decode cX11_liked 80 = .ok (.getfield 65, 3) := by decide +kernel
theorem dX11_liked_83 : decode cX11_liked 83 = .ok (.iload 6, 2) := by decide +kernel
theorem dX11_liked_85 : decode cX11_liked 85 = .ok (.aload_n 0, 1) := by decide +kernel
theorem dX11_liked_86 : decode cX11_liked 86 = .ok (.getfield 62, 3) := by decide +kernel
theorem dX11_liked_89 : decode cX11_liked 89 = .ok (.iload 6, 2) := by decide +kernel
theorem dX11_liked_91 : decode cX11_liked 91 = .ok (.iaload, 1) := by decide +kernel
theorem dX11_liked_92 : decode cX11_liked 92 = .ok (.iastore, 1) := by decide +kernel
theorem dX11_liked_93 : decode cX11_liked 93 = .ok (.iinc 6 1, 3) := by decide +kernel
theorem dX11_liked_96 : decode cX11_liked 96 = .ok (.goto (-26), 3) := by decide +kernel
theorem dX11_liked_99 : decode cX11_liked 99 = .ok (.iinc 4 1, 3) := by decide +kernel
theorem dX11_liked_102 : decode cX11_liked 102 = .ok (.goto (-58), 3) := by decide +kernel
theorem dX11_liked_105 : decode cX11_liked 105 = .ok (.iload_n 1, 1) := by decide +kernel
theorem dX11_liked_106 : decode cX11_liked 106 = .ok (.iconst (-1), 1) := by decide +kernel
theorem dX11_liked_107 : decode cX11_liked 107 = .ok (.if_icmp .ne 7, 3) := by decide +kernel
theorem dX11_liked_110 : decode cX11_liked 110 = .ok (.iload_n 3, 1) := by decide +kernel
theorem dX11_liked_111 : decode cX11_liked 111 = .ok (.goto 24, 3) := by decide +kernel
theorem dX11_liked_114 : decode cX11_liked 114 = .ok (.aload_n 0, 1) := by decide +kernel
theorem dX11_liked_115 : decode cX11_liked 115 = .ok (.getfield 65, 3) := by decide +kernel
theorem dX11_liked_118 : decode cX11_liked 118 = .ok (.iload_n 1, 1) := by decide +kernel
theorem dX11_liked_119 : decode cX11_liked 119 = .ok (.iaload, 1) := by decide +kernel
theorem dX11_liked_120 : decode cX11_liked 120 = .ok (.bipush 7, 2) := by decide +kernel
theorem dX11_liked_122 : decode cX11_liked 122 = .ok (.if_icmp .ne 7, 3) := by decide +kernel
theorem dX11_liked_125 : decode cX11_liked 125 = .ok (.iconst (-1), 1) := by decide +kernel
theorem dX11_liked_126 : decode cX11_liked 126 = .ok (.goto 9, 3) := by decide +kernel
theorem dX11_liked_129 : decode cX11_liked 129 = .ok (.aload_n 0, 1) := by decide +kernel
theorem dX11_liked_130 : decode cX11_liked 130 = .ok (.getfield 65, 3) := by decide +kernel
theorem dX11_liked_133 : decode cX11_liked 133 = .ok (.iload_n 1, 1) := by decide +kernel
theorem dX11_liked_134 : decode cX11_liked 134 = .ok (.iaload, 1) := by decide +kernel
theorem dX11_liked_135 : decode cX11_liked 135 = .ok (.ireturn, 1) := by decide +kernel
set_option maxRecDepth 20000 in
theorem ggX11_goose_X11_isEater : GoodIn wsX11_goose wsX11_isEater := goodIn_r _ [9, 3, 10, 11, 8, 12, 13, 14, 15, 16, 17, 18, 19, 20, 21, 22, 23, 24, 25, 26, 27, 28, 29, 30, 31, 32, 33, 34, 35, 36, 37, 38, 39, 40, 41, 42, 43, 44, 45, 46, 47, 48, 49, 50, 51, 52] (by decide +kernel) (by decide +kernel)
set_option maxRecDepth 20000 in
theorem gX11_goose_X11_isEater : GoodIn wsX11_goose (wsV RX11 201 RX11 yX11_isEater wsX11_isEater) := goodIn_app (goodIn_of _ (by decide +kernel)) ggX11_goose_X11_isEater
set_option maxRecDepth 20000 in
theorem ggX11_goose_X11_in : GoodIn wsX11_goose wsX11_in := goodIn_r _ [12] (by decide +kernel) (by decide +kernel)
set_option maxRecDepth 20000 in
theorem gX11_goose_X11_in : GoodIn wsX11_goose (va_wsS RX11 96 yX11_in wsX11_in) := goodIn_app (goodIn_of _ (by decide +kernel)) ggX11_goose_X11_in
theorem dX11_goose_0 : decode cX11_goose 0 = .ok (.aload_n 0, 1) := by decide +kernel
theorem dX11_goose_1 : decode cX11_goose 1 = .ok (.iload_n 2, 1) := by decide +kernel
theorem dX11_goose_2 : decode cX11_goose 2 = .ok (.invokevirtual 201, 3) := by decide +kernel
theorem dX11_goose_5 : decode cX11_goose 5 = .ok (.ifCond .ne 6, 3) := by decide +kernel
theorem dX11_goose_8 : decode cX11_goose 8 = .ok (.ldc 200, 2) := by decide +kernel
theorem dX11_goose_10 : decode cX11_goose 10 = .ok (.ireturn, 1) := by decide +kernel
theorem dX11_goose_11 : decode cX11_goose 11 = .ok (.iload_n 1, 1) := by decide +kernel
theorem dX11_goose_12 : decode cX11_goose 12 = .ok (.i2l, 1) := by decide +kernel
theorem dX11_goose_13 : decode cX11_goose 13 = .ok (.lconst 0, 1) := by decide +kernel
theorem dX11_goose_14 : decode cX11_goose 14 = .ok (.ldc2_w 272, 3) := by decide +kernel
theorem dX11_goose_17 : decode cX11_goose 17 = .ok (.invokestatic 96, 3) := by decide +kernel
theorem dX11_goose_20 : decode cX11_goose 20 = .ok (.ifCond .eq 28, 3) := by decide +kernel
theorem dX11_goose_23 : decode cX11_goose 23 = .ok (.iload_n 1, 1) := by decide +kernel
theorem dX11_goose_24 : decode cX11_goose 24 = .ok (.aload_n 0, 1) := by decide +kernel
theorem dX11_goose_25 : decode cX11_goose 25 = .ok (.getfield 100, 3) := by decide +kernel
theorem dX11_goose_28 : decode cX11_goose 28 = .ok (.idiv, 1) := by decide +kernel
theorem dX11_goose_29 : decode cX11_goose 29 = .ok (.iload_n 2, 1) := by decide +kernel
theorem dX11_goose_30 : decode cX11_goose 30 = .ok (.iload_n 1, 1) := by decide +kernel
theorem dX11_goose_31 : decode cX11_goose 31 = .ok (.aload_n 0, 1) := by decide +kernel
theorem dX11_goose_32 : decode cX11_goose 32 = .ok (.getfield 100, 3) := by decide +kernel
theorem dX11_goose_35 : decode cX11_goose 35 = .ok (.irem, 1) := by decide +kernel
theorem dX11_goose_36 : decode cX11_goose 36 = .ok (.if_icmp .ge 7, 3) := by decide +kernel
theorem dX11_goose_39 : decode cX11_goose 39 = .ok (.iconst 1, 1) := by decide +kernel
theorem dX11_goose_40 : decode cX11_goose 40 = .ok (.goto 4, 3) := by decide +kernel
theorem dX11_goose_43 : decode cX11_goose 43 = .ok (.iconst 0, 1) := by decide +kernel
theorem dX11_goose_44 : decode cX11_goose 44 = .ok (.iadd, 1) := by decide +kernel
theorem dX11_goose_45 : decode cX11_goose 45 = .ok (.goto 5, 3) := by decide +kernel
theorem dX11_goose_48 : decode cX11_goose 48 = .ok (.ldc 105, 2) := by decide +kernel
theorem dX11_goose_50 : decode cX11_goose 50 = .ok (.ireturn, 1) := by decide +kernel
set_option maxRecDepth 20000 in
theorem ggX11_whole_X11_in : GoodIn wsX11_whole wsX11_in := goodIn_r _ [8] (by decide +kernel) (by decide +kernel)
set_option maxRecDepth 20000 in
theorem gX11_whole_X11_in : GoodIn wsX11_whole (va_wsS RX11 96 yX11_in wsX11_in) := goodIn_app (goodIn_of _ (by decide +kernel)) ggX11_whole_X11_in
theorem dX11_whole_0 : decode cX11_whole 0 = .ok (.iload_n 1, 1) := by decide +kernel
theorem dX11_whole_1 : decode cX11_whole 1 = .ok (.i2l, 1) := by decide +kernel
theorem dX11_whole_2 : decode cX11_whole 2 = .ok (.lconst 0, 1) := by decide +kernel
theorem dX11_whole_3 : decode cX11_whole 3 = .ok (.ldc2_w 204, 3) := by decide +kernel
theorem dX11_whole_6 : decode cX11_whole 6 = .ok (.invokestatic 96, 3) := by decide +kernel
theorem dX11_whole_9 : decode cX11_whole 9 = .ok (.ifCond .eq 15, 3) := by decide +kernel
theorem dX11_whole_12 : decode cX11_whole 12 = .ok (.iload_n 2, 1) := by decide +kernel
theorem dX11_whole_13 : decode cX11_whole 13 = .ok (.i2l, 1) := by decide +kernel
theorem dX11_whole_14 : decode cX11_whole 14 = .ok (.lconst 0, 1) := by decide +kernel
theorem dX11_whole_15 : decode cX11_whole 15 = .ok (.ldc2_w 274, 3) := by decide +kernel
theorem dX11_whole_18 : decode cX11_whole 18 = .ok (.invokestatic 96, 3) := by decide +kernel
theorem dX11_whole_21 : decode cX11_whole 21 = .ok (.ifCond .ne 6, 3) := by decide +kernel
theorem dX11_whole_24 : decode cX11_whole 24 = .ok (.ldc 105, 2) := by decide +kernel
theorem dX11_whole_26 : decode cX11_whole 26 = .ok (.ireturn, 1) := by decide +kernel
theorem dX11_whole_27 : decode cX11_whole 27 = .ok (.ldc2_w 276, 3) := by decide +kernel
theorem dX11_whole_30 : decode cX11_whole 30 = .ok (.lstore_n 3, 1) := by decide +kernel
theorem dX11_whole_31 : decode cX11_whole 31 = .ok (.iconst 0, 1) := by decide +kernel
theorem dX11_whole_32 : decode cX11_whole 32 = .ok (.istore 5, 2) := by decide +kernel
theorem dX11_whole_34 : decode cX11_whole 34 = .ok (.iload 5, 2) := by decide +kernel
theorem dX11_whole_36 : decode cX11_whole 36 = .ok (.iload_n 1, 1) := by decide +kernel
theorem dX11_whole_37 : decode cX11_whole 37 = .ok (.if_icmp .ge 21, 3) := by decide +kernel
theorem dX11_whole_40 : decode cX11_whole 40 = .ok (.lload_n 3, 1) := by decide +kernel
theorem dX11_whole_41 : decode cX11_whole 41 = .ok (.bipush 100, 2) := by decide +kernel
theorem dX11_whole_43 : decode cX11_whole 43 = .ok (.iload_n 2, 1) := by decide +kernel
theorem dX11_whole_44 : decode cX11_whole 44 = .ok (.isub, 1) := by decide +kernel
theorem dX11_whole_45 : decode cX11_whole 45 = .ok (.i2l, 1) := by decide +kernel
theorem dX11_whole_46 : decode cX11_whole 46 = .ok (.lmul, 1) := by decide +kernel
theorem dX11_whole_47 : decode cX11_whole 47 = .ok (.ldc2_w 274, 3) := by decide +kernel
theorem dX11_whole_50 : decode cX11_whole 50 = .ok (.ldiv, 1) := by decide +kernel
theorem dX11_whole_51 : decode cX11_whole 51 = .ok (.lstore_n 3, 1) := by decide +kernel
theorem dX11_whole_52 : decode cX11_whole 52 = .ok (.iinc 5 1, 3) := by decide +kernel
theorem dX11_whole_55 : decode cX11_whole 55 = .ok (.goto (-21), 3) := by decide +kernel
theorem dX11_whole_58 : decode cX11_whole 58 = .ok (.lload_n 3, 1) := by decide +kernel
theorem dX11_whole_59 : decode cX11_whole 59 = .ok (.l2i, 1) := by decide +kernel
theorem dX11_whole_60 : decode cX11_whole 60 = .ok (.ireturn, 1) := by decide +kernel
set_option maxRecDepth 20000 in
theorem ggX11_see_X11_in : GoodIn wsX11_see wsX11_in := goodIn_r _ [11] (by decide +kernel) (by decide +kernel)
set_option maxRecDepth 20000 in
theorem gX11_see_X11_in : GoodIn wsX11_see (va_wsS RX11 96 yX11_in wsX11_in) := goodIn_app (goodIn_of _ (by decide +kernel)) ggX11_see_X11_in
theorem dX11_see_0 : decode cX11_see 0 = .ok (.iload_n 1, 1) := by decide +kernel
theorem dX11_see_1 : decode cX11_see 1 = .ok (.i2l, 1) := by decide +kernel
theorem dX11_see_2 : decode cX11_see 2 = .ok (.lconst 1, 1) := by decide +kernel
theorem dX11_see_3 : decode cX11_see 3 = .ok (.ldc2_w 278, 3) := by decide +kernel
theorem dX11_see_6 : decode cX11_see 6 = .ok (.invokestatic 96, 3) := by decide +kernel
theorem dX11_see_9 : decode cX11_see 9 = .ok (.ifCond .eq 15, 3) := by decide +kernel
theorem dX11_see_12 : decode cX11_see 12 = .ok (.iload_n 2, 1) := by decide +kernel
theorem dX11_see_13 : decode cX11_see 13 = .ok (.i2l, 1) := by decide +kernel
theorem dX11_see_14 : decode cX11_see 14 = .ok (.lconst 0, 1) := by decide +kernel
theorem dX11_see_15 : decode cX11_see 15 = .ok (.ldc2_w 280, 3) := by decide +kernel
theorem dX11_see_18 : decode cX11_see 18 = .ok (.invokestatic 96, 3) := by decide +kernel
theorem dX11_see_21 : decode cX11_see 21 = .ok (.ifCond .ne 6, 3) := by decide +kernel
theorem dX11_see_24 : decode cX11_see 24 = .ok (.ldc 105, 2) := by decide +kernel
theorem dX11_see_26 : decode cX11_see 26 = .ok (.ireturn, 1) := by decide +kernel
theorem dX11_see_27 : decode cX11_see 27 = .ok (.aload_n 0, 1) := by decide +kernel
theorem dX11_see_28 : decode cX11_see 28 = .ok (.getfield 162, 3) := by decide +kernel
theorem dX11_see_31 : decode cX11_see 31 = .ok (.bipush 6, 2) := by decide +kernel
theorem dX11_see_33 : decode cX11_see 33 = .ok (.if_icmp .ne 6, 3) := by decide +kernel
theorem dX11_see_36 : decode cX11_see 36 = .ok (.ldc 109, 2) := by decide +kernel
theorem dX11_see_38 : decode cX11_see 38 = .ok (.ireturn, 1) := by decide +kernel
theorem dX11_see_39 : decode cX11_see 39 = .ok (.aload_n 0, 1) := by decide +kernel
theorem dX11_see_40 : decode cX11_see 40 = .ok (.getfield 68, 3) := by decide +kernel
theorem dX11_see_43 : decode cX11_see 43 = .ok (.aload_n 0, 1) := by decide +kernel
theorem dX11_see_44 : decode cX11_see 44 = .ok (.getfield 162, 3) := by decide +kernel
theorem dX11_see_47 : decode cX11_see 47 = .ok (.iload_n 1, 1) := by decide +kernel
theorem dX11_see_48 : decode cX11_see 48 = .ok (.iastore, 1) := by decide +kernel
theorem dX11_see_49 : decode cX11_see 49 = .ok (.aload_n 0, 1) := by decide +kernel
theorem dX11_see_50 : decode cX11_see 50 = .ok (.getfield 71, 3) := by decide +kernel
theorem dX11_see_53 : decode cX11_see 53 = .ok (.aload_n 0, 1) := by decide +kernel
theorem dX11_see_54 : decode cX11_see 54 = .ok (.getfield 162, 3) := by decide +kernel
theorem dX11_see_57 : decode cX11_see 57 = .ok (.iload_n 2, 1) := by decide +kernel
theorem dX11_see_58 : decode cX11_see 58 = .ok (.iastore, 1) := by decide +kernel
theorem dX11_see_59 : decode cX11_see 59 = .ok (.aload_n 0, 1) := by decide +kernel
theorem dX11_see_60 : decode cX11_see 60 = .ok (.dup, 1) := by decide +kernel
theorem dX11_see_61 : decode cX11_see 61 = .ok (.getfield 162, 3) := by decide +kernel
theorem dX11_see_64 : decode cX11_see 64 = .ok (.iconst 1, 1) := by decide +kernel
theorem dX11_see_65 : decode cX11_see 65 = .ok (.iadd, 1) := by decide +kernel
theorem dX11_see_66 : decode cX11_see 66 = .ok (.putfield 162, 3) := by decide +kernel
theorem dX11_see_69 : decode cX11_see 69 = .ok (.aload_n 0, 1) := by decide +kernel
theorem dX11_see_70 : decode cX11_see 70 = .ok (.getfield 162, 3) := by decide +kernel
theorem dX11_see_73 : decode cX11_see 73 = .ok (.ireturn, 1) := by decide +kernel
theorem dX11_couldBe_0 : decode cX11_couldBe 0 = .ok (.iconst 1, 1) := by decide +kernel
theorem dX11_couldBe_1 : decode cX11_couldBe 1 = .ok (.istore_n 2, 1) := by decide +kernel
theorem dX11_couldBe_2 : decode cX11_couldBe 2 = .ok (.iconst 0, 1) := by decide +kernel
theorem dX11_couldBe_3 : decode cX11_couldBe 3 = .ok (.istore_n 3, 1) := by decide +kernel
theorem dX11_couldBe_4 : decode cX11_couldBe 4 = .ok (.iload_n 3, 1) := by decide +kernel
theorem dX11_couldBe_5 : decode cX11_couldBe 5 = .ok (.aload_n 0, 1) := by decide +kernel
theorem dX11_couldBe_6 : decode cX11_couldBe 6 = .ok (.getfield 162, 3) := by decide +kernel
theorem dX11_couldBe_9 : decode cX11_couldBe 9 = .ok (.if_icmp .ge 36, 3) := by decide +kernel
theorem dX11_couldBe_12 : decode cX11_couldBe 12 = .ok (.iload_n 2, 1) := by decide +kernel
theorem dX11_couldBe_13 : decode cX11_couldBe 13 = .ok (.ifCond .eq 24, 3) := by decide +kernel
theorem dX11_couldBe_16 : decode cX11_couldBe 16 = .ok (.iload_n 1, 1) := by decide +kernel
theorem dX11_couldBe_17 : decode cX11_couldBe 17 = .ok (.aload_n 0, 1) := by decide +kernel
theorem dX11_couldBe_18 : decode cX11_couldBe 18 = .ok (.getfield 68, 3) := by decide +kernel
theorem dX11_couldBe_21 : decode cX11_couldBe 21 = .ok (.iload_n 3, 1) := by decide +kernel
theorem dX11_couldBe_22 : decode cX11_couldBe 22 = .ok (.iaload, 1) := by decide +kernel
theorem dX11_couldBe_23 : decode cX11_couldBe 23 = .ok (.idiv, 1) := by decide +kernel
theorem dX11_couldBe_24 : decode cX11_couldBe 24 = .ok (.aload_n 0, 1) := by decide +kernel
theorem dX11_couldBe_25 : decode cX11_couldBe 25 = .ok (.getfield 71, 3) := by decide +kernel
theorem dX11_couldBe_28 : decode cX11_couldBe 28 = .ok (.iload_n 3, 1) := by decide +kernel
theorem dX11_couldBe_29 : decode cX11_couldBe 29 = .ok (.iaload, 1) := by decide +kernel
theorem dX11_couldBe_30 : decode cX11_couldBe 30 = .ok (.if_icmp .ne 7, 3) := by decide +kernel
theorem dX11_couldBe_33 : decode cX11_couldBe 33 = .ok (.iconst 1, 1) := by decide +kernel
theorem dX11_couldBe_34 : decode cX11_couldBe 34 = .ok (.goto 4, 3) := by decide +kernel
theorem dX11_couldBe_37 : decode cX11_couldBe 37 = .ok (.iconst 0, 1) := by decide +kernel
theorem dX11_couldBe_38 : decode cX11_couldBe 38 = .ok (.istore_n 2, 1) := by decide +kernel
theorem dX11_couldBe_39 : decode cX11_couldBe 39 = .ok (.iinc 3 1, 3) := by decide +kernel
theorem dX11_couldBe_42 : decode cX11_couldBe 42 = .ok (.goto (-38), 3) := by decide +kernel
theorem dX11_couldBe_45 : decode cX11_couldBe 45 = .ok (.iload_n 2, 1) := by decide +kernel
theorem dX11_couldBe_46 : decode cX11_couldBe 46 = .ok (.ireturn, 1) := by decide +kernel
set_option maxRecDepth 20000 in
theorem ggX11_ages_X11_couldBe : GoodIn wsX11_ages wsX11_couldBe := goodIn_r _ [5, 6, 7, 8, 9, 10, 11, 12, 13, 14, 15, 16, 17, 18, 19, 20, 21, 22, 23, 24, 25, 26, 27, 28, 29, 30, 31, 32, 33, 34, 35, 36, 37, 38, 39, 40, 41, 42, 43, 44, 45, 46, 47, 48] (by decide +kernel) (by decide +kernel)
set_option maxRecDepth 20000 in
theorem gX11_ages_X11_couldBe : GoodIn wsX11_ages (wsV RX11 282 RX11 yX11_couldBe wsX11_couldBe) := goodIn_app (goodIn_of _ (by decide +kernel)) ggX11_ages_X11_couldBe
theorem dX11_ages_0 : decode cX11_ages 0 = .ok (.iconst 0, 1) := by decide +kernel
theorem dX11_ages_1 : decode cX11_ages 1 = .ok (.istore_n 1, 1) := by decide +kernel
theorem dX11_ages_2 : decode cX11_ages 2 = .ok (.iconst 0, 1) := by decide +kernel
theorem dX11_ages_3 : decode cX11_ages 3 = .ok (.istore_n 2, 1) := by decide +kernel
theorem dX11_ages_4 : decode cX11_ages 4 = .ok (.iload_n 2, 1) := by decide +kernel
theorem dX11_ages_5 : decode cX11_ages 5 = .ok (.bipush 31, 2) := by decide +kernel
theorem dX11_ages_7 : decode cX11_ages 7 = .ok (.if_icmp .ge 27, 3) := by decide +kernel
theorem dX11_ages_10 : decode cX11_ages 10 = .ok (.iload_n 1, 1) := by decide +kernel
theorem dX11_ages_11 : decode cX11_ages 11 = .ok (.aload_n 0, 1) := by decide +kernel
theorem dX11_ages_12 : decode cX11_ages 12 = .ok (.iload_n 2, 1) := by decide +kernel
theorem dX11_ages_13 : decode cX11_ages 13 = .ok (.invokevirtual 282, 3) := by decide +kernel
theorem dX11_ages_16 : decode cX11_ages 16 = .ok (.ifCond .eq 9, 3) := by decide +kernel
theorem dX11_ages_19 : decode cX11_ages 19 = .ok (.iconst 1, 1) := by decide +kernel
theorem dX11_ages_20 : decode cX11_ages 20 = .ok (.iload_n 2, 1) := by decide +kernel
theorem dX11_ages_21 : decode cX11_ages 21 = .ok (.ishl, 1) := by decide +kernel
theorem dX11_ages_22 : decode cX11_ages 22 = .ok (.goto 4, 3) := by decide +kernel
theorem dX11_ages_25 : decode cX11_ages 25 = .ok (.iconst 0, 1) := by decide +kernel
theorem dX11_ages_26 : decode cX11_ages 26 = .ok (.ior, 1) := by decide +kernel
theorem dX11_ages_27 : decode cX11_ages 27 = .ok (.istore_n 1, 1) := by decide +kernel
theorem dX11_ages_28 : decode cX11_ages 28 = .ok (.iinc 2 1, 3) := by decide +kernel
theorem dX11_ages_31 : decode cX11_ages 31 = .ok (.goto (-27), 3) := by decide +kernel
theorem dX11_ages_34 : decode cX11_ages 34 = .ok (.iload_n 1, 1) := by decide +kernel
theorem dX11_ages_35 : decode cX11_ages 35 = .ok (.ireturn, 1) := by decide +kernel
set_option maxRecDepth 20000 in
theorem ggX11_greatestPart_X11_couldBe : GoodIn wsX11_greatestPart wsX11_couldBe := goodIn_r _ [6, 7, 8, 9, 10, 11, 12, 13, 14, 15, 16, 17, 18, 19, 20, 21, 22, 23, 24, 25, 26, 27, 28, 29, 30, 31, 32, 33, 34, 35, 36, 37, 38, 39, 40, 41, 42, 43, 44, 45, 46, 47, 48, 49] (by decide +kernel) (by decide +kernel)
set_option maxRecDepth 20000 in
theorem gX11_greatestPart_X11_couldBe : GoodIn wsX11_greatestPart (wsV RX11 282 RX11 yX11_couldBe wsX11_couldBe) := goodIn_app (goodIn_of _ (by decide +kernel)) ggX11_greatestPart_X11_couldBe
theorem dX11_greatestPart_0 : decode cX11_greatestPart 0 = .ok (.iconst 0, 1) := by decide +kernel
theorem dX11_greatestPart_1 : decode cX11_greatestPart 1 = .ok (.istore_n 2, 1) := by decide +kernel
theorem dX11_greatestPart_2 : decode cX11_greatestPart 2 = .ok (.iconst 0, 1) := by decide +kernel
theorem dX11_greatestPart_3 : decode cX11_greatestPart 3 = .ok (.istore_n 3, 1) := by decide +kernel
theorem dX11_greatestPart_4 : decode cX11_greatestPart 4 = .ok (.iload_n 3, 1) := by decide +kernel
theorem dX11_greatestPart_5 : decode cX11_greatestPart 5 = .ok (.bipush 31, 2) := by decide +kernel
theorem dX11_greatestPart_7 : decode cX11_greatestPart 7 = .ok (.if_icmp .ge 16, 3) := by decide +kernel
theorem dX11_greatestPart_10 : decode cX11_greatestPart 10 = .ok (.aload_n 0, 1) := by decide +kernel
theorem dX11_greatestPart_11 : decode cX11_greatestPart 11 = .ok (.getfield 74, 3) := by decide +kernel
theorem dX11_greatestPart_14 : decode cX11_greatestPart 14 = .ok (.iload_n 3, 1) := by decide +kernel
theorem dX11_greatestPart_15 : decode cX11_greatestPart 15 = .ok (.iconst 0, 1) := by decide +kernel
theorem dX11_greatestPart_16 : decode cX11_greatestPart 16 = .ok (.iastore, 1) := by decide +kernel
theorem dX11_greatestPart_17 : decode cX11_greatestPart 17 = .ok (.iinc 3 1, 3) := by decide +kernel
theorem dX11_greatestPart_20 : decode cX11_greatestPart 20 = .ok (.goto (-16), 3) := by decide +kernel
theorem dX11_greatestPart_23 : decode cX11_greatestPart 23 = .ok (.iconst 0, 1) := by decide +kernel
theorem dX11_greatestPart_24 : decode cX11_greatestPart 24 = .ok (.istore_n 3, 1) := by decide +kernel
theorem dX11_greatestPart_25 : decode cX11_greatestPart 25 = .ok (.iload_n 3, 1) := by decide +kernel
theorem dX11_greatestPart_26 : decode cX11_greatestPart 26 = .ok (.bipush 31, 2) := by decide +kernel
theorem dX11_greatestPart_28 : decode cX11_greatestPart 28 = .ok (.if_icmp .ge 54, 3) := by decide +kernel
theorem dX11_greatestPart_31 : decode cX11_greatestPart 31 = .ok (.aload_n 0, 1) := by decide +kernel
theorem dX11_greatestPart_32 : decode cX11_greatestPart 32 = .ok (.iload_n 3, 1) := by decide +kernel
theorem dX11_greatestPart_33 : decode cX11_greatestPart 33 = .ok (.invokevirtual 282, 3) := by decide +kernel
theorem dX11_greatestPart_36 : decode cX11_greatestPart 36 = .ok (.ifCond .eq 40, 3) := by decide +kernel
theorem dX11_greatestPart_39 : decode cX11_greatestPart 39 = .ok (.aload_n 0, 1) := by decide +kernel
theorem dX11_greatestPart_40 : decode cX11_greatestPart 40 = .ok (.getfield 74, 3) := by decide +kernel
theorem dX11_greatestPart_43 : decode cX11_greatestPart 43 = .ok (.iload_n 3, 1) := by decide +kernel
theorem dX11_greatestPart_44 : decode cX11_greatestPart 44 = .ok (.iload_n 1, 1) := by decide +kernel
theorem dX11_greatestPart_45 : decode cX11_greatestPart 45 = .ok (.idiv, 1) := by decide +kernel
theorem dX11_greatestPart_46 : decode cX11_greatestPart 46 = .ok (.dup2, 1) := by decide +kernel
theorem dX11_greatestPart_47 : decode cX11_greatestPart 47 = .ok (.iaload, 1) := by decide +kernel
theorem dX11_greatestPart_48 : decode cX11_greatestPart 48 = .ok (.iconst 1, 1) := by decide +kernel
theorem dX11_greatestPart_49 : decode cX11_greatestPart 49 = .ok (.iadd, 1) := by decide +kernel
theorem dX11_greatestPart_50 : decode cX11_greatestPart 50 = .ok (.iastore, 1) := by decide +kernel
theorem dX11_greatestPart_51 : decode cX11_greatestPart 51 = .ok (.aload_n 0, 1) := by decide +kernel
theorem dX11_greatestPart_52 : decode cX11_greatestPart 52 = .ok (.getfield 74, 3) := by decide +kernel
theorem dX11_greatestPart_55 : decode cX11_greatestPart 55 = .ok (.iload_n 3, 1) := by decide +kernel
theorem dX11_greatestPart_56 : decode cX11_greatestPart 56 = .ok (.iload_n 1, 1) := by decide +kernel
theorem dX11_greatestPart_57 : decode cX11_greatestPart 57 = .ok (.idiv, 1) := by decide +kernel
theorem dX11_greatestPart_58 : decode cX11_greatestPart 58 = .ok (.iaload, 1) := by decide +kernel
theorem dX11_greatestPart_59 : decode cX11_greatestPart 59 = .ok (.iload_n 2, 1) := by decide +kernel
theorem dX11_greatestPart_60 : decode cX11_greatestPart 60 = .ok (.if_icmp .le 14, 3) := by decide +kernel
theorem dX11_greatestPart_63 : decode cX11_greatestPart 63 = .ok (.aload_n 0, 1) := by decide +kernel
theorem dX11_greatestPart_64 : decode cX11_greatestPart 64 = .ok (.getfield 74, 3) := by decide +kernel
theorem dX11_greatestPart_67 : decode cX11_greatestPart 67 = .ok (.iload_n 3, 1) := by decide +kernel
theorem dX11_greatestPart_68 : decode cX11_greatestPart 68 = .ok (.iload_n 1, 1) := by decide +kernel
theorem dX11_greatestPart_69 : decode cX11_greatestPart 69 = .ok (.idiv, 1) := by decide +kernel
theorem dX11_greatestPart_70 : decode cX11_greatestPart 70 = .ok (.iaload, 1) := by decide +kernel
theorem dX11_greatestPart_71 : decode cX11_greatestPart 71 = .ok (.goto 4, 3) := by decide +kernel
theorem dX11_greatestPart_74 : decode cX11_greatestPart 74 = .ok (.iload_n 2, 1) := by decide +kernel
theorem dX11_greatestPart_75 : decode cX11_greatestPart 75 = .ok (.istore_n 2, 1) := by decide +kernel
theorem dX11_greatestPart_76 : decode cX11_greatestPart 76 = .ok (.iinc 3 1, 3) := by decide +kernel
theorem dX11_greatestPart_79 : decode cX11_greatestPart 79 = .ok (.goto (-54), 3) := by decide +kernel
theorem dX11_greatestPart_82 : decode cX11_greatestPart 82 = .ok (.iload_n 2, 1) := by decide +kernel
theorem dX11_greatestPart_83 : decode cX11_greatestPart 83 = .ok (.ireturn, 1) := by decide +kernel
set_option maxRecDepth 20000 in
theorem ggX11_testNext_X11_couldBe : GoodIn wsX11_testNext wsX11_couldBe := goodIn_r _ [5, 6, 7, 8, 14, 15, 16, 17, 18, 19, 20, 21, 22, 23, 24, 25, 26, 27, 28, 29, 30, 31, 32, 33, 34, 35, 36, 37, 38, 39, 40, 41, 42, 43, 44, 45, 46, 47, 48, 49, 50, 51, 52, 53] (by decide +kernel) (by decide +kernel)
set_option maxRecDepth 20000 in
theorem gX11_testNext_X11_couldBe : GoodIn wsX11_testNext (wsV RX11 282 RX11 yX11_couldBe wsX11_couldBe) := goodIn_app (goodIn_of _ (by decide +kernel)) ggX11_testNext_X11_couldBe
set_option maxRecDepth 20000 in
theorem ggX11_testNext_X11_greatestPart : GoodIn wsX11_testNext wsX11_greatestPart := goodIn_r _ [12, 13, 1, 2, 3, 4, 5, 6, 7, 8, 14, 15, 16, 17, 18, 19, 20, 21, 22, 23, 24, 25, 26, 27, 28, 29, 30, 31, 32, 33, 34, 35, 36, 37, 38, 39, 40, 41, 42, 43, 44, 45, 46, 47, 48, 49, 50, 51, 52, 53] (by decide +kernel) (by decide +kernel)
set_option maxRecDepth 20000 in
theorem gX11_testNext_X11_greatestPart : GoodIn wsX11_testNext (wsV RX11 285 RX11 yX11_greatestPart wsX11_greatestPart) := goodIn_app (goodIn_of _ (by decide +kernel)) ggX11_testNext_X11_greatestPart
theorem dX11_testNext_0 : decode cX11_testNext 0 = .ok (.iconst (-1), 1) := by decide +kernel
theorem dX11_testNext_1 : decode cX11_testNext 1 = .ok (.istore_n 1, 1) := by decide +kernel
theorem dX11_testNext_2 : decode cX11_testNext 2 = .ok (.iconst 0, 1) := by decide +kernel
theorem dX11_testNext_3 : decode cX11_testNext 3 = .ok (.istore_n 2, 1) := by decide +kernel
theorem dX11_testNext_4 : decode cX11_testNext 4 = .ok (.iconst 0, 1) := by decide +kernel
theorem dX11_testNext_5 : decode cX11_testNext 5 = .ok (.istore_n 3, 1) := by decide +kernel
theorem dX11_testNext_6 : decode cX11_testNext 6 = .ok (.iload_n 3, 1) := by decide +kernel
theorem dX11_testNext_7 : decode cX11_testNext 7 = .ok (.bipush 31, 2) := by decide +kernel
theorem dX11_testNext_9 : decode cX11_testNext 9 = .ok (.if_icmp .ge 25, 3) := by decide +kernel
theorem dX11_testNext_12 : decode cX11_testNext 12 = .ok (.iload_n 2, 1) := by decide +kernel
theorem dX11_testNext_13 : decode cX11_testNext 13 = .ok (.aload_n 0, 1) := by decide +kernel
theorem dX11_testNext_14 : decode cX11_testNext 14 = .ok (.iload_n 3, 1) := by decide +kernel
theorem dX11_testNext_15 : decode cX11_testNext 15 = .ok (.invokevirtual 282, 3) := by decide +kernel
theorem dX11_testNext_18 : decode cX11_testNext 18 = .ok (.ifCond .eq 7, 3) := by decide +kernel
theorem dX11_testNext_21 : decode cX11_testNext 21 = .ok (.iconst 1, 1) := by decide +kernel
theorem dX11_testNext_22 : decode cX11_testNext 22 = .ok (.goto 4, 3) := by decide +kernel
theorem dX11_testNext_25 : decode cX11_testNext 25 = .ok (.iconst 0, 1) := by decide +kernel
theorem dX11_testNext_26 : decode cX11_testNext 26 = .ok (.iadd, 1) := by decide +kernel
theorem dX11_testNext_27 : decode cX11_testNext 27 = .ok (.istore_n 2, 1) := by decide +kernel
theorem dX11_testNext_28 : decode cX11_testNext 28 = .ok (.iinc 3 1, 3) := by decide +kernel
theorem dX11_testNext_31 : decode cX11_testNext 31 = .ok (.goto (-25), 3) := by decide +kernel
theorem dX11_testNext_34 : decode cX11_testNext 34 = .ok (.iconst 1, 1) := by decide +kernel
theorem dX11_testNext_35 : decode cX11_testNext 35 = .ok (.istore_n 3, 1) := by decide +kernel
theorem dX11_testNext_36 : decode cX11_testNext 36 = .ok (.iload_n 3, 1) := by decide +kernel
theorem dX11_testNext_37 : decode cX11_testNext 37 = .ok (.bipush 10, 2) := by decide +kernel
theorem dX11_testNext_39 : decode cX11_testNext 39 = .ok (.if_icmp .ge 41, 3) := by decide +kernel
theorem dX11_testNext_42 : decode cX11_testNext 42 = .ok (.aload_n 0, 1) := by decide +kernel
theorem dX11_testNext_43 : decode cX11_testNext 43 = .ok (.iload_n 3, 1) := by decide +kernel
theorem dX11_testNext_44 : decode cX11_testNext 44 = .ok (.invokevirtual 285, 3) := by decide +kernel
theorem dX11_testNext_47 : decode cX11_testNext 47 = .ok (.istore 4, 2) := by decide +kernel
theorem dX11_testNext_49 : decode cX11_testNext 49 = .ok (.iload 4, 2) := by decide +kernel
theorem dX11_testNext_51 : decode cX11_testNext 51 = .ok (.iload_n 2, 1) := by decide +kernel
theorem dX11_testNext_52 : decode cX11_testNext 52 = .ok (.if_icmp .ge 7, 3) := by decide +kernel
theorem dX11_testNext_55 : decode cX11_testNext 55 = .ok (.iload_n 3, 1) := by decide +kernel
theorem dX11_testNext_56 : decode cX11_testNext 56 = .ok (.goto 4, 3) := by decide +kernel
theorem dX11_testNext_59 : decode cX11_testNext 59 = .ok (.iload_n 1, 1) := by decide +kernel
theorem dX11_testNext_60 : decode cX11_testNext 60 = .ok (.istore_n 1, 1) := by decide +kernel
theorem dX11_testNext_61 : decode cX11_testNext 61 = .ok (.iload 4, 2) := by decide +kernel
theorem dX11_testNext_63 : decode cX11_testNext 63 = .ok (.iload_n 2, 1) := by decide +kernel
theorem dX11_testNext_64 : decode cX11_testNext 64 = .ok (.if_icmp .ge 8, 3) := by decide +kernel
theorem dX11_testNext_67 : decode cX11_testNext 67 = .ok (.iload 4, 2) := by decide +kernel
theorem dX11_testNext_69 : decode cX11_testNext 69 = .ok (.goto 4, 3) := by decide +kernel
theorem dX11_testNext_72 : decode cX11_testNext 72 = .ok (.iload_n 2, 1) := by decide +kernel
theorem dX11_testNext_73 : decode cX11_testNext 73 = .ok (.istore_n 2, 1) := by decide +kernel
theorem dX11_testNext_74 : decode cX11_testNext 74 = .ok (.iinc 3 1, 3) := by decide +kernel
theorem dX11_testNext_77 : decode cX11_testNext 77 = .ok (.goto (-41), 3) := by decide +kernel
theorem dX11_testNext_80 : decode cX11_testNext 80 = .ok (.iload_n 1, 1) := by decide +kernel
theorem dX11_testNext_81 : decode cX11_testNext 81 = .ok (.ireturn, 1) := by decide +kernel
set_option maxRecDepth 20000 in
theorem ggX11_write_X11_isEgg : GoodIn wsX11_write wsX11_isEgg := goodIn_r _ [12, 13, 14, 15, 11, 16, 17, 18, 19, 20, 21, 22, 23, 24, 25, 26, 27, 28, 29, 30, 31, 32, 33, 34, 35, 36, 37, 38, 39, 40, 41, 42, 43, 44, 45, 46, 47, 48, 49, 50, 51, 52, 53, 54, 55, 56] (by decide +kernel) (by decide +kernel)
set_option maxRecDepth 20000 in
theorem gX11_write_X11_isEgg : GoodIn wsX11_write (wsV RX11 196 RX11 yX11_isEgg wsX11_isEgg) := goodIn_app (goodIn_of _ (by decide +kernel)) ggX11_write_X11_isEgg
set_option maxRecDepth 20000 in
theorem ggX11_write_X11_in : GoodIn wsX11_write wsX11_in := goodIn_r _ [16] (by decide +kernel) (by decide +kernel)
set_option maxRecDepth 20000 in
theorem gX11_write_X11_in : GoodIn wsX11_write (va_wsS RX11 96 yX11_in wsX11_in) := goodIn_app (goodIn_of _ (by decide +kernel)) ggX11_write_X11_in
theorem dX11_write_0 : decode cX11_write 0 = .ok (.aload_n 0, 1) := by decide +kernel
theorem dX11_write_1 : decode cX11_write 1 = .ok (.iload_n 1, 1) := by decide +kernel
theorem dX11_write_2 : decode cX11_write 2 = .ok (.invokevirtual 196, 3) := by decide +kernel
theorem dX11_write_5 : decode cX11_write 5 = .ok (.ifCond .ne 6, 3) := by decide +kernel
theorem dX11_write_8 : decode cX11_write 8 = .ok (.ldc 200, 2) := by decide +kernel
theorem dX11_write_10 : decode cX11_write 10 = .ok (.ireturn, 1) := by decide +kernel
theorem dX11_write_11 : decode cX11_write 11 = .ok (.iload_n 2, 1) := by decide +kernel
theorem dX11_write_12 : decode cX11_write 12 = .ok (.i2l, 1) := by decide +kernel
theorem dX11_write_13 : decode cX11_write 13 = .ok (.lconst 0, 1) := by decide +kernel
theorem dX11_write_14 : decode cX11_write 14 = .ok (.ldc2_w 288, 3) := by decide +kernel
theorem dX11_write_17 : decode cX11_write 17 = .ok (.invokestatic 96, 3) := by decide +kernel
theorem dX11_write_20 : decode cX11_write 20 = .ok (.ifCond .ne 6, 3) := by decide +kernel
theorem dX11_write_23 : decode cX11_write 23 = .ok (.ldc 105, 2) := by decide +kernel
theorem dX11_write_25 : decode cX11_write 25 = .ok (.ireturn, 1) := by decide +kernel
theorem dX11_write_26 : decode cX11_write 26 = .ok (.aload_n 0, 1) := by decide +kernel
theorem dX11_write_27 : decode cX11_write 27 = .ok (.getfield 165, 3) := by decide +kernel
theorem dX11_write_30 : decode cX11_write 30 = .ok (.bipush 15, 2) := by decide +kernel
theorem dX11_write_32 : decode cX11_write 32 = .ok (.if_icmp .ne 6, 3) := by decide +kernel
theorem dX11_write_35 : decode cX11_write 35 = .ok (.ldc 109, 2) := by decide +kernel
theorem dX11_write_37 : decode cX11_write 37 = .ok (.ireturn, 1) := by decide +kernel
theorem dX11_write_38 : decode cX11_write 38 = .ok (.aload_n 0, 1) := by decide +kernel
theorem dX11_write_39 : decode cX11_write 39 = .ok (.getfield 77, 3) := by decide +kernel
theorem dX11_write_42 : decode cX11_write 42 = .ok (.aload_n 0, 1) := by decide +kernel
theorem dX11_write_43 : decode cX11_write 43 = .ok (.getfield 165, 3) := by decide +kernel
theorem dX11_write_46 : decode cX11_write 46 = .ok (.iload_n 1, 1) := by decide +kernel
theorem dX11_write_47 : decode cX11_write 47 = .ok (.iastore, 1) := by decide +kernel
theorem dX11_write_48 : decode cX11_write 48 = .ok (.aload_n 0, 1) := by decide +kernel
theorem dX11_write_49 : decode cX11_write 49 = .ok (.getfield 80, 3) := by decide +kernel
theorem dX11_write_52 : decode cX11_write 52 = .ok (.aload_n 0, 1) := by decide +kernel
theorem dX11_write_53 : decode cX11_write 53 = .ok (.getfield 165, 3) := by decide +kernel
theorem dX11_write_56 : decode cX11_write 56 = .ok (.iload_n 2, 1) := by decide +kernel
theorem dX11_write_57 : decode cX11_write 57 = .ok (.iastore, 1) := by decide +kernel
theorem dX11_write_58 : decode cX11_write 58 = .ok (.aload_n 0, 1) := by decide +kernel
theorem dX11_write_59 : decode cX11_write 59 = .ok (.dup, 1) := by decide +kernel
theorem dX11_write_60 : decode cX11_write 60 = .ok (.getfield 165, 3) := by decide +kernel
theorem dX11_write_63 : decode cX11_write 63 = .ok (.iconst 1, 1) := by decide +kernel
theorem dX11_write_64 : decode cX11_write 64 = .ok (.iadd, 1) := by decide +kernel
theorem dX11_write_65 : decode cX11_write 65 = .ok (.putfield 165, 3) := by decide +kernel
theorem dX11_write_68 : decode cX11_write 68 = .ok (.aload_n 0, 1) := by decide +kernel
theorem dX11_write_69 : decode cX11_write 69 = .ok (.getfield 165, 3) := by decide +kernel
theorem dX11_write_72 : decode cX11_write 72 = .ok (.ireturn, 1) := by decide +kernel
theorem dX11_tear_0 : decode cX11_tear 0 = .ok (.aload_n 0, 1) := by decide +kernel
theorem dX11_tear_1 : decode cX11_tear 1 = .ok (.getfield 162, 3) := by decide +kernel
theorem dX11_tear_4 : decode cX11_tear 4 = .ok (.aload_n 0, 1) := by decide +kernel
theorem dX11_tear_5 : decode cX11_tear 5 = .ok (.getfield 165, 3) := by decide +kernel
theorem dX11_tear_8 : decode cX11_tear 8 = .ok (.iadd, 1) := by decide +kernel
theorem dX11_tear_9 : decode cX11_tear 9 = .ok (.istore_n 1, 1) := by decide +kernel
theorem dX11_tear_10 : decode cX11_tear 10 = .ok (.aload_n 0, 1) := by decide +kernel
theorem dX11_tear_11 : decode cX11_tear 11 = .ok (.iconst 0, 1) := by decide +kernel
theorem dX11_tear_12 : decode cX11_tear 12 = .ok (.putfield 162, 3) := by decide +kernel
theorem dX11_tear_15 : decode cX11_tear 15 = .ok (.aload_n 0, 1) := by decide +kernel
theorem dX11_tear_16 : decode cX11_tear 16 = .ok (.iconst 0, 1) := by decide +kernel
theorem dX11_tear_17 : decode cX11_tear 17 = .ok (.putfield 165, 3) := by decide +kernel
theorem dX11_tear_20 : decode cX11_tear 20 = .ok (.iload_n 1, 1) := by decide +kernel
theorem dX11_tear_21 : decode cX11_tear 21 = .ok (.ireturn, 1) := by decide +kernel
theorem dX11_judge_0 : decode cX11_judge 0 = .ok (.iconst 0, 1) := by decide +kernel
theorem dX11_judge_1 : decode cX11_judge 1 = .ok (.istore_n 1, 1) := by decide +kernel
theorem dX11_judge_2 : decode cX11_judge 2 = .ok (.iload_n 1, 1) := by decide +kernel
theorem dX11_judge_3 : decode cX11_judge 3 = .ok (.aload_n 0, 1) := by decide +kernel
theorem dX11_judge_4 : decode cX11_judge 4 = .ok (.getfield 165, 3) := by decide +kernel
theorem dX11_judge_7 : decode cX11_judge 7 = .ok (.if_icmp .ge 31, 3) := by decide +kernel
theorem dX11_judge_10 : decode cX11_judge 10 = .ok (.aload_n 0, 1) := by decide +kernel
theorem dX11_judge_11 : decode cX11_judge 11 = .ok (.getfield 25, 3) := by decide +kernel
theorem dX11_judge_14 : decode cX11_judge 14 = .ok (.aload_n 0, 1) := by decide +kernel
theorem dX11_judge_15 : decode cX11_judge 15 = .ok (.getfield 77, 3) := by decide +kernel
theorem dX11_judge_18 : decode cX11_judge 18 = .ok (.iload_n 1, 1) := by decide +kernel
theorem dX11_judge_19 : decode cX11_judge 19 = .ok (.iaload, 1) := by decide +kernel
theorem dX11_judge_20 : decode cX11_judge 20 = .ok (.iaload, 1) := by decide +kernel
theorem dX11_judge_21 : decode cX11_judge 21 = .ok (.aload_n 0, 1) := by decide +kernel
theorem dX11_judge_22 : decode cX11_judge 22 = .ok (.getfield 80, 3) := by decide +kernel
theorem dX11_judge_25 : decode cX11_judge 25 = .ok (.iload_n 1, 1) := by decide +kernel
theorem dX11_judge_26 : decode cX11_judge 26 = .ok (.iaload, 1) := by decide +kernel
theorem dX11_judge_27 : decode cX11_judge 27 = .ok (.if_icmp .eq 5, 3) := by decide +kernel
theorem dX11_judge_30 : decode cX11_judge 30 = .ok (.iload_n 1, 1) := by decide +kernel
theorem dX11_judge_31 : decode cX11_judge 31 = .ok (.ireturn, 1) := by decide +kernel
theorem dX11_judge_32 : decode cX11_judge 32 = .ok (.iinc 1 1, 3) := by decide +kernel
theorem dX11_judge_35 : decode cX11_judge 35 = .ok (.goto (-33), 3) := by decide +kernel
theorem dX11_judge_38 : decode cX11_judge 38 = .ok (.iconst (-1), 1) := by decide +kernel
theorem dX11_judge_39 : decode cX11_judge 39 = .ok (.ireturn, 1) := by decide +kernel
theorem dX11_seed_0 : decode cX11_seed 0 = .ok (.iload_n 1, 1) := by decide +kernel
theorem dX11_seed_1 : decode cX11_seed 1 = .ok (.ifCond .ge 6, 3) := by decide +kernel
theorem dX11_seed_4 : decode cX11_seed 4 = .ok (.ldc 105, 2) := by decide +kernel
theorem dX11_seed_6 : decode cX11_seed 6 = .ok (.ireturn, 1) := by decide +kernel
theorem dX11_seed_7 : decode cX11_seed 7 = .ok (.aload_n 0, 1) := by decide +kernel
theorem dX11_seed_8 : decode cX11_seed 8 = .ok (.getfield 231, 3) := by decide +kernel
theorem dX11_seed_11 : decode cX11_seed 11 = .ok (.istore_n 2, 1) := by decide +kernel
theorem dX11_seed_12 : decode cX11_seed 12 = .ok (.aload_n 0, 1) := by decide +kernel
theorem dX11_seed_13 : decode cX11_seed 13 = .ok (.iload_n 1, 1) := by decide +kernel
theorem dX11_seed_14 : decode cX11_seed 14 = .ok (.putfield 231, 3) := by decide +kernel
theorem dX11_seed_17 : decode cX11_seed 17 = .ok (.iload_n 2, 1) := by decide +kernel
theorem dX11_seed_18 : decode cX11_seed 18 = .ok (.ireturn, 1) := by decide +kernel
set_option maxRecDepth 20000 in
theorem ggX11_keep_X11_in : GoodIn wsX11_keep wsX11_in := goodIn_r _ [10] (by decide +kernel) (by decide +kernel)
set_option maxRecDepth 20000 in
theorem gX11_keep_X11_in : GoodIn wsX11_keep (va_wsS RX11 96 yX11_in wsX11_in) := goodIn_app (goodIn_of _ (by decide +kernel)) ggX11_keep_X11_in
theorem dX11_keep_0 : decode cX11_keep 0 = .ok (.iload_n 1, 1) := by decide +kernel
theorem dX11_keep_1 : decode cX11_keep 1 = .ok (.i2l, 1) := by decide +kernel
theorem dX11_keep_2 : decode cX11_keep 2 = .ok (.lconst 0, 1) := by decide +kernel
theorem dX11_keep_3 : decode cX11_keep 3 = .ok (.lconst 1, 1) := by decide +kernel
theorem dX11_keep_4 : decode cX11_keep 4 = .ok (.invokestatic 96, 3) := by decide +kernel
theorem dX11_keep_7 : decode cX11_keep 7 = .ok (.ifCond .ne 6, 3) := by decide +kernel
theorem dX11_keep_10 : decode cX11_keep 10 = .ok (.ldc 200, 2) := by decide +kernel
theorem dX11_keep_12 : decode cX11_keep 12 = .ok (.ireturn, 1) := by decide +kernel
theorem dX11_keep_13 : decode cX11_keep 13 = .ok (.iconst 0, 1) := by decide +kernel
theorem dX11_keep_14 : decode cX11_keep 14 = .ok (.istore_n 2, 1) := by decide +kernel
theorem dX11_keep_15 : decode cX11_keep 15 = .ok (.iload_n 2, 1) := by decide +kernel
theorem dX11_keep_16 : decode cX11_keep 16 = .ok (.bipush 19, 2) := by decide +kernel
theorem dX11_keep_18 : decode cX11_keep 18 = .ok (.if_icmp .ge 26, 3) := by decide +kernel
theorem dX11_keep_21 : decode cX11_keep 21 = .ok (.aload_n 0, 1) := by decide +kernel
theorem dX11_keep_22 : decode cX11_keep 22 = .ok (.getfield 83, 3) := by decide +kernel
theorem dX11_keep_25 : decode cX11_keep 25 = .ok (.bipush 20, 2) := by decide +kernel
theorem dX11_keep_27 : decode cX11_keep 27 = .ok (.iload_n 1, 1) := by decide +kernel
theorem dX11_keep_28 : decode cX11_keep 28 = .ok (.imul, 1) := by decide +kernel
theorem dX11_keep_29 : decode cX11_keep 29 = .ok (.iload_n 2, 1) := by decide +kernel
theorem dX11_keep_30 : decode cX11_keep 30 = .ok (.iadd, 1) := by decide +kernel
theorem dX11_keep_31 : decode cX11_keep 31 = .ok (.aload_n 0, 1) := by decide +kernel
theorem dX11_keep_32 : decode cX11_keep 32 = .ok (.getfield 25, 3) := by decide +kernel
theorem dX11_keep_35 : decode cX11_keep 35 = .ok (.iload_n 2, 1) := by decide +kernel
theorem dX11_keep_36 : decode cX11_keep 36 = .ok (.iaload, 1) := by decide +kernel
theorem dX11_keep_37 : decode cX11_keep 37 = .ok (.iastore, 1) := by decide +kernel
theorem dX11_keep_38 : decode cX11_keep 38 = .ok (.iinc 2 1, 3) := by decide +kernel
theorem dX11_keep_41 : decode cX11_keep 41 = .ok (.goto (-26), 3) := by decide +kernel
theorem dX11_keep_44 : decode cX11_keep 44 = .ok (.aload_n 0, 1) := by decide +kernel
theorem dX11_keep_45 : decode cX11_keep 45 = .ok (.getfield 83, 3) := by decide +kernel
theorem dX11_keep_48 : decode cX11_keep 48 = .ok (.bipush 20, 2) := by decide +kernel
theorem dX11_keep_50 : decode cX11_keep 50 = .ok (.iload_n 1, 1) := by decide +kernel
theorem dX11_keep_51 : decode cX11_keep 51 = .ok (.imul, 1) := by decide +kernel
theorem dX11_keep_52 : decode cX11_keep 52 = .ok (.bipush 19, 2) := by decide +kernel
theorem dX11_keep_54 : decode cX11_keep 54 = .ok (.iadd, 1) := by decide +kernel
theorem dX11_keep_55 : decode cX11_keep 55 = .ok (.aload_n 0, 1) := by decide +kernel
theorem dX11_keep_56 : decode cX11_keep 56 = .ok (.getfield 231, 3) := by decide +kernel
theorem dX11_keep_59 : decode cX11_keep 59 = .ok (.iastore, 1) := by decide +kernel
theorem dX11_keep_60 : decode cX11_keep 60 = .ok (.aload_n 0, 1) := by decide +kernel
theorem dX11_keep_61 : decode cX11_keep 61 = .ok (.getfield 86, 3) := by decide +kernel
theorem dX11_keep_64 : decode cX11_keep 64 = .ok (.iload_n 1, 1) := by decide +kernel
theorem dX11_keep_65 : decode cX11_keep 65 = .ok (.iconst 1, 1) := by decide +kernel
theorem dX11_keep_66 : decode cX11_keep 66 = .ok (.bastore, 1) := by decide +kernel
theorem dX11_keep_67 : decode cX11_keep 67 = .ok (.aload_n 0, 1) := by decide +kernel
theorem dX11_keep_68 : decode cX11_keep 68 = .ok (.iconst 0, 1) := by decide +kernel
theorem dX11_keep_69 : decode cX11_keep 69 = .ok (.putfield 168, 3) := by decide +kernel
theorem dX11_keep_72 : decode cX11_keep 72 = .ok (.iconst 1, 1) := by decide +kernel
theorem dX11_keep_73 : decode cX11_keep 73 = .ok (.ireturn, 1) := by decide +kernel
set_option maxRecDepth 20000 in
theorem ggX11_goBack_X11_in : GoodIn wsX11_goBack wsX11_in := goodIn_r _ [11] (by decide +kernel) (by decide +kernel)
set_option maxRecDepth 20000 in
theorem gX11_goBack_X11_in : GoodIn wsX11_goBack (va_wsS RX11 96 yX11_in wsX11_in) := goodIn_app (goodIn_of _ (by decide +kernel)) ggX11_goBack_X11_in
theorem dX11_goBack_0 : decode cX11_goBack 0 = .ok (.iload_n 1, 1) := by decide +kernel
theorem dX11_goBack_1 : decode cX11_goBack 1 = .ok (.i2l, 1) := by decide +kernel
theorem dX11_goBack_2 : decode cX11_goBack 2 = .ok (.lconst 0, 1) := by decide +kernel
theorem dX11_goBack_3 : decode cX11_goBack 3 = .ok (.lconst 1, 1) := by decide +kernel
theorem dX11_goBack_4 : decode cX11_goBack 4 = .ok (.invokestatic 96, 3) := by decide +kernel
theorem dX11_goBack_7 : decode cX11_goBack 7 = .ok (.ifCond .ne 6, 3) := by decide +kernel
theorem dX11_goBack_10 : decode cX11_goBack 10 = .ok (.ldc 200, 2) := by decide +kernel
theorem dX11_goBack_12 : decode cX11_goBack 12 = .ok (.ireturn, 1) := by decide +kernel
theorem dX11_goBack_13 : decode cX11_goBack 13 = .ok (.aload_n 0, 1) := by decide +kernel
theorem dX11_goBack_14 : decode cX11_goBack 14 = .ok (.getfield 86, 3) := by decide +kernel
theorem dX11_goBack_17 : decode cX11_goBack 17 = .ok (.iload_n 1, 1) := by decide +kernel
theorem dX11_goBack_18 : decode cX11_goBack 18 = .ok (.baload, 1) := by decide +kernel
theorem dX11_goBack_19 : decode cX11_goBack 19 = .ok (.ifCond .ne 6, 3) := by decide +kernel
theorem dX11_goBack_22 : decode cX11_goBack 22 = .ok (.ldc 206, 2) := by decide +kernel
theorem dX11_goBack_24 : decode cX11_goBack 24 = .ok (.ireturn, 1) := by decide +kernel
theorem dX11_goBack_25 : decode cX11_goBack 25 = .ok (.iconst 0, 1) := by decide +kernel
theorem dX11_goBack_26 : decode cX11_goBack 26 = .ok (.istore_n 2, 1) := by decide +kernel
theorem dX11_goBack_27 : decode cX11_goBack 27 = .ok (.iload_n 2, 1) := by decide +kernel
theorem dX11_goBack_28 : decode cX11_goBack 28 = .ok (.bipush 19, 2) := by decide +kernel
theorem dX11_goBack_30 : decode cX11_goBack 30 = .ok (.if_icmp .ge 26, 3) := by decide +kernel
theorem dX11_goBack_33 : decode cX11_goBack 33 = .ok (.aload_n 0, 1) := by decide +kernel
theorem dX11_goBack_34 : decode cX11_goBack 34 = .ok (.getfield 25, 3) := by decide +kernel
theorem dX11_goBack_37 : decode cX11_goBack 37 = .ok (.iload_n 2, 1) := by decide +kernel
theorem dX11_goBack_38 : decode cX11_goBack 38 = .ok (.aload_n 0, 1) := by decide +kernel
theorem dX11_goBack_39 : decode cX11_goBack 39 = .ok (.getfield 83, 3) := by decide +kernel
theorem dX11_goBack_42 : decode cX11_goBack 42 = .ok (.bipush 20, 2) := by decide +kernel
theorem dX11_goBack_44 : decode cX11_goBack 44 = .ok (.iload_n 1, 1) := by decide +kernel
theorem dX11_goBack_45 : decode cX11_goBack 45 = .ok (.imul, 1) := by decide +kernel
theorem dX11_goBack_46 : decode cX11_goBack 46 = .ok (.iload_n 2, 1) := by decide +kernel
theorem dX11_goBack_47 : decode cX11_goBack 47 = .ok (.iadd, 1) := by decide +kernel
theorem dX11_goBack_48 : decode cX11_goBack 48 = .ok (.iaload, 1) := by decide +kernel
theorem dX11_goBack_49 : decode cX11_goBack 49 = .ok (.iastore, 1) := by decide +kernel
theorem dX11_goBack_50 : decode cX11_goBack 50 = .ok (.iinc 2 1, 3) := by decide +kernel
theorem dX11_goBack_53 : decode cX11_goBack 53 = .ok (.goto (-26), 3) := by decide +kernel
theorem dX11_goBack_56 : decode cX11_goBack 56 = .ok (.aload_n 0, 1) := by decide +kernel
theorem dX11_goBack_57 : decode cX11_goBack 57 = .ok (.aload_n 0, 1) := by decide +kernel
theorem dX11_goBack_58 : decode cX11_goBack 58 = .ok (.getfield 83, 3) := by decide +kernel
theorem dX11_goBack_61 : decode cX11_goBack 61 = .ok (.bipush 20, 2) := by decide +kernel
theorem dX11_goBack_63 : decode cX11_goBack 63 = .ok (.iload_n 1, 1) := by decide +kernel
theorem dX11_goBack_64 : decode cX11_goBack 64 = .ok (.imul, 1) := by decide +kernel
theorem dX11_goBack_65 : decode cX11_goBack 65 = .ok (.bipush 19, 2) := by decide +kernel
theorem dX11_goBack_67 : decode cX11_goBack 67 = .ok (.iadd, 1) := by decide +kernel
theorem dX11_goBack_68 : decode cX11_goBack 68 = .ok (.iaload, 1) := by decide +kernel
theorem dX11_goBack_69 : decode cX11_goBack 69 = .ok (.putfield 231, 3) := by decide +kernel
theorem dX11_goBack_72 : decode cX11_goBack 72 = .ok (.aload_n 0, 1) := by decide +kernel
theorem dX11_goBack_73 : decode cX11_goBack 73 = .ok (.iconst 0, 1) := by decide +kernel
theorem dX11_goBack_74 : decode cX11_goBack 74 = .ok (.putfield 168, 3) := by decide +kernel
theorem dX11_goBack_77 : decode cX11_goBack 77 = .ok (.iconst 1, 1) := by decide +kernel
theorem dX11_goBack_78 : decode cX11_goBack 78 = .ok (.ireturn, 1) := by decide +kernel
theorem dJ6_bitCount_0f7a4_0 : decode cJ6_bitCount_0f7a4 0 = .ok (.iload_n 0, 1) := by decide +kernel
theorem dJ6_bitCount_0f7a4_1 : decode cJ6_bitCount_0f7a4 1 = .ok (.iload_n 0, 1) := by decide +kernel
theorem dJ6_bitCount_0f7a4_2 : decode cJ6_bitCount_0f7a4 2 = .ok (.iconst 1, 1) := by decide +kernel
theorem dJ6_bitCount_0f7a4_3 : decode cJ6_bitCount_0f7a4 3 = .ok (.iushr, 1) := by decide +kernel
theorem dJ6_bitCount_0f7a4_4 : decode cJ6_bitCount_0f7a4 4 = .ok (.ldc_w 265, 3) := by decide +kernel
theorem dJ6_bitCount_0f7a4_7 : decode cJ6_bitCount_0f7a4 7 = .ok (.iand, 1) := by decide +kernel
theorem dJ6_bitCount_0f7a4_8 : decode cJ6_bitCount_0f7a4 8 = .ok (.isub, 1) := by decide +kernel
theorem dJ6_bitCount_0f7a4_9 : decode cJ6_bitCount_0f7a4 9 = .ok (.istore_n 0, 1) := by decide +kernel
theorem dJ6_bitCount_0f7a4_10 : decode cJ6_bitCount_0f7a4 10 = .ok (.iload_n 0, 1) := by decide +kernel
theorem dJ6_bitCount_0f7a4_11 : decode cJ6_bitCount_0f7a4 11 = .ok (.ldc_w 266, 3) := by decide +kernel
theorem dJ6_bitCount_0f7a4_14 : decode cJ6_bitCount_0f7a4 14 = .ok (.iand, 1) := by decide +kernel
theorem dJ6_bitCount_0f7a4_15 : decode cJ6_bitCount_0f7a4 15 = .ok (.iload_n 0, 1) := by decide +kernel
theorem dJ6_bitCount_0f7a4_16 : decode cJ6_bitCount_0f7a4 16 = .ok (.iconst 2, 1) := by decide +kernel
theorem dJ6_bitCount_0f7a4_17 : decode cJ6_bitCount_0f7a4 17 = .ok (.iushr, 1) := by decide +kernel
theorem dJ6_bitCount_0f7a4_18 : decode cJ6_bitCount_0f7a4 18 = .ok (.ldc_w 266, 3) := by decide +kernel
theorem dJ6_bitCount_0f7a4_21 : decode cJ6_bitCount_0f7a4 21 = .ok (.iand, 1) := by decide +kernel
theorem dJ6_bitCount_0f7a4_22 : decode cJ6_bitCount_0f7a4 22 = .ok (.iadd, 1) := by decide +kernel
theorem dJ6_bitCount_0f7a4_23 : decode cJ6_bitCount_0f7a4 23 = .ok (.istore_n 0, 1) := by decide +kernel
theorem dJ6_bitCount_0f7a4_24 : decode cJ6_bitCount_0f7a4 24 = .ok (.iload_n 0, 1) := by decide +kernel
theorem dJ6_bitCount_0f7a4_25 : decode cJ6_bitCount_0f7a4 25 = .ok (.iload_n 0, 1) := by decide +kernel
theorem dJ6_bitCount_0f7a4_26 : decode cJ6_bitCount_0f7a4 26 = .ok (.iconst 4, 1) := by decide +kernel
theorem dJ6_bitCount_0f7a4_27 : decode cJ6_bitCount_0f7a4 27 = .ok (.iushr, 1) := by decide +kernel
theorem dJ6_bitCount_0f7a4_28 : decode cJ6_bitCount_0f7a4 28 = .ok (.iadd, 1) := by decide +kernel
theorem dJ6_bitCount_0f7a4_29 : decode cJ6_bitCount_0f7a4 29 = .ok (.ldc_w 267, 3) := by decide +kernel
theorem dJ6_bitCount_0f7a4_32 : decode cJ6_bitCount_0f7a4 32 = .ok (.iand, 1) := by decide +kernel
theorem dJ6_bitCount_0f7a4_33 : decode cJ6_bitCount_0f7a4 33 = .ok (.istore_n 0, 1) := by decide +kernel
theorem dJ6_bitCount_0f7a4_34 : decode cJ6_bitCount_0f7a4 34 = .ok (.iload_n 0, 1) := by decide +kernel
theorem dJ6_bitCount_0f7a4_35 : decode cJ6_bitCount_0f7a4 35 = .ok (.iload_n 0, 1) := by decide +kernel
theorem dJ6_bitCount_0f7a4_36 : decode cJ6_bitCount_0f7a4 36 = .ok (.bipush 8, 2) := by decide +kernel
theorem dJ6_bitCount_0f7a4_38 : decode cJ6_bitCount_0f7a4 38 = .ok (.iushr, 1) := by decide +kernel
theorem dJ6_bitCount_0f7a4_39 : decode cJ6_bitCount_0f7a4 39 = .ok (.iadd, 1) := by decide +kernel
theorem dJ6_bitCount_0f7a4_40 : decode cJ6_bitCount_0f7a4 40 = .ok (.istore_n 0, 1) := by decide +kernel
theorem dJ6_bitCount_0f7a4_41 : decode cJ6_bitCount_0f7a4 41 = .ok (.iload_n 0, 1) := by decide +kernel
theorem dJ6_bitCount_0f7a4_42 : decode cJ6_bitCount_0f7a4 42 = .ok (.iload_n 0, 1) := by decide +kernel
theorem dJ6_bitCount_0f7a4_43 : decode cJ6_bitCount_0f7a4 43 = .ok (.bipush 16, 2) := by decide +kernel
theorem dJ6_bitCount_0f7a4_45 : decode cJ6_bitCount_0f7a4 45 = .ok (.iushr, 1) := by decide +kernel
theorem dJ6_bitCount_0f7a4_46 : decode cJ6_bitCount_0f7a4 46 = .ok (.iadd, 1) := by decide +kernel
theorem dJ6_bitCount_0f7a4_47 : decode cJ6_bitCount_0f7a4 47 = .ok (.istore_n 0, 1) := by decide +kernel
theorem dJ6_bitCount_0f7a4_48 : decode cJ6_bitCount_0f7a4 48 = .ok (.iload_n 0, 1) := by decide +kernel
theorem dJ6_bitCount_0f7a4_49 : decode cJ6_bitCount_0f7a4 49 = .ok (.bipush 63, 2) := by decide +kernel
theorem dJ6_bitCount_0f7a4_51 : decode cJ6_bitCount_0f7a4 51 = .ok (.iand, 1) := by decide +kernel
theorem dJ6_bitCount_0f7a4_52 : decode cJ6_bitCount_0f7a4 52 = .ok (.ireturn, 1) := by decide +kernel
theorem dJ9_max_7cf53_0 : decode cJ9_max_7cf53 0 = .ok (.iload_n 0, 1) := by decide +kernel
theorem dJ9_max_7cf53_1 : decode cJ9_max_7cf53 1 = .ok (.iload_n 1, 1) := by decide +kernel
theorem dJ9_max_7cf53_2 : decode cJ9_max_7cf53 2 = .ok (.if_icmp .lt 7, 3) := by decide +kernel
theorem dJ9_max_7cf53_5 : decode cJ9_max_7cf53 5 = .ok (.iload_n 0, 1) := by decide +kernel
theorem dJ9_max_7cf53_6 : decode cJ9_max_7cf53 6 = .ok (.goto 4, 3) := by decide +kernel
theorem dJ9_max_7cf53_9 : decode cJ9_max_7cf53 9 = .ok (.iload_n 1, 1) := by decide +kernel
theorem dJ9_max_7cf53_10 : decode cJ9_max_7cf53 10 = .ok (.ireturn, 1) := by decide +kernel
theorem dJ9_min_7cf53_0 : decode cJ9_min_7cf53 0 = .ok (.iload_n 0, 1) := by decide +kernel
theorem dJ9_min_7cf53_1 : decode cJ9_min_7cf53 1 = .ok (.iload_n 1, 1) := by decide +kernel
theorem dJ9_min_7cf53_2 : decode cJ9_min_7cf53 2 = .ok (.if_icmp .gt 7, 3) := by decide +kernel
theorem dJ9_min_7cf53_5 : decode cJ9_min_7cf53 5 = .ok (.iload_n 0, 1) := by decide +kernel
theorem dJ9_min_7cf53_6 : decode cJ9_min_7cf53 6 = .ok (.goto 4, 3) := by decide +kernel
theorem dJ9_min_7cf53_9 : decode cJ9_min_7cf53 9 = .ok (.iload_n 1, 1) := by decide +kernel
theorem dJ9_min_7cf53_10 : decode cJ9_min_7cf53 10 = .ok (.ireturn, 1) := by decide +kernel
end
section
/-! the rows of my own kit: a state is numbers and rows; a method is a function of it that may fail; the walk follows the function -/
abbrev St : Type := (Nat → Int32) × (Nat → Nat → Int32)
def sI (σ : St) (k : Nat) (v : Int32) : St := (upd σ.1 k v, σ.2)
def sA (σ : St) (k : Nat) (g : Nat → Int32) : St := (σ.1, va_up σ.2 k g)
abbrev inR (i : Int32) (n : Nat) : Prop := ¬ (i < 0 ∨ n ≤ i.toNatClampNeg)
def nm {α β : Type} (v : α) (f : α → Option β) : Option β := f v
def FU : Nat := 100000
theorem nm_s {α β : Type} {v : α} {f : α → Option β} {r : β} (h : nm v f = some r) : ∃ z, z = v ∧ f z = some r := ⟨v, rfl, h⟩
theorem gd_s {β : Type} {c : Prop} [Decidable c] {x : Option β} {r : β} (h : (if c then x else none) = some r) : c ∧ x = some r := by
  by_cases hc : c
  · rw [if_pos hc] at h; exact ⟨hc, h⟩
  · rw [if_neg hc] at h; cases h
theorem bd_s {α β : Type} {x : Option α} {f : α → Option β} {r : β} (h : x.bind f = some r) : ∃ a, x = some a ∧ f a = some r := by
  cases x with
  | none => cases h
  | some a => exact ⟨a, rfl, h⟩
/-- what nest mates link -/
def nestL : List Cond := [.fieldLinkNest "EggThrones$Boiling" 31 "EggThrones$Table" "places" "I" "EggThrones", .fieldLinkNest "EggThrones" 130 "EggThrones$Table" "places" "I" "EggThrones", .fieldLinkNest "EggThrones$Morning" 82 "EggThrones$Table" "places" "I" "EggThrones", .fieldLinkNest "EggThrones$Morning" 41 "EggThrones$Table" "toast" "I" "EggThrones", .fieldLinkNest "EggThrones" 136 "EggThrones$Table" "limit" "I" "EggThrones", .fieldLinkNest "EggThrones$Morning" 96 "EggThrones$Table" "limit" "I" "EggThrones", .fieldLinkNest "EggThrones" 127 "EggThrones$Table" "eggs" "I" "EggThrones", .fieldLinkNest "EggThrones$Text" 69 "EggThrones$Table" "eggs" "I" "EggThrones", .fieldLinkNest "EggThrones" 139 "EggThrones$Table" "eaters" "I" "EggThrones", .fieldLinkNest "EggThrones$Text" 75 "EggThrones$Table" "eaters" "I" "EggThrones", .fieldLinkNest "EggThrones" 145 "EggThrones$Morning" "king" "I" "EggThrones", .fieldLinkNest "EggThrones" 148 "EggThrones$Morning" "left" "I" "EggThrones", .fieldLinkNest "EggThrones$Succession" 39 "EggThrones$Morning" "soldiers" "I" "EggThrones", .fieldLinkNest "EggThrones" 133 "EggThrones$Morning" "soldiers" "I" "EggThrones", .fieldLinkNest "EggThrones" 142 "EggThrones$Morning" "minutes" "I" "EggThrones", .fieldLinkNest "EggThrones" 151 "EggThrones$Morning" "reigned" "I" "EggThrones", .fieldLinkNest "EggThrones" 154 "EggThrones$Morning" "scraped" "I" "EggThrones", .fieldLinkNest "EggThrones" 171 "EggThrones$Past" "count" "I" "EggThrones", .fieldLinkNest "EggThrones" 167 "EggThrones$Clues" "count" "I" "EggThrones", .fieldLinkNest "EggThrones" 170 "EggThrones$Book" "count" "I" "EggThrones", .fieldLinkNest "EggThrones" 278 "EggThrones$Succession" "kings" "I" "EggThrones", .fieldLinkNest "EggThrones" 281 "EggThrones$Succession" "minutes" "I" "EggThrones", .fieldLinkNest "EggThrones" 282 "EggThrones$Succession" "set" "I" "EggThrones", .methodLinkNest "EggThrones$Text" 89 ⟨"EggThrones", "isWithin", "(III)Z"⟩ "EggThrones", .methodLinkNest "EggThrones$Sharing" 40 ⟨"EggThrones", "isWithin", "(III)Z"⟩ "EggThrones"]
def Nst (U : State) : Prop := ∀ w ∈ nestL, va_Nw w U
theorem nest_kind : ∀ w ∈ nestL, (∃ a i b n d h, w = Cond.fieldLinkNest a i b n d h) ∨ (∃ a i x h, w = Cond.methodLinkNest a i x h) := by
  unfold nestL
  repeat (first | exact fun _ h => absurd h List.not_mem_nil | refine List.forall_mem_cons.mpr ⟨by first | exact Or.inl ⟨_, _, _, _, _, _, rfl⟩ | exact Or.inr ⟨_, _, _, _, rfl⟩, ?_⟩)
theorem Nst.warm {s U : State} (hW : s.WarmedH U.vm) (h : Nst s) : Nst U := by
  intro w hw
  rcases nest_kind w hw with ⟨a, i, b, n, d, h', rfl⟩ | ⟨a, i, x, h', rfl⟩
  · exact va_Nw.warmF hW (h _ hw)
  · exact va_Nw.warmM hW (h _ hw)
theorem Nst.same {s U : State} (e : s.vm = U.vm) (h : Nst s) : Nst U := by
  intro w hw
  rcases nest_kind w hw with ⟨a, i, b, n, d, h', rfl⟩ | ⟨a, i, x, h', rfl⟩
  · exact va_Nw.same rfl e (h _ hw)
  · exact va_Nw.same rfl e (h _ hw)
/-- a method's start and end: the cells, the tables, the nest -/
def CX (D : va_G) (tys : List (ClassId × FieldType)) (A : Nat → Prop) (w : va_W) (U : State) : Prop := va_P D vwCl w U.heap ∧ va_K D vwCl tys U ∧ va_D A w ∧ Nst U
theorem CX.blind {D : va_G} {tys : List (ClassId × FieldType)} {A : Nat → Prop} {w : va_W} {av : List Value} : FrameBlind (va_Pc av (CX D tys A w)) := by
  intro a U g mk h
  obtain ⟨h0, hP, hK, hD, hN⟩ := h
  exact ⟨h0, hP, va_K.moved (u := U) (U := U.calling g mk a) (Vm.Alike.refl U.vm) hK, hD, Nst.same (s := U) (U := U.calling g mk a) rfl hN⟩
/-- what a walk stands on -/
def Cx (p : Program) (s : State) (m : MethodId) (args : Array Value) (meth : Method) (c : Code) (D : va_G) (tys : List (ClassId × FieldType)) (cc : ByteArray) (ret : Option FieldType) (nL : Nat) (ws : List Cond) (own : String) : Prop :=
  p.tables.exec = Jvm.exec ∧ c.code = cc ∧ meth.sig.returnType = ret ∧ c.maxLocals = nL ∧ s.vm.findClass own = some m.cls ∧ (∀ w ∈ ws, w.before args s = true) ∧ meth.locks = false ∧ va_K D vwCl tys s ∧ Nst s
def Wd (D : va_G) (A : Nat → Prop) (s : State) (w : va_W) (H : Heap) (locs : List Loc) : Prop := va_P D vwCl w H ∧ va_D A w ∧ va_S A s.heap H locs
theorem opn {l : Launch} {y : MethodName} {ws ws' : List Cond} {rm : Room} {cc : ByteArray} {maxL : Nat} {ret : Option FieldType} {av : List Value} {D : va_G} {tys : List (ClassId × FieldType)} {A : Nat → Prop} {w : va_W} {Qc : Array Value → State → Outcome → State → Prop}
    (hy : plainName y.cls = true) (hw : ws = .code y cc maxL ret :: ws') (hlen : (lg_sl av).length ≤ maxL)
    (body : ∀ (p : Program) (e : Env) (s : State) (m : MethodId) (below : List Frame) (meth : Method) (c : Code), Cx p s m av.toArray meth c D tys cc ret maxL ws y.cls → ∀ ls : Array Slot, Wd D A s w s.heap [] → lv_has ls maxL (lv_args 0 av) → W p l e rm s m av.toArray below meth c s.heap [] 0 0 (MQ below Qc av.toArray s 0 0 A) (F0 m 0 ls [])) :
    Met l y ws rm (va_Pc av (CX D tys A w)) Qc 0 0 A := by
  refine Met.ofW (cc := cc) (maxL := maxL) (ret := ret) hy hw ?_
  intro p e s m args below meth c s₁ B hml hv
  obtain ⟨rfl, hP, hK, hD, hN⟩ := hv
  rw [lg_entry_eq]
  exact body p e s m below meth c ⟨B.exec, B.bytes, B.returns, hml, findClass_of_methodNamed B.named, atoms_spec (ws := ws) B.pre, B.notSynchronized, hK, hN⟩ _ ⟨hP, hD, va_S.rf⟩ (lv_entry av hlen)
abbrev QI (D : va_G) (tys : List (ClassId × FieldType)) (A : Nat → Prop) (w : va_W) (r : Int32) : Array Value → State → Outcome → State → Prop := va_Qi (fun (r' : Int32) (_ : Unit) => r' = r) (fun _ t => CX D tys A w t) A
abbrev QV (D : va_G) (tys : List (ClassId × FieldType)) (A : Nat → Prop) (w : va_W) : Array Value → State → Outcome → State → Prop := va_Qv (fun (_ : Unit) => True) (fun _ t => CX D tys A w t) A
def RtI (p : Program) (l : Launch) (e : Env) (R : Room) (s : State) (m : MethodId) (args : Array Value) (below : List Frame) (meth : Method) (c : Code) (D : va_G) (A : Nat → Prop) (cc : ByteArray) (Q : State → Prop) (w : va_W) (r : Int32) : Prop :=
  ∀ (H : Heap) (locs : List Loc) (ls : Array Slot) (pc : Nat), decode cc pc = .ok (.ireturn, 1) → Wd D A s w H locs → W p l e R s m args below meth c H locs 0 0 Q (F0 m pc ls [.int r])
def RtZ (p : Program) (l : Launch) (e : Env) (R : Room) (s : State) (m : MethodId) (args : Array Value) (below : List Frame) (meth : Method) (c : Code) (D : va_G) (A : Nat → Prop) (cc : ByteArray) (Q : State → Prop) (w : va_W) (r : Int32) : Prop :=
  ∀ (H : Heap) (locs : List Loc) (ls : Array Slot) (pc : Nat), decode cc pc = .ok (.ireturn, 1) → narrow .boolean (.int r) = .int r → Wd D A s w H locs → W p l e R s m args below meth c H locs 0 0 Q (F0 m pc ls [.int r])
def RtV (p : Program) (l : Launch) (e : Env) (R : Room) (s : State) (m : MethodId) (args : Array Value) (below : List Frame) (meth : Method) (c : Code) (D : va_G) (A : Nat → Prop) (cc : ByteArray) (Q : State → Prop) (w : va_W) : Prop :=
  ∀ (H : Heap) (locs : List Loc) (ls : Array Slot) (pc : Nat), decode cc pc = .ok (.return_, 1) → Wd D A s w H locs → W p l e R s m args below meth c H locs 0 0 Q (F0 m pc ls [])
section RT
variable {p : Program} {l : Launch} {e : Env} {R : Room} {s : State} {m : MethodId} {args : Array Value} {below : List Frame} {meth : Method} {c : Code} {D : va_G} {tys : List (ClassId × FieldType)} {A : Nat → Prop} {cc : ByteArray} {ret : Option FieldType} {nL : Nat} {ws : List Cond} {own : String} {w w' : va_W} {r : Int32} {H : Heap} {locs : List Loc} {Q : State → Prop}
theorem rtI (C : Cx p s m args meth c D tys cc (some .int) nL ws own) : RtI p l e R s m args below meth c D A cc (MQ below (QI D tys A w r) args s 0 0 A) w r := by
  intro H locs ls pc hd hw
  obtain ⟨hx, hb, hr, hml, hown, hts, hlk, hK, hN⟩ := C
  exact W.iret hx hb hr (fun t ht hW => ⟨⟨r, (), rfl, rfl, ⟨by rw [ht]; exact hw.1, va_K.moved hW.alike hK, hw.2.1, hN.warm hW⟩⟩, hw.2.2.F ht⟩) hw.2.2.2.2 hd hlk
theorem rtZ (C : Cx p s m args meth c D tys cc (some .boolean) nL ws own) : RtZ p l e R s m args below meth c D A cc (MQ below (QI D tys A w r) args s 0 0 A) w r := by
  intro H locs ls pc hd hn hw
  obtain ⟨hx, hb, hr, hml, hown, hts, hlk, hK, hN⟩ := C
  exact W.zret hx hb hr hn (fun t ht hW => ⟨⟨r, (), rfl, rfl, ⟨by rw [ht]; exact hw.1, va_K.moved hW.alike hK, hw.2.1, hN.warm hW⟩⟩, hw.2.2.F ht⟩) hw.2.2.2.2 hd hlk
theorem rtV (C : Cx p s m args meth c D tys cc none nL ws own) : RtV p l e R s m args below meth c D A cc (MQ below (QV D tys A w) args s 0 0 A) w := by
  intro H locs ls pc hd hw
  obtain ⟨hx, hb, hr, hml, hown, hts, hlk, hK, hN⟩ := C
  exact W.vret hx hb hr (fun t ht hW => ⟨⟨(), rfl, trivial, ⟨by rw [ht]; exact hw.1, va_K.moved hW.alike hK, hw.2.1, hN.warm hW⟩⟩, hw.2.2.F ht⟩) hw.2.2.2.2 hd hlk
variable {y : MethodName} {ys : List Cond} {rm : Room} {bytes : ByteArray} {maxL n index pc : Nat} {rt : Option FieldType} {K : String} {b : Nat} {As rest stk : List Value} {ls : Array Slot} {fs : List Value} {T : u_T} {N : Nat} {host : String}
/-- a call on a cell of the world -/
theorem gVi (C : Cx p s m args meth c D tys cc ret nL ws own) (hw : Wd D A s w H locs) (hM : Met l y ys rm (va_Pc (.ref b :: As) (CX D tys A w)) (QI D tys A w' r) 0 0 A) (cw : CallW R s args own K index y bytes maxL rt ys rm 0 0 n) (ci i : Nat) (hc : vwCl[ci]? = some (K, T, N)) (he : w[i]? = some (b, .inr (ci, fs)))
    (hn : As.length = n) (hls : ls.size = nL) (hstk : stk = As.reverse ++ .ref b :: rest) (hroom : (rest.map fun v => v.category).sum ≤ 8) (hdg : decode cc pc = .ok (.invokevirtual index, 3))
    (kk : ∀ (H1 : Heap) (locs1 : List Loc), Wd D A s w' H1 locs1 → W p l e R s m args below meth c H1 locs1 0 0 Q (F0 m (pc + 3) ls (.int r :: rest))) : W p l e R s m args below meth c H locs 0 0 Q (F0 m pc ls stk) := by
  subst hstk
  obtain ⟨hx, hb, hr, hml, hown, hts, hlk, hK, hN⟩ := C
  obtain ⟨hP, hD, hS⟩ := hw
  refine va_calli (va_runV (As := As) (rest := rest) ⟨hx, hb, hml, hown, hts⟩ hM cw ⟨CX.blind, va_recv hK hP hc he, fun U hU hW => ⟨rfl, by rw [hU]; exact hP, va_K.moved hW.alike hK, hD, hN.warm hW⟩⟩ rfl hn hls rfl (lv_room hroom) hdg ⟨Nat.zero_le _, Nat.zero_le _⟩) hS (fun q _ h => h) (fun q h => h) (fun r1 u t H1 locs1 ht hvm hp hB hz hk hS => ?_)
  subst hp
  obtain ⟨hP1, hK1, hD1, -⟩ := hB
  rw [ht] at hP1
  exact kk H1 locs1 ⟨hP1, hD1, hS⟩
theorem gVv (C : Cx p s m args meth c D tys cc ret nL ws own) (hw : Wd D A s w H locs) (hM : Met l y ys rm (va_Pc (.ref b :: As) (CX D tys A w)) (QV D tys A w') 0 0 A) (cw : CallW R s args own K index y bytes maxL rt ys rm 0 0 n) (ci i : Nat) (hc : vwCl[ci]? = some (K, T, N)) (he : w[i]? = some (b, .inr (ci, fs)))
    (hn : As.length = n) (hls : ls.size = nL) (hstk : stk = As.reverse ++ .ref b :: rest) (hroom : (rest.map fun v => v.category).sum ≤ 8) (hdg : decode cc pc = .ok (.invokevirtual index, 3))
    (kk : ∀ (H1 : Heap) (locs1 : List Loc), Wd D A s w' H1 locs1 → W p l e R s m args below meth c H1 locs1 0 0 Q (F0 m (pc + 3) ls rest)) : W p l e R s m args below meth c H locs 0 0 Q (F0 m pc ls stk) := by
  subst hstk
  obtain ⟨hx, hb, hr, hml, hown, hts, hlk, hK, hN⟩ := C
  obtain ⟨hP, hD, hS⟩ := hw
  refine va_callv (va_runV (As := As) (rest := rest) ⟨hx, hb, hml, hown, hts⟩ hM cw ⟨CX.blind, va_recv hK hP hc he, fun U hU hW => ⟨rfl, by rw [hU]; exact hP, va_K.moved hW.alike hK, hD, hN.warm hW⟩⟩ rfl hn hls rfl (lv_room hroom) hdg ⟨Nat.zero_le _, Nat.zero_le _⟩) hS (fun q _ h => h) (fun q h => h) (fun u t H1 locs1 ht hvm hp hB hz hk hS => ?_)
  obtain ⟨hP1, hK1, hD1, -⟩ := hB
  rw [ht] at hP1
  exact kk H1 locs1 ⟨hP1, hD1, hS⟩
theorem gSi (C : Cx p s m args meth c D tys cc ret nL ws own) (hw : Wd D A s w H locs) (hM : Met l y ys rm (va_Pc As (CX D tys A w)) (QI D tys A w' r) 0 0 A) (cw : CallB R s args own index y bytes maxL rt ys rm 0 0 n ∧ (Cond.static y).before args s = true)
    (hn : As.length = n) (hls : ls.size = nL) (hstk : stk = As.reverse ++ rest) (hroom : (rest.map fun v => v.category).sum ≤ 8) (hdg : decode cc pc = .ok (.invokestatic index, 3))
    (kk : ∀ (H1 : Heap) (locs1 : List Loc), Wd D A s w' H1 locs1 → W p l e R s m args below meth c H1 locs1 0 0 Q (F0 m (pc + 3) ls (.int r :: rest))) : W p l e R s m args below meth c H locs 0 0 Q (F0 m pc ls stk) := by
  subst hstk
  obtain ⟨hx, hb, hr, hml, hown, hts, hlk, hK, hN⟩ := C
  obtain ⟨hP, hD, hS⟩ := hw
  refine va_calli (va_runS (As := As) (rest := rest) ⟨hx, hb, hml, hown, hts⟩ hM cw ⟨CX.blind, fun U hU hW => ⟨rfl, by rw [hU]; exact hP, va_K.moved hW.alike hK, hD, hN.warm hW⟩⟩ rfl hn hls rfl (lv_room hroom) hdg ⟨Nat.zero_le _, Nat.zero_le _⟩) hS (fun q _ h => h) (fun q h => h) (fun r1 u t H1 locs1 ht hvm hp hB hz hk hS => ?_)
  subst hp
  obtain ⟨hP1, hK1, hD1, -⟩ := hB
  rw [ht] at hP1
  exact kk H1 locs1 ⟨hP1, hD1, hS⟩
theorem gSv (C : Cx p s m args meth c D tys cc ret nL ws own) (hw : Wd D A s w H locs) (hM : Met l y ys rm (va_Pc As (CX D tys A w)) (QV D tys A w') 0 0 A) (cw : CallB R s args own index y bytes maxL rt ys rm 0 0 n ∧ (Cond.static y).before args s = true)
    (hn : As.length = n) (hls : ls.size = nL) (hstk : stk = As.reverse ++ rest) (hroom : (rest.map fun v => v.category).sum ≤ 8) (hdg : decode cc pc = .ok (.invokestatic index, 3))
    (kk : ∀ (H1 : Heap) (locs1 : List Loc), Wd D A s w' H1 locs1 → W p l e R s m args below meth c H1 locs1 0 0 Q (F0 m (pc + 3) ls rest)) : W p l e R s m args below meth c H locs 0 0 Q (F0 m pc ls stk) := by
  subst hstk
  obtain ⟨hx, hb, hr, hml, hown, hts, hlk, hK, hN⟩ := C
  obtain ⟨hP, hD, hS⟩ := hw
  refine va_callv (va_runS (As := As) (rest := rest) ⟨hx, hb, hml, hown, hts⟩ hM cw ⟨CX.blind, fun U hU hW => ⟨rfl, by rw [hU]; exact hP, va_K.moved hW.alike hK, hD, hN.warm hW⟩⟩ rfl hn hls rfl (lv_room hroom) hdg ⟨Nat.zero_le _, Nat.zero_le _⟩) hS (fun q _ h => h) (fun q h => h) (fun u t H1 locs1 ht hvm hp hB hz hk hS => ?_)
  obtain ⟨hP1, hK1, hD1, -⟩ := hB
  rw [ht] at hP1
  exact kk H1 locs1 ⟨hP1, hD1, hS⟩
theorem gSNi (C : Cx p s m args meth c D tys cc ret nL ws own) (hw : Wd D A s w H locs) (hM : Met l y ys rm (va_Pc As (CX D tys A w)) (QI D tys A w' r) 0 0 A) (cw : va_CN R s args own index y host bytes maxL rt ys rm 0 0 n ∧ (Cond.static y).before args s = true ∧ True)
    (hn : As.length = n) (hls : ls.size = nL) (hstk : stk = As.reverse ++ rest) (hroom : (rest.map fun v => v.category).sum ≤ 8) (hdg : decode cc pc = .ok (.invokestatic index, 3))
    (kk : ∀ (H1 : Heap) (locs1 : List Loc), Wd D A s w' H1 locs1 → W p l e R s m args below meth c H1 locs1 0 0 Q (F0 m (pc + 3) ls (.int r :: rest))) : W p l e R s m args below meth c H locs 0 0 Q (F0 m pc ls stk) := by
  subst hstk
  obtain ⟨hx, hb, hr, hml, hown, hts, hlk, hK, hN⟩ := C
  obtain ⟨hP, hD, hS⟩ := hw
  refine va_calli (va_runSN (As := As) (rest := rest) ⟨hx, hb, hml, hown, hts⟩ hM cw ⟨CX.blind, fun U hU hW => ⟨rfl, by rw [hU]; exact hP, va_K.moved hW.alike hK, hD, hN.warm hW⟩⟩ rfl hn hls rfl (lv_room hroom) hdg ⟨Nat.zero_le _, Nat.zero_le _⟩) hS (fun q _ h => h) (fun q h => h) (fun r1 u t H1 locs1 ht hvm hp hB hz hk hS => ?_)
  subst hp
  obtain ⟨hP1, hK1, hD1, -⟩ := hB
  rw [ht] at hP1
  exact kk H1 locs1 ⟨hP1, hD1, hS⟩
end RT
theorem nz01 {v : Int32} (h : v = 0 ∨ v = 1) : narrow .boolean (.int v) = .int v := by
  rcases h with rfl | rfl <;> decide +kernel
/-- outside a table of 0 .. n -/
theorem tsOut {x : Int32} (n : Nat) (hn : n < 1000) (h : ∀ k : Nat, k ≤ n → ¬ x = nI k) : x.toInt < 0 ∨ (n : Int) < x.toInt := by
  by_cases h0 : x.toInt < 0
  · exact Or.inl h0
  · by_cases h1 : (n : Int) < x.toInt
    · exact Or.inr h1
    · refine absurd ?_ (h x.toInt.toNat (by omega))
      apply Int32.toInt_inj.mp
      rw [nI_toInt (by omega)]
      omega
theorem cpFit {f : Nat → Int32} {k n : Nat} : ∀ i, i < n → fits .int (.int (f (k + i))) = true := fun _ _ => rfl
end
