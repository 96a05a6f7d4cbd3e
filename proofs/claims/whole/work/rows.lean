section
-- ===== PART A: goes FIRST, ahead of the names: the tables' words, and 'selects' of the private methods out of them =====
/-- a private method of a class that the tables say can be made, by its rows of tables_1 -/
def lw_okq (q : MethodName × Nat) : Prop := (q.1.cls ≠ "java/lang/invoke/MethodHandle" ∧ q.1.cls ≠ "java/lang/invoke/VarHandle") ∧ Cond.instantiable q.1.cls q.2 ∈ tables_1 ∧ Cond.privateMethod q.1 ∈ tables_1 ∧ Cond.instanceMethod q.1 ∈ tables_1
theorem lw_p0 : lw_okq (⟨"SilentTurn", "isTray", "(I)Z"⟩, 19) := ⟨⟨by decide +kernel, by decide +kernel⟩, List.mem_of_getElem? (i := 23) (by decide +kernel), List.mem_of_getElem? (i := 580) (by decide +kernel), List.mem_of_getElem? (i := 581) (by decide +kernel)⟩
theorem lw_p1 : lw_okq (⟨"SilentTurn", "refuse", "(I)Z"⟩, 19) := ⟨⟨by decide +kernel, by decide +kernel⟩, List.mem_of_getElem? (i := 23) (by decide +kernel), List.mem_of_getElem? (i := 587) (by decide +kernel), List.mem_of_getElem? (i := 588) (by decide +kernel)⟩
theorem lw_p2 : lw_okq (⟨"SilentTurn", "agree", "()Z"⟩, 19) := ⟨⟨by decide +kernel, by decide +kernel⟩, List.mem_of_getElem? (i := 23) (by decide +kernel), List.mem_of_getElem? (i := 598) (by decide +kernel), List.mem_of_getElem? (i := 599) (by decide +kernel)⟩
theorem lw_p3 : lw_okq (⟨"SilentTurn", "placeStatus", "(II)I"⟩, 19) := ⟨⟨by decide +kernel, by decide +kernel⟩, List.mem_of_getElem? (i := 23) (by decide +kernel), List.mem_of_getElem? (i := 606) (by decide +kernel), List.mem_of_getElem? (i := 607) (by decide +kernel)⟩
theorem lw_p4 : lw_okq (⟨"SilentTurn$Tray", "cut", "(J)J"⟩, 4) := ⟨⟨by decide +kernel, by decide +kernel⟩, List.mem_of_getElem? (i := 482) (by decide +kernel), List.mem_of_getElem? (i := 614) (by decide +kernel), List.mem_of_getElem? (i := 615) (by decide +kernel)⟩
theorem lw_p5 : lw_okq (⟨"SilentTurn", "none", "(I)I"⟩, 19) := ⟨⟨by decide +kernel, by decide +kernel⟩, List.mem_of_getElem? (i := 23) (by decide +kernel), List.mem_of_getElem? (i := 622) (by decide +kernel), List.mem_of_getElem? (i := 623) (by decide +kernel)⟩
theorem lw_p6 : lw_okq (⟨"SilentTurn$Tape", "readWord", "()V"⟩, 12) := ⟨⟨by decide +kernel, by decide +kernel⟩, List.mem_of_getElem? (i := 33) (by decide +kernel), List.mem_of_getElem? (i := 657) (by decide +kernel), List.mem_of_getElem? (i := 658) (by decide +kernel)⟩
theorem lw_p7 : lw_okq (⟨"SilentTurn$Tape", "readNumber", "()V"⟩, 12) := ⟨⟨by decide +kernel, by decide +kernel⟩, List.mem_of_getElem? (i := 33) (by decide +kernel), List.mem_of_getElem? (i := 661) (by decide +kernel), List.mem_of_getElem? (i := 662) (by decide +kernel)⟩
theorem lw_p8 : lw_okq (⟨"SilentTurn$Tape", "readSign", "()V"⟩, 12) := ⟨⟨by decide +kernel, by decide +kernel⟩, List.mem_of_getElem? (i := 33) (by decide +kernel), List.mem_of_getElem? (i := 665) (by decide +kernel), List.mem_of_getElem? (i := 666) (by decide +kernel)⟩
theorem lw_p9 : lw_okq (⟨"SilentTurn$HouseReader", "takesPart", "()Z"⟩, 4) := ⟨⟨by decide +kernel, by decide +kernel⟩, List.mem_of_getElem? (i := 137) (by decide +kernel), List.mem_of_getElem? (i := 681) (by decide +kernel), List.mem_of_getElem? (i := 682) (by decide +kernel)⟩
theorem lw_p10 : lw_okq (⟨"SilentTurn$HouseReader", "takesTurn", "()Z"⟩, 4) := ⟨⟨by decide +kernel, by decide +kernel⟩, List.mem_of_getElem? (i := 137) (by decide +kernel), List.mem_of_getElem? (i := 685) (by decide +kernel), List.mem_of_getElem? (i := 686) (by decide +kernel)⟩
theorem lw_p11 : lw_okq (⟨"SilentTurn$HouseReader", "takesOdds", "()Z"⟩, 4) := ⟨⟨by decide +kernel, by decide +kernel⟩, List.mem_of_getElem? (i := 137) (by decide +kernel), List.mem_of_getElem? (i := 704) (by decide +kernel), List.mem_of_getElem? (i := 705) (by decide +kernel)⟩
theorem lw_p12 : lw_okq (⟨"SilentTurn$HouseReader", "takesTopic", "()Z"⟩, 4) := ⟨⟨by decide +kernel, by decide +kernel⟩, List.mem_of_getElem? (i := 137) (by decide +kernel), List.mem_of_getElem? (i := 708) (by decide +kernel), List.mem_of_getElem? (i := 709) (by decide +kernel)⟩
theorem lw_p13 : lw_okq (⟨"SilentTurn$HouseReader", "takeNewName", "()J"⟩, 4) := ⟨⟨by decide +kernel, by decide +kernel⟩, List.mem_of_getElem? (i := 137) (by decide +kernel), List.mem_of_getElem? (i := 712) (by decide +kernel), List.mem_of_getElem? (i := 713) (by decide +kernel)⟩
theorem lw_p14 : lw_okq (⟨"SilentTurn$HouseReader", "takesMonk", "()Z"⟩, 4) := ⟨⟨by decide +kernel, by decide +kernel⟩, List.mem_of_getElem? (i := 137) (by decide +kernel), List.mem_of_getElem? (i := 736) (by decide +kernel), List.mem_of_getElem? (i := 737) (by decide +kernel)⟩
theorem lw_p15 : lw_okq (⟨"SilentTurn$HouseReader", "takesFollows", "()Z"⟩, 4) := ⟨⟨by decide +kernel, by decide +kernel⟩, List.mem_of_getElem? (i := 137) (by decide +kernel), List.mem_of_getElem? (i := 751) (by decide +kernel), List.mem_of_getElem? (i := 752) (by decide +kernel)⟩
def lw_privs_1 : List (MethodName × Nat) := [(⟨"SilentTurn", "isTray", "(I)Z"⟩, 19), (⟨"SilentTurn", "refuse", "(I)Z"⟩, 19), (⟨"SilentTurn", "agree", "()Z"⟩, 19), (⟨"SilentTurn", "placeStatus", "(II)I"⟩, 19), (⟨"SilentTurn$Tray", "cut", "(J)J"⟩, 4), (⟨"SilentTurn", "none", "(I)I"⟩, 19), (⟨"SilentTurn$Tape", "readWord", "()V"⟩, 12), (⟨"SilentTurn$Tape", "readNumber", "()V"⟩, 12), (⟨"SilentTurn$Tape", "readSign", "()V"⟩, 12), (⟨"SilentTurn$HouseReader", "takesPart", "()Z"⟩, 4), (⟨"SilentTurn$HouseReader", "takesTurn", "()Z"⟩, 4), (⟨"SilentTurn$HouseReader", "takesOdds", "()Z"⟩, 4), (⟨"SilentTurn$HouseReader", "takesTopic", "()Z"⟩, 4), (⟨"SilentTurn$HouseReader", "takeNewName", "()J"⟩, 4), (⟨"SilentTurn$HouseReader", "takesMonk", "()Z"⟩, 4), (⟨"SilentTurn$HouseReader", "takesFollows", "()Z"⟩, 4)]
theorem lw_r1 : ∀ q ∈ lw_privs_1, lw_okq q := List.forall_mem_cons.mpr ⟨lw_p0, List.forall_mem_cons.mpr ⟨lw_p1, List.forall_mem_cons.mpr ⟨lw_p2, List.forall_mem_cons.mpr ⟨lw_p3, List.forall_mem_cons.mpr ⟨lw_p4, List.forall_mem_cons.mpr ⟨lw_p5, List.forall_mem_cons.mpr ⟨lw_p6, List.forall_mem_cons.mpr ⟨lw_p7, List.forall_mem_cons.mpr ⟨lw_p8, List.forall_mem_cons.mpr ⟨lw_p9, List.forall_mem_cons.mpr ⟨lw_p10, List.forall_mem_cons.mpr ⟨lw_p11, List.forall_mem_cons.mpr ⟨lw_p12, List.forall_mem_cons.mpr ⟨lw_p13, List.forall_mem_cons.mpr ⟨lw_p14, List.forall_mem_cons.mpr ⟨lw_p15, fun _ h => absurd h List.not_mem_nil⟩⟩⟩⟩⟩⟩⟩⟩⟩⟩⟩⟩⟩⟩⟩⟩
theorem lw_p16 : lw_okq (⟨"SilentTurn$HouseReader", "takesRoster", "()Z"⟩, 4) := ⟨⟨by decide +kernel, by decide +kernel⟩, List.mem_of_getElem? (i := 137) (by decide +kernel), List.mem_of_getElem? (i := 761) (by decide +kernel), List.mem_of_getElem? (i := 762) (by decide +kernel)⟩
theorem lw_p17 : lw_okq (⟨"SilentTurn$HouseReader", "takesHears", "()Z"⟩, 4) := ⟨⟨by decide +kernel, by decide +kernel⟩, List.mem_of_getElem? (i := 137) (by decide +kernel), List.mem_of_getElem? (i := 769) (by decide +kernel), List.mem_of_getElem? (i := 770) (by decide +kernel)⟩
theorem lw_p18 : lw_okq (⟨"SilentTurn", "give", "(I)I"⟩, 19) := ⟨⟨by decide +kernel, by decide +kernel⟩, List.mem_of_getElem? (i := 23) (by decide +kernel), List.mem_of_getElem? (i := 781) (by decide +kernel), List.mem_of_getElem? (i := 782) (by decide +kernel)⟩
theorem lw_p19 : lw_okq (⟨"SilentTurn$DaysReader", "takesEnd", "()Z"⟩, 5) := ⟨⟨by decide +kernel, by decide +kernel⟩, List.mem_of_getElem? (i := 156) (by decide +kernel), List.mem_of_getElem? (i := 794) (by decide +kernel), List.mem_of_getElem? (i := 795) (by decide +kernel)⟩
theorem lw_p20 : lw_okq (⟨"SilentTurn$DaysReader", "takesStep", "()Z"⟩, 5) := ⟨⟨by decide +kernel, by decide +kernel⟩, List.mem_of_getElem? (i := 156) (by decide +kernel), List.mem_of_getElem? (i := 805) (by decide +kernel), List.mem_of_getElem? (i := 806) (by decide +kernel)⟩
theorem lw_p21 : lw_okq (⟨"SilentTurn$DaysReader", "addStep", "(I)I"⟩, 5) := ⟨⟨by decide +kernel, by decide +kernel⟩, List.mem_of_getElem? (i := 156) (by decide +kernel), List.mem_of_getElem? (i := 809) (by decide +kernel), List.mem_of_getElem? (i := 810) (by decide +kernel)⟩
theorem lw_p22 : lw_okq (⟨"SilentTurn$DaysReader", "takesNumber", "(III)Z"⟩, 5) := ⟨⟨by decide +kernel, by decide +kernel⟩, List.mem_of_getElem? (i := 156) (by decide +kernel), List.mem_of_getElem? (i := 816) (by decide +kernel), List.mem_of_getElem? (i := 817) (by decide +kernel)⟩
theorem lw_p23 : lw_okq (⟨"SilentTurn$DaysReader", "takesMonk", "(I)Z"⟩, 5) := ⟨⟨by decide +kernel, by decide +kernel⟩, List.mem_of_getElem? (i := 156) (by decide +kernel), List.mem_of_getElem? (i := 821) (by decide +kernel), List.mem_of_getElem? (i := 822) (by decide +kernel)⟩
theorem lw_p24 : lw_okq (⟨"SilentTurn$DaysReader", "takesTest", "(I)Z"⟩, 5) := ⟨⟨by decide +kernel, by decide +kernel⟩, List.mem_of_getElem? (i := 156) (by decide +kernel), List.mem_of_getElem? (i := 827) (by decide +kernel), List.mem_of_getElem? (i := 828) (by decide +kernel)⟩
theorem lw_p25 : lw_okq (⟨"SilentTurn", "isTopic", "(I)Z"⟩, 19) := ⟨⟨by decide +kernel, by decide +kernel⟩, List.mem_of_getElem? (i := 23) (by decide +kernel), List.mem_of_getElem? (i := 848) (by decide +kernel), List.mem_of_getElem? (i := 849) (by decide +kernel)⟩
theorem lw_p26 : lw_okq (⟨"SilentTurn", "isMonk", "(I)Z"⟩, 19) := ⟨⟨by decide +kernel, by decide +kernel⟩, List.mem_of_getElem? (i := 23) (by decide +kernel), List.mem_of_getElem? (i := 864) (by decide +kernel), List.mem_of_getElem? (i := 865) (by decide +kernel)⟩
theorem lw_p27 : lw_okq (⟨"SilentTurn", "giveOrNone", "(I)I"⟩, 19) := ⟨⟨by decide +kernel, by decide +kernel⟩, List.mem_of_getElem? (i := 23) (by decide +kernel), List.mem_of_getElem? (i := 888) (by decide +kernel), List.mem_of_getElem? (i := 889) (by decide +kernel)⟩
theorem lw_p28 : lw_okq (⟨"SilentTurn$House", "rosteredSpeech", "()I"⟩, 12) := ⟨⟨by decide +kernel, by decide +kernel⟩, List.mem_of_getElem? (i := 188) (by decide +kernel), List.mem_of_getElem? (i := 904) (by decide +kernel), List.mem_of_getElem? (i := 905) (by decide +kernel)⟩
theorem lw_p29 : lw_okq (⟨"SilentTurn$House", "mayTalk", "(I)Z"⟩, 12) := ⟨⟨by decide +kernel, by decide +kernel⟩, List.mem_of_getElem? (i := 188) (by decide +kernel), List.mem_of_getElem? (i := 912) (by decide +kernel), List.mem_of_getElem? (i := 913) (by decide +kernel)⟩
theorem lw_p30 : lw_okq (⟨"SilentTurn$House", "open", "()I"⟩, 12) := ⟨⟨by decide +kernel, by decide +kernel⟩, List.mem_of_getElem? (i := 188) (by decide +kernel), List.mem_of_getElem? (i := 916) (by decide +kernel), List.mem_of_getElem? (i := 917) (by decide +kernel)⟩
theorem lw_p31 : lw_okq (⟨"SilentTurn$House", "helpingSpeech", "()I"⟩, 12) := ⟨⟨by decide +kernel, by decide +kernel⟩, List.mem_of_getElem? (i := 188) (by decide +kernel), List.mem_of_getElem? (i := 924) (by decide +kernel), List.mem_of_getElem? (i := 925) (by decide +kernel)⟩
def lw_privs_2 : List (MethodName × Nat) := [(⟨"SilentTurn$HouseReader", "takesRoster", "()Z"⟩, 4), (⟨"SilentTurn$HouseReader", "takesHears", "()Z"⟩, 4), (⟨"SilentTurn", "give", "(I)I"⟩, 19), (⟨"SilentTurn$DaysReader", "takesEnd", "()Z"⟩, 5), (⟨"SilentTurn$DaysReader", "takesStep", "()Z"⟩, 5), (⟨"SilentTurn$DaysReader", "addStep", "(I)I"⟩, 5), (⟨"SilentTurn$DaysReader", "takesNumber", "(III)Z"⟩, 5), (⟨"SilentTurn$DaysReader", "takesMonk", "(I)Z"⟩, 5), (⟨"SilentTurn$DaysReader", "takesTest", "(I)Z"⟩, 5), (⟨"SilentTurn", "isTopic", "(I)Z"⟩, 19), (⟨"SilentTurn", "isMonk", "(I)Z"⟩, 19), (⟨"SilentTurn", "giveOrNone", "(I)I"⟩, 19), (⟨"SilentTurn$House", "rosteredSpeech", "()I"⟩, 12), (⟨"SilentTurn$House", "mayTalk", "(I)Z"⟩, 12), (⟨"SilentTurn$House", "open", "()I"⟩, 12), (⟨"SilentTurn$House", "helpingSpeech", "()I"⟩, 12)]
theorem lw_r2 : ∀ q ∈ lw_privs_2, lw_okq q := List.forall_mem_cons.mpr ⟨lw_p16, List.forall_mem_cons.mpr ⟨lw_p17, List.forall_mem_cons.mpr ⟨lw_p18, List.forall_mem_cons.mpr ⟨lw_p19, List.forall_mem_cons.mpr ⟨lw_p20, List.forall_mem_cons.mpr ⟨lw_p21, List.forall_mem_cons.mpr ⟨lw_p22, List.forall_mem_cons.mpr ⟨lw_p23, List.forall_mem_cons.mpr ⟨lw_p24, List.forall_mem_cons.mpr ⟨lw_p25, List.forall_mem_cons.mpr ⟨lw_p26, List.forall_mem_cons.mpr ⟨lw_p27, List.forall_mem_cons.mpr ⟨lw_p28, List.forall_mem_cons.mpr ⟨lw_p29, List.forall_mem_cons.mpr ⟨lw_p30, List.forall_mem_cons.mpr ⟨lw_p31, fun _ h => absurd h List.not_mem_nil⟩⟩⟩⟩⟩⟩⟩⟩⟩⟩⟩⟩⟩⟩⟩⟩
theorem lw_p32 : lw_okq (⟨"SilentTurn", "isSet", "(I)Z"⟩, 19) := ⟨⟨by decide +kernel, by decide +kernel⟩, List.mem_of_getElem? (i := 23) (by decide +kernel), List.mem_of_getElem? (i := 1100) (by decide +kernel), List.mem_of_getElem? (i := 1101) (by decide +kernel)⟩
theorem lw_p33 : lw_okq (⟨"SilentTurn$Ahead", "tryMinute", "(I)V"⟩, 8) := ⟨⟨by decide +kernel, by decide +kernel⟩, List.mem_of_getElem? (i := 182) (by decide +kernel), List.mem_of_getElem? (i := 1136) (by decide +kernel), List.mem_of_getElem? (i := 1137) (by decide +kernel)⟩
theorem lw_p34 : lw_okq (⟨"SilentTurn$Ahead", "weigh", "(I)V"⟩, 8) := ⟨⟨by decide +kernel, by decide +kernel⟩, List.mem_of_getElem? (i := 182) (by decide +kernel), List.mem_of_getElem? (i := 1149) (by decide +kernel), List.mem_of_getElem? (i := 1150) (by decide +kernel)⟩
theorem lw_p35 : lw_okq (⟨"SilentTurn$Ahead", "next", "(III)V"⟩, 8) := ⟨⟨by decide +kernel, by decide +kernel⟩, List.mem_of_getElem? (i := 182) (by decide +kernel), List.mem_of_getElem? (i := 1154) (by decide +kernel), List.mem_of_getElem? (i := 1155) (by decide +kernel)⟩
theorem lw_p36 : lw_okq (⟨"SilentTurn$Talk", "goOn", "(LSilentTurn$Topics;III)V"⟩, 3) := ⟨⟨by decide +kernel, by decide +kernel⟩, List.mem_of_getElem? (i := 368) (by decide +kernel), List.mem_of_getElem? (i := 1171) (by decide +kernel), List.mem_of_getElem? (i := 1172) (by decide +kernel)⟩
theorem lw_p37 : lw_okq (⟨"SilentTurn$Talk", "closes", "(LSilentTurn$Topics;II)Z"⟩, 3) := ⟨⟨by decide +kernel, by decide +kernel⟩, List.mem_of_getElem? (i := 368) (by decide +kernel), List.mem_of_getElem? (i := 1190) (by decide +kernel), List.mem_of_getElem? (i := 1191) (by decide +kernel)⟩
theorem lw_p38 : lw_okq (⟨"SilentTurn", "heardStatus", "(II)I"⟩, 19) := ⟨⟨by decide +kernel, by decide +kernel⟩, List.mem_of_getElem? (i := 23) (by decide +kernel), List.mem_of_getElem? (i := 1221) (by decide +kernel), List.mem_of_getElem? (i := 1222) (by decide +kernel)⟩
theorem lw_p39 : lw_okq (⟨"SilentTurn$Ahead", "waysFrom", "(I)I"⟩, 8) := ⟨⟨by decide +kernel, by decide +kernel⟩, List.mem_of_getElem? (i := 182) (by decide +kernel), List.mem_of_getElem? (i := 1229) (by decide +kernel), List.mem_of_getElem? (i := 1230) (by decide +kernel)⟩
theorem lw_p40 : lw_okq (⟨"SilentTurn", "weighCoughs", "()V"⟩, 19) := ⟨⟨by decide +kernel, by decide +kernel⟩, List.mem_of_getElem? (i := 23) (by decide +kernel), List.mem_of_getElem? (i := 1261) (by decide +kernel), List.mem_of_getElem? (i := 1262) (by decide +kernel)⟩
theorem lw_p41 : lw_okq (⟨"SilentTurn", "tellFraction", "(JJ)V"⟩, 19) := ⟨⟨by decide +kernel, by decide +kernel⟩, List.mem_of_getElem? (i := 23) (by decide +kernel), List.mem_of_getElem? (i := 1266) (by decide +kernel), List.mem_of_getElem? (i := 1267) (by decide +kernel)⟩
theorem lw_p42 : lw_okq (⟨"SilentTurn$Life", "behindEnd", "(I)I"⟩, 11) := ⟨⟨by decide +kernel, by decide +kernel⟩, List.mem_of_getElem? (i := 386) (by decide +kernel), List.mem_of_getElem? (i := 1286) (by decide +kernel), List.mem_of_getElem? (i := 1287) (by decide +kernel)⟩
theorem lw_p43 : lw_okq (⟨"SilentTurn$Life", "behindStep", "(I)I"⟩, 11) := ⟨⟨by decide +kernel, by decide +kernel⟩, List.mem_of_getElem? (i := 386) (by decide +kernel), List.mem_of_getElem? (i := 1290) (by decide +kernel), List.mem_of_getElem? (i := 1291) (by decide +kernel)⟩
theorem lw_p44 : lw_okq (⟨"SilentTurn$Life", "miss", "(Z)V"⟩, 11) := ⟨⟨by decide +kernel, by decide +kernel⟩, List.mem_of_getElem? (i := 386) (by decide +kernel), List.mem_of_getElem? (i := 1294) (by decide +kernel), List.mem_of_getElem? (i := 1295) (by decide +kernel)⟩
theorem lw_p45 : lw_okq (⟨"SilentTurn$Life", "coughed", "()Z"⟩, 11) := ⟨⟨by decide +kernel, by decide +kernel⟩, List.mem_of_getElem? (i := 386) (by decide +kernel), List.mem_of_getElem? (i := 1302) (by decide +kernel), List.mem_of_getElem? (i := 1303) (by decide +kernel)⟩
theorem lw_p46 : lw_okq (⟨"SilentTurn$Life", "draw", "(I)I"⟩, 11) := ⟨⟨by decide +kernel, by decide +kernel⟩, List.mem_of_getElem? (i := 386) (by decide +kernel), List.mem_of_getElem? (i := 1306) (by decide +kernel), List.mem_of_getElem? (i := 1307) (by decide +kernel)⟩
theorem lw_p47 : lw_okq (⟨"SilentTurn$Life", "holds", "(I)Z"⟩, 11) := ⟨⟨by decide +kernel, by decide +kernel⟩, List.mem_of_getElem? (i := 386) (by decide +kernel), List.mem_of_getElem? (i := 1312) (by decide +kernel), List.mem_of_getElem? (i := 1313) (by decide +kernel)⟩
def lw_privs_3 : List (MethodName × Nat) := [(⟨"SilentTurn", "isSet", "(I)Z"⟩, 19), (⟨"SilentTurn$Ahead", "tryMinute", "(I)V"⟩, 8), (⟨"SilentTurn$Ahead", "weigh", "(I)V"⟩, 8), (⟨"SilentTurn$Ahead", "next", "(III)V"⟩, 8), (⟨"SilentTurn$Talk", "goOn", "(LSilentTurn$Topics;III)V"⟩, 3), (⟨"SilentTurn$Talk", "closes", "(LSilentTurn$Topics;II)Z"⟩, 3), (⟨"SilentTurn", "heardStatus", "(II)I"⟩, 19), (⟨"SilentTurn$Ahead", "waysFrom", "(I)I"⟩, 8), (⟨"SilentTurn", "weighCoughs", "()V"⟩, 19), (⟨"SilentTurn", "tellFraction", "(JJ)V"⟩, 19), (⟨"SilentTurn$Life", "behindEnd", "(I)I"⟩, 11), (⟨"SilentTurn$Life", "behindStep", "(I)I"⟩, 11), (⟨"SilentTurn$Life", "miss", "(Z)V"⟩, 11), (⟨"SilentTurn$Life", "coughed", "()Z"⟩, 11), (⟨"SilentTurn$Life", "draw", "(I)I"⟩, 11), (⟨"SilentTurn$Life", "holds", "(I)Z"⟩, 11)]
theorem lw_r3 : ∀ q ∈ lw_privs_3, lw_okq q := List.forall_mem_cons.mpr ⟨lw_p32, List.forall_mem_cons.mpr ⟨lw_p33, List.forall_mem_cons.mpr ⟨lw_p34, List.forall_mem_cons.mpr ⟨lw_p35, List.forall_mem_cons.mpr ⟨lw_p36, List.forall_mem_cons.mpr ⟨lw_p37, List.forall_mem_cons.mpr ⟨lw_p38, List.forall_mem_cons.mpr ⟨lw_p39, List.forall_mem_cons.mpr ⟨lw_p40, List.forall_mem_cons.mpr ⟨lw_p41, List.forall_mem_cons.mpr ⟨lw_p42, List.forall_mem_cons.mpr ⟨lw_p43, List.forall_mem_cons.mpr ⟨lw_p44, List.forall_mem_cons.mpr ⟨lw_p45, List.forall_mem_cons.mpr ⟨lw_p46, List.forall_mem_cons.mpr ⟨lw_p47, fun _ h => absurd h List.not_mem_nil⟩⟩⟩⟩⟩⟩⟩⟩⟩⟩⟩⟩⟩⟩⟩⟩
theorem lw_p48 : lw_okq (⟨"SilentTurnModel", "plain", "(I)V"⟩, 47) := ⟨⟨by decide +kernel, by decide +kernel⟩, List.mem_of_getElem? (i := 1341) (by decide +kernel), List.mem_of_getElem? (i := 1347) (by decide +kernel), List.mem_of_getElem? (i := 1348) (by decide +kernel)⟩
theorem lw_p49 : lw_okq (⟨"SilentTurnModel", "is", "(I)Z"⟩, 47) := ⟨⟨by decide +kernel, by decide +kernel⟩, List.mem_of_getElem? (i := 1341) (by decide +kernel), List.mem_of_getElem? (i := 1513) (by decide +kernel), List.mem_of_getElem? (i := 1514) (by decide +kernel)⟩
theorem lw_p50 : lw_okq (⟨"SilentTurnModel", "wrongPlace", "(II)I"⟩, 47) := ⟨⟨by decide +kernel, by decide +kernel⟩, List.mem_of_getElem? (i := 1341) (by decide +kernel), List.mem_of_getElem? (i := 1521) (by decide +kernel), List.mem_of_getElem? (i := 1522) (by decide +kernel)⟩
theorem lw_p51 : lw_okq (⟨"SilentTurnModel", "four", "(I)V"⟩, 47) := ⟨⟨by decide +kernel, by decide +kernel⟩, List.mem_of_getElem? (i := 1341) (by decide +kernel), List.mem_of_getElem? (i := 1541) (by decide +kernel), List.mem_of_getElem? (i := 1542) (by decide +kernel)⟩
theorem lw_p52 : lw_okq (⟨"SilentTurnModel", "begins", "(II)Z"⟩, 47) := ⟨⟨by decide +kernel, by decide +kernel⟩, List.mem_of_getElem? (i := 1341) (by decide +kernel), List.mem_of_getElem? (i := 1553) (by decide +kernel), List.mem_of_getElem? (i := 1554) (by decide +kernel)⟩
theorem lw_p53 : lw_okq (⟨"SilentTurnModel", "ahead", "()V"⟩, 47) := ⟨⟨by decide +kernel, by decide +kernel⟩, List.mem_of_getElem? (i := 1341) (by decide +kernel), List.mem_of_getElem? (i := 1557) (by decide +kernel), List.mem_of_getElem? (i := 1558) (by decide +kernel)⟩
theorem lw_p54 : lw_okq (⟨"SilentTurnModel", "byteAt", "(I)I"⟩, 47) := ⟨⟨by decide +kernel, by decide +kernel⟩, List.mem_of_getElem? (i := 1341) (by decide +kernel), List.mem_of_getElem? (i := 1561) (by decide +kernel), List.mem_of_getElem? (i := 1562) (by decide +kernel)⟩
theorem lw_p55 : lw_okq (⟨"SilentTurnModel", "refuse", "(I)I"⟩, 47) := ⟨⟨by decide +kernel, by decide +kernel⟩, List.mem_of_getElem? (i := 1341) (by decide +kernel), List.mem_of_getElem? (i := 1573) (by decide +kernel), List.mem_of_getElem? (i := 1574) (by decide +kernel)⟩
theorem lw_p56 : lw_okq (⟨"SilentTurnModel", "housePart", "()Z"⟩, 47) := ⟨⟨by decide +kernel, by decide +kernel⟩, List.mem_of_getElem? (i := 1341) (by decide +kernel), List.mem_of_getElem? (i := 1577) (by decide +kernel), List.mem_of_getElem? (i := 1578) (by decide +kernel)⟩
theorem lw_p57 : lw_okq (⟨"SilentTurnModel", "inWords", "(Ljava/lang/String;)I"⟩, 47) := ⟨⟨by decide +kernel, by decide +kernel⟩, List.mem_of_getElem? (i := 1341) (by decide +kernel), List.mem_of_getElem? (i := 1582) (by decide +kernel), List.mem_of_getElem? (i := 1583) (by decide +kernel)⟩
theorem lw_p58 : lw_okq (⟨"SilentTurnModel", "fails", "(I)Z"⟩, 47) := ⟨⟨by decide +kernel, by decide +kernel⟩, List.mem_of_getElem? (i := 1341) (by decide +kernel), List.mem_of_getElem? (i := 1588) (by decide +kernel), List.mem_of_getElem? (i := 1589) (by decide +kernel)⟩
theorem lw_p59 : lw_okq (⟨"SilentTurnModel", "number", "(III)Z"⟩, 47) := ⟨⟨by decide +kernel, by decide +kernel⟩, List.mem_of_getElem? (i := 1341) (by decide +kernel), List.mem_of_getElem? (i := 1592) (by decide +kernel), List.mem_of_getElem? (i := 1593) (by decide +kernel)⟩
theorem lw_p60 : lw_okq (⟨"SilentTurnModel", "aTopic", "()Z"⟩, 47) := ⟨⟨by decide +kernel, by decide +kernel⟩, List.mem_of_getElem? (i := 1341) (by decide +kernel), List.mem_of_getElem? (i := 1596) (by decide +kernel), List.mem_of_getElem? (i := 1597) (by decide +kernel)⟩
theorem lw_p61 : lw_okq (⟨"SilentTurnModel", "newOne", "(III)Z"⟩, 47) := ⟨⟨by decide +kernel, by decide +kernel⟩, List.mem_of_getElem? (i := 1341) (by decide +kernel), List.mem_of_getElem? (i := 1603) (by decide +kernel), List.mem_of_getElem? (i := 1604) (by decide +kernel)⟩
theorem lw_p62 : lw_okq (⟨"SilentTurnModel", "isName", "(Ljava/lang/String;)Z"⟩, 47) := ⟨⟨by decide +kernel, by decide +kernel⟩, List.mem_of_getElem? (i := 1341) (by decide +kernel), List.mem_of_getElem? (i := 1607) (by decide +kernel), List.mem_of_getElem? (i := 1608) (by decide +kernel)⟩
theorem lw_p63 : lw_okq (⟨"SilentTurnModel", "findHere", "(II)I"⟩, 47) := ⟨⟨by decide +kernel, by decide +kernel⟩, List.mem_of_getElem? (i := 1341) (by decide +kernel), List.mem_of_getElem? (i := 1611) (by decide +kernel), List.mem_of_getElem? (i := 1612) (by decide +kernel)⟩
def lw_privs_4 : List (MethodName × Nat) := [(⟨"SilentTurnModel", "plain", "(I)V"⟩, 47), (⟨"SilentTurnModel", "is", "(I)Z"⟩, 47), (⟨"SilentTurnModel", "wrongPlace", "(II)I"⟩, 47), (⟨"SilentTurnModel", "four", "(I)V"⟩, 47), (⟨"SilentTurnModel", "begins", "(II)Z"⟩, 47), (⟨"SilentTurnModel", "ahead", "()V"⟩, 47), (⟨"SilentTurnModel", "byteAt", "(I)I"⟩, 47), (⟨"SilentTurnModel", "refuse", "(I)I"⟩, 47), (⟨"SilentTurnModel", "housePart", "()Z"⟩, 47), (⟨"SilentTurnModel", "inWords", "(Ljava/lang/String;)I"⟩, 47), (⟨"SilentTurnModel", "fails", "(I)Z"⟩, 47), (⟨"SilentTurnModel", "number", "(III)Z"⟩, 47), (⟨"SilentTurnModel", "aTopic", "()Z"⟩, 47), (⟨"SilentTurnModel", "newOne", "(III)Z"⟩, 47), (⟨"SilentTurnModel", "isName", "(Ljava/lang/String;)Z"⟩, 47), (⟨"SilentTurnModel", "findHere", "(II)I"⟩, 47)]
theorem lw_r4 : ∀ q ∈ lw_privs_4, lw_okq q := List.forall_mem_cons.mpr ⟨lw_p48, List.forall_mem_cons.mpr ⟨lw_p49, List.forall_mem_cons.mpr ⟨lw_p50, List.forall_mem_cons.mpr ⟨lw_p51, List.forall_mem_cons.mpr ⟨lw_p52, List.forall_mem_cons.mpr ⟨lw_p53, List.forall_mem_cons.mpr ⟨lw_p54, List.forall_mem_cons.mpr ⟨lw_p55, List.forall_mem_cons.mpr ⟨lw_p56, List.forall_mem_cons.mpr ⟨lw_p57, List.forall_mem_cons.mpr ⟨lw_p58, List.forall_mem_cons.mpr ⟨lw_p59, List.forall_mem_cons.mpr ⟨lw_p60, List.forall_mem_cons.mpr ⟨lw_p61, List.forall_mem_cons.mpr ⟨lw_p62, List.forall_mem_cons.mpr ⟨lw_p63, fun _ h => absurd h List.not_mem_nil⟩⟩⟩⟩⟩⟩⟩⟩⟩⟩⟩⟩⟩⟩⟩⟩
theorem lw_p64 : lw_okq (⟨"SilentTurnModel", "nameHere", "()J"⟩, 47) := ⟨⟨by decide +kernel, by decide +kernel⟩, List.mem_of_getElem? (i := 1341) (by decide +kernel), List.mem_of_getElem? (i := 1615) (by decide +kernel), List.mem_of_getElem? (i := 1616) (by decide +kernel)⟩
theorem lw_p65 : lw_okq (⟨"SilentTurnModel", "wantWord", "(Ljava/lang/String;I)Z"⟩, 47) := ⟨⟨by decide +kernel, by decide +kernel⟩, List.mem_of_getElem? (i := 1341) (by decide +kernel), List.mem_of_getElem? (i := 1619) (by decide +kernel), List.mem_of_getElem? (i := 1620) (by decide +kernel)⟩
theorem lw_p66 : lw_okq (⟨"SilentTurnModel", "aMonk", "()Z"⟩, 47) := ⟨⟨by decide +kernel, by decide +kernel⟩, List.mem_of_getElem? (i := 1341) (by decide +kernel), List.mem_of_getElem? (i := 1623) (by decide +kernel), List.mem_of_getElem? (i := 1624) (by decide +kernel)⟩
theorem lw_p67 : lw_okq (⟨"SilentTurnModel", "isThere", "(I)Z"⟩, 47) := ⟨⟨by decide +kernel, by decide +kernel⟩, List.mem_of_getElem? (i := 1341) (by decide +kernel), List.mem_of_getElem? (i := 1630) (by decide +kernel), List.mem_of_getElem? (i := 1631) (by decide +kernel)⟩
theorem lw_p68 : lw_okq (⟨"SilentTurnModel", "aFollowing", "()Z"⟩, 47) := ⟨⟨by decide +kernel, by decide +kernel⟩, List.mem_of_getElem? (i := 1341) (by decide +kernel), List.mem_of_getElem? (i := 1634) (by decide +kernel), List.mem_of_getElem? (i := 1635) (by decide +kernel)⟩
theorem lw_p69 : lw_okq (⟨"SilentTurnModel", "newTopicTo", "(I)Z"⟩, 47) := ⟨⟨by decide +kernel, by decide +kernel⟩, List.mem_of_getElem? (i := 1341) (by decide +kernel), List.mem_of_getElem? (i := 1638) (by decide +kernel), List.mem_of_getElem? (i := 1639) (by decide +kernel)⟩
theorem lw_p70 : lw_okq (⟨"SilentTurnModel", "oldOne", "(III)Z"⟩, 47) := ⟨⟨by decide +kernel, by decide +kernel⟩, List.mem_of_getElem? (i := 1341) (by decide +kernel), List.mem_of_getElem? (i := 1642) (by decide +kernel), List.mem_of_getElem? (i := 1643) (by decide +kernel)⟩
theorem lw_p71 : lw_okq (⟨"SilentTurnModel", "anEntry", "()Z"⟩, 47) := ⟨⟨by decide +kernel, by decide +kernel⟩, List.mem_of_getElem? (i := 1341) (by decide +kernel), List.mem_of_getElem? (i := 1646) (by decide +kernel), List.mem_of_getElem? (i := 1647) (by decide +kernel)⟩
theorem lw_p72 : lw_okq (⟨"SilentTurnModel", "newMonkTo", "(I)Z"⟩, 47) := ⟨⟨by decide +kernel, by decide +kernel⟩, List.mem_of_getElem? (i := 1341) (by decide +kernel), List.mem_of_getElem? (i := 1653) (by decide +kernel), List.mem_of_getElem? (i := 1654) (by decide +kernel)⟩
theorem lw_p73 : lw_okq (⟨"SilentTurnModel", "aHearing", "()Z"⟩, 47) := ⟨⟨by decide +kernel, by decide +kernel⟩, List.mem_of_getElem? (i := 1341) (by decide +kernel), List.mem_of_getElem? (i := 1657) (by decide +kernel), List.mem_of_getElem? (i := 1658) (by decide +kernel)⟩
theorem lw_p74 : lw_okq (⟨"SilentTurnModel", "wantSign", "(I)Z"⟩, 47) := ⟨⟨by decide +kernel, by decide +kernel⟩, List.mem_of_getElem? (i := 1341) (by decide +kernel), List.mem_of_getElem? (i := 1661) (by decide +kernel), List.mem_of_getElem? (i := 1662) (by decide +kernel)⟩
theorem lw_p75 : lw_okq (⟨"SilentTurnModel", "isSign", "(I)Z"⟩, 47) := ⟨⟨by decide +kernel, by decide +kernel⟩, List.mem_of_getElem? (i := 1341) (by decide +kernel), List.mem_of_getElem? (i := 1665) (by decide +kernel), List.mem_of_getElem? (i := 1666) (by decide +kernel)⟩
theorem lw_p76 : lw_okq (⟨"SilentTurnModel", "taken", "(I)I"⟩, 47) := ⟨⟨by decide +kernel, by decide +kernel⟩, List.mem_of_getElem? (i := 1341) (by decide +kernel), List.mem_of_getElem? (i := 1669) (by decide +kernel), List.mem_of_getElem? (i := 1670) (by decide +kernel)⟩
theorem lw_p77 : lw_okq (⟨"SilentTurnModel", "gives", "(I)I"⟩, 47) := ⟨⟨by decide +kernel, by decide +kernel⟩, List.mem_of_getElem? (i := 1341) (by decide +kernel), List.mem_of_getElem? (i := 1673) (by decide +kernel), List.mem_of_getElem? (i := 1674) (by decide +kernel)⟩
theorem lw_p78 : lw_okq (⟨"SilentTurnModel", "dayStep", "()Z"⟩, 47) := ⟨⟨by decide +kernel, by decide +kernel⟩, List.mem_of_getElem? (i := 1341) (by decide +kernel), List.mem_of_getElem? (i := 1681) (by decide +kernel), List.mem_of_getElem? (i := 1682) (by decide +kernel)⟩
theorem lw_p79 : lw_okq (⟨"SilentTurnModel", "dayOrder", "(II)Z"⟩, 47) := ⟨⟨by decide +kernel, by decide +kernel⟩, List.mem_of_getElem? (i := 1341) (by decide +kernel), List.mem_of_getElem? (i := 1685) (by decide +kernel), List.mem_of_getElem? (i := 1686) (by decide +kernel)⟩
def lw_privs_5 : List (MethodName × Nat) := [(⟨"SilentTurnModel", "nameHere", "()J"⟩, 47), (⟨"SilentTurnModel", "wantWord", "(Ljava/lang/String;I)Z"⟩, 47), (⟨"SilentTurnModel", "aMonk", "()Z"⟩, 47), (⟨"SilentTurnModel", "isThere", "(I)Z"⟩, 47), (⟨"SilentTurnModel", "aFollowing", "()Z"⟩, 47), (⟨"SilentTurnModel", "newTopicTo", "(I)Z"⟩, 47), (⟨"SilentTurnModel", "oldOne", "(III)Z"⟩, 47), (⟨"SilentTurnModel", "anEntry", "()Z"⟩, 47), (⟨"SilentTurnModel", "newMonkTo", "(I)Z"⟩, 47), (⟨"SilentTurnModel", "aHearing", "()Z"⟩, 47), (⟨"SilentTurnModel", "wantSign", "(I)Z"⟩, 47), (⟨"SilentTurnModel", "isSign", "(I)Z"⟩, 47), (⟨"SilentTurnModel", "taken", "(I)I"⟩, 47), (⟨"SilentTurnModel", "gives", "(I)I"⟩, 47), (⟨"SilentTurnModel", "dayStep", "()Z"⟩, 47), (⟨"SilentTurnModel", "dayOrder", "(II)Z"⟩, 47)]
theorem lw_r5 : ∀ q ∈ lw_privs_5, lw_okq q := List.forall_mem_cons.mpr ⟨lw_p64, List.forall_mem_cons.mpr ⟨lw_p65, List.forall_mem_cons.mpr ⟨lw_p66, List.forall_mem_cons.mpr ⟨lw_p67, List.forall_mem_cons.mpr ⟨lw_p68, List.forall_mem_cons.mpr ⟨lw_p69, List.forall_mem_cons.mpr ⟨lw_p70, List.forall_mem_cons.mpr ⟨lw_p71, List.forall_mem_cons.mpr ⟨lw_p72, List.forall_mem_cons.mpr ⟨lw_p73, List.forall_mem_cons.mpr ⟨lw_p74, List.forall_mem_cons.mpr ⟨lw_p75, List.forall_mem_cons.mpr ⟨lw_p76, List.forall_mem_cons.mpr ⟨lw_p77, List.forall_mem_cons.mpr ⟨lw_p78, List.forall_mem_cons.mpr ⟨lw_p79, fun _ h => absurd h List.not_mem_nil⟩⟩⟩⟩⟩⟩⟩⟩⟩⟩⟩⟩⟩⟩⟩⟩
theorem lw_p80 : lw_okq (⟨"SilentTurnModel", "monkTo", "(I)Z"⟩, 47) := ⟨⟨by decide +kernel, by decide +kernel⟩, List.mem_of_getElem? (i := 1341) (by decide +kernel), List.mem_of_getElem? (i := 1689) (by decide +kernel), List.mem_of_getElem? (i := 1690) (by decide +kernel)⟩
theorem lw_p81 : lw_okq (⟨"SilentTurnModel", "test", "(I)Z"⟩, 47) := ⟨⟨by decide +kernel, by decide +kernel⟩, List.mem_of_getElem? (i := 1341) (by decide +kernel), List.mem_of_getElem? (i := 1693) (by decide +kernel), List.mem_of_getElem? (i := 1694) (by decide +kernel)⟩
theorem lw_p82 : lw_okq (⟨"SilentTurnModel", "awake", "()I"⟩, 47) := ⟨⟨by decide +kernel, by decide +kernel⟩, List.mem_of_getElem? (i := 1341) (by decide +kernel), List.mem_of_getElem? (i := 1701) (by decide +kernel), List.mem_of_getElem? (i := 1702) (by decide +kernel)⟩
theorem lw_p83 : lw_okq (⟨"SilentTurnModel", "monkOf", "(II)I"⟩, 47) := ⟨⟨by decide +kernel, by decide +kernel⟩, List.mem_of_getElem? (i := 1341) (by decide +kernel), List.mem_of_getElem? (i := 1705) (by decide +kernel), List.mem_of_getElem? (i := 1706) (by decide +kernel)⟩
theorem lw_p84 : lw_okq (⟨"SilentTurnModel", "isTopic", "(J)Z"⟩, 47) := ⟨⟨by decide +kernel, by decide +kernel⟩, List.mem_of_getElem? (i := 1341) (by decide +kernel), List.mem_of_getElem? (i := 1713) (by decide +kernel), List.mem_of_getElem? (i := 1714) (by decide +kernel)⟩
theorem lw_p85 : lw_okq (⟨"SilentTurnModel", "aheadOf", "(I)I"⟩, 47) := ⟨⟨by decide +kernel, by decide +kernel⟩, List.mem_of_getElem? (i := 1341) (by decide +kernel), List.mem_of_getElem? (i := 1717) (by decide +kernel), List.mem_of_getElem? (i := 1718) (by decide +kernel)⟩
theorem lw_p86 : lw_okq (⟨"SilentTurnModel", "nextOf", "(I)I"⟩, 47) := ⟨⟨by decide +kernel, by decide +kernel⟩, List.mem_of_getElem? (i := 1341) (by decide +kernel), List.mem_of_getElem? (i := 1721) (by decide +kernel), List.mem_of_getElem? (i := 1722) (by decide +kernel)⟩
theorem lw_p87 : lw_okq (⟨"SilentTurnModel", "isIn", "(II)Z"⟩, 47) := ⟨⟨by decide +kernel, by decide +kernel⟩, List.mem_of_getElem? (i := 1341) (by decide +kernel), List.mem_of_getElem? (i := 1725) (by decide +kernel), List.mem_of_getElem? (i := 1726) (by decide +kernel)⟩
theorem lw_p88 : lw_okq (⟨"SilentTurnModel", "isMonk", "(I)Z"⟩, 47) := ⟨⟨by decide +kernel, by decide +kernel⟩, List.mem_of_getElem? (i := 1341) (by decide +kernel), List.mem_of_getElem? (i := 1733) (by decide +kernel), List.mem_of_getElem? (i := 1734) (by decide +kernel)⟩
theorem lw_p89 : lw_okq (⟨"SilentTurnModel", "isEntry", "(I)Z"⟩, 47) := ⟨⟨by decide +kernel, by decide +kernel⟩, List.mem_of_getElem? (i := 1341) (by decide +kernel), List.mem_of_getElem? (i := 1741) (by decide +kernel), List.mem_of_getElem? (i := 1742) (by decide +kernel)⟩
theorem lw_p90 : lw_okq (⟨"SilentTurnModel", "orNone", "(I)I"⟩, 47) := ⟨⟨by decide +kernel, by decide +kernel⟩, List.mem_of_getElem? (i := 1341) (by decide +kernel), List.mem_of_getElem? (i := 1753) (by decide +kernel), List.mem_of_getElem? (i := 1754) (by decide +kernel)⟩
theorem lw_p91 : lw_okq (⟨"SilentTurnModel", "canSay", "(II)Z"⟩, 47) := ⟨⟨by decide +kernel, by decide +kernel⟩, List.mem_of_getElem? (i := 1341) (by decide +kernel), List.mem_of_getElem? (i := 1761) (by decide +kernel), List.mem_of_getElem? (i := 1762) (by decide +kernel)⟩
theorem lw_p92 : lw_okq (⟨"SilentTurnModel", "costOf", "(I)I"⟩, 47) := ⟨⟨by decide +kernel, by decide +kernel⟩, List.mem_of_getElem? (i := 1341) (by decide +kernel), List.mem_of_getElem? (i := 1765) (by decide +kernel), List.mem_of_getElem? (i := 1766) (by decide +kernel)⟩
theorem lw_p93 : lw_okq (⟨"SilentTurnModel", "doesFollow", "(I)Z"⟩, 47) := ⟨⟨by decide +kernel, by decide +kernel⟩, List.mem_of_getElem? (i := 1341) (by decide +kernel), List.mem_of_getElem? (i := 1769) (by decide +kernel), List.mem_of_getElem? (i := 1770) (by decide +kernel)⟩
theorem lw_p94 : lw_okq (⟨"SilentTurnModel", "topicsOf", "(I)I"⟩, 47) := ⟨⟨by decide +kernel, by decide +kernel⟩, List.mem_of_getElem? (i := 1341) (by decide +kernel), List.mem_of_getElem? (i := 1777) (by decide +kernel), List.mem_of_getElem? (i := 1778) (by decide +kernel)⟩
theorem lw_p95 : lw_okq (⟨"SilentTurnModel", "laysSpeaker", "()V"⟩, 47) := ⟨⟨by decide +kernel, by decide +kernel⟩, List.mem_of_getElem? (i := 1341) (by decide +kernel), List.mem_of_getElem? (i := 1789) (by decide +kernel), List.mem_of_getElem? (i := 1790) (by decide +kernel)⟩
def lw_privs_6 : List (MethodName × Nat) := [(⟨"SilentTurnModel", "monkTo", "(I)Z"⟩, 47), (⟨"SilentTurnModel", "test", "(I)Z"⟩, 47), (⟨"SilentTurnModel", "awake", "()I"⟩, 47), (⟨"SilentTurnModel", "monkOf", "(II)I"⟩, 47), (⟨"SilentTurnModel", "isTopic", "(J)Z"⟩, 47), (⟨"SilentTurnModel", "aheadOf", "(I)I"⟩, 47), (⟨"SilentTurnModel", "nextOf", "(I)I"⟩, 47), (⟨"SilentTurnModel", "isIn", "(II)Z"⟩, 47), (⟨"SilentTurnModel", "isMonk", "(I)Z"⟩, 47), (⟨"SilentTurnModel", "isEntry", "(I)Z"⟩, 47), (⟨"SilentTurnModel", "orNone", "(I)I"⟩, 47), (⟨"SilentTurnModel", "canSay", "(II)Z"⟩, 47), (⟨"SilentTurnModel", "costOf", "(I)I"⟩, 47), (⟨"SilentTurnModel", "doesFollow", "(I)Z"⟩, 47), (⟨"SilentTurnModel", "topicsOf", "(I)I"⟩, 47), (⟨"SilentTurnModel", "laysSpeaker", "()V"⟩, 47)]
theorem lw_r6 : ∀ q ∈ lw_privs_6, lw_okq q := List.forall_mem_cons.mpr ⟨lw_p80, List.forall_mem_cons.mpr ⟨lw_p81, List.forall_mem_cons.mpr ⟨lw_p82, List.forall_mem_cons.mpr ⟨lw_p83, List.forall_mem_cons.mpr ⟨lw_p84, List.forall_mem_cons.mpr ⟨lw_p85, List.forall_mem_cons.mpr ⟨lw_p86, List.forall_mem_cons.mpr ⟨lw_p87, List.forall_mem_cons.mpr ⟨lw_p88, List.forall_mem_cons.mpr ⟨lw_p89, List.forall_mem_cons.mpr ⟨lw_p90, List.forall_mem_cons.mpr ⟨lw_p91, List.forall_mem_cons.mpr ⟨lw_p92, List.forall_mem_cons.mpr ⟨lw_p93, List.forall_mem_cons.mpr ⟨lw_p94, List.forall_mem_cons.mpr ⟨lw_p95, fun _ h => absurd h List.not_mem_nil⟩⟩⟩⟩⟩⟩⟩⟩⟩⟩⟩⟩⟩⟩⟩⟩
theorem lw_p96 : lw_okq (⟨"SilentTurnModel", "minutesGo", "(I)I"⟩, 47) := ⟨⟨by decide +kernel, by decide +kernel⟩, List.mem_of_getElem? (i := 1341) (by decide +kernel), List.mem_of_getElem? (i := 1805) (by decide +kernel), List.mem_of_getElem? (i := 1806) (by decide +kernel)⟩
theorem lw_p97 : lw_okq (⟨"SilentTurnModel", "minuteGoes", "()V"⟩, 47) := ⟨⟨by decide +kernel, by decide +kernel⟩, List.mem_of_getElem? (i := 1341) (by decide +kernel), List.mem_of_getElem? (i := 1809) (by decide +kernel), List.mem_of_getElem? (i := 1810) (by decide +kernel)⟩
theorem lw_p98 : lw_okq (⟨"SilentTurnModel", "saysBy", "(II)V"⟩, 47) := ⟨⟨by decide +kernel, by decide +kernel⟩, List.mem_of_getElem? (i := 1341) (by decide +kernel), List.mem_of_getElem? (i := 1813) (by decide +kernel), List.mem_of_getElem? (i := 1814) (by decide +kernel)⟩
theorem lw_p99 : lw_okq (⟨"SilentTurnModel", "changes", "(I)Z"⟩, 47) := ⟨⟨by decide +kernel, by decide +kernel⟩, List.mem_of_getElem? (i := 1341) (by decide +kernel), List.mem_of_getElem? (i := 1821) (by decide +kernel), List.mem_of_getElem? (i := 1822) (by decide +kernel)⟩
theorem lw_p100 : lw_okq (⟨"SilentTurnModel", "wakes", "(II)Z"⟩, 47) := ⟨⟨by decide +kernel, by decide +kernel⟩, List.mem_of_getElem? (i := 1341) (by decide +kernel), List.mem_of_getElem? (i := 1829) (by decide +kernel), List.mem_of_getElem? (i := 1830) (by decide +kernel)⟩
theorem lw_p101 : lw_okq (⟨"SilentTurnModel", "keeps", "(I)V"⟩, 47) := ⟨⟨by decide +kernel, by decide +kernel⟩, List.mem_of_getElem? (i := 1341) (by decide +kernel), List.mem_of_getElem? (i := 1871) (by decide +kernel), List.mem_of_getElem? (i := 1872) (by decide +kernel)⟩
theorem lw_p102 : lw_okq (⟨"SilentTurnModel", "restores", "(I)V"⟩, 47) := ⟨⟨by decide +kernel, by decide +kernel⟩, List.mem_of_getElem? (i := 1341) (by decide +kernel), List.mem_of_getElem? (i := 1875) (by decide +kernel), List.mem_of_getElem? (i := 1876) (by decide +kernel)⟩
theorem lw_p103 : lw_okq (⟨"SilentTurnModel", "firstPause", "(I)I"⟩, 47) := ⟨⟨by decide +kernel, by decide +kernel⟩, List.mem_of_getElem? (i := 1341) (by decide +kernel), List.mem_of_getElem? (i := 1887) (by decide +kernel), List.mem_of_getElem? (i := 1888) (by decide +kernel)⟩
theorem lw_p104 : lw_okq (⟨"SilentTurnModel", "areMonks", "(I)Z"⟩, 47) := ⟨⟨by decide +kernel, by decide +kernel⟩, List.mem_of_getElem? (i := 1341) (by decide +kernel), List.mem_of_getElem? (i := 1909) (by decide +kernel), List.mem_of_getElem? (i := 1910) (by decide +kernel)⟩
theorem lw_p105 : lw_okq (⟨"SilentTurnModel", "areEnough", "(II)Z"⟩, 47) := ⟨⟨by decide +kernel, by decide +kernel⟩, List.mem_of_getElem? (i := 1341) (by decide +kernel), List.mem_of_getElem? (i := 1917) (by decide +kernel), List.mem_of_getElem? (i := 1918) (by decide +kernel)⟩
theorem lw_p106 : lw_okq (⟨"SilentTurnModel", "fewestOf", "(I)I"⟩, 47) := ⟨⟨by decide +kernel, by decide +kernel⟩, List.mem_of_getElem? (i := 1341) (by decide +kernel), List.mem_of_getElem? (i := 1925) (by decide +kernel), List.mem_of_getElem? (i := 1926) (by decide +kernel)⟩
theorem lw_p107 : lw_okq (⟨"SilentTurnModel", "shifting", "(I)I"⟩, 47) := ⟨⟨by decide +kernel, by decide +kernel⟩, List.mem_of_getElem? (i := 1341) (by decide +kernel), List.mem_of_getElem? (i := 1941) (by decide +kernel), List.mem_of_getElem? (i := 1942) (by decide +kernel)⟩
theorem lw_p108 : lw_okq (⟨"SilentTurnModel", "leastBreath", "()I"⟩, 47) := ⟨⟨by decide +kernel, by decide +kernel⟩, List.mem_of_getElem? (i := 1341) (by decide +kernel), List.mem_of_getElem? (i := 1948) (by decide +kernel), List.mem_of_getElem? (i := 1949) (by decide +kernel)⟩
theorem lw_p109 : lw_okq (⟨"SilentTurnModel", "talkFrom", "(I)I"⟩, 47) := ⟨⟨by decide +kernel, by decide +kernel⟩, List.mem_of_getElem? (i := 1341) (by decide +kernel), List.mem_of_getElem? (i := 1960) (by decide +kernel), List.mem_of_getElem? (i := 1961) (by decide +kernel)⟩
theorem lw_p110 : lw_okq (⟨"SilentTurnModel", "laysTalk", "()V"⟩, 47) := ⟨⟨by decide +kernel, by decide +kernel⟩, List.mem_of_getElem? (i := 1341) (by decide +kernel), List.mem_of_getElem? (i := 1964) (by decide +kernel), List.mem_of_getElem? (i := 1965) (by decide +kernel)⟩
theorem lw_p111 : lw_okq (⟨"SilentTurnModel", "laysRing", "()V"⟩, 47) := ⟨⟨by decide +kernel, by decide +kernel⟩, List.mem_of_getElem? (i := 1341) (by decide +kernel), List.mem_of_getElem? (i := 1976) (by decide +kernel), List.mem_of_getElem? (i := 1977) (by decide +kernel)⟩
def lw_privs_7 : List (MethodName × Nat) := [(⟨"SilentTurnModel", "minutesGo", "(I)I"⟩, 47), (⟨"SilentTurnModel", "minuteGoes", "()V"⟩, 47), (⟨"SilentTurnModel", "saysBy", "(II)V"⟩, 47), (⟨"SilentTurnModel", "changes", "(I)Z"⟩, 47), (⟨"SilentTurnModel", "wakes", "(II)Z"⟩, 47), (⟨"SilentTurnModel", "keeps", "(I)V"⟩, 47), (⟨"SilentTurnModel", "restores", "(I)V"⟩, 47), (⟨"SilentTurnModel", "firstPause", "(I)I"⟩, 47), (⟨"SilentTurnModel", "areMonks", "(I)Z"⟩, 47), (⟨"SilentTurnModel", "areEnough", "(II)Z"⟩, 47), (⟨"SilentTurnModel", "fewestOf", "(I)I"⟩, 47), (⟨"SilentTurnModel", "shifting", "(I)I"⟩, 47), (⟨"SilentTurnModel", "leastBreath", "()I"⟩, 47), (⟨"SilentTurnModel", "talkFrom", "(I)I"⟩, 47), (⟨"SilentTurnModel", "laysTalk", "()V"⟩, 47), (⟨"SilentTurnModel", "laysRing", "()V"⟩, 47)]
theorem lw_r7 : ∀ q ∈ lw_privs_7, lw_okq q := List.forall_mem_cons.mpr ⟨lw_p96, List.forall_mem_cons.mpr ⟨lw_p97, List.forall_mem_cons.mpr ⟨lw_p98, List.forall_mem_cons.mpr ⟨lw_p99, List.forall_mem_cons.mpr ⟨lw_p100, List.forall_mem_cons.mpr ⟨lw_p101, List.forall_mem_cons.mpr ⟨lw_p102, List.forall_mem_cons.mpr ⟨lw_p103, List.forall_mem_cons.mpr ⟨lw_p104, List.forall_mem_cons.mpr ⟨lw_p105, List.forall_mem_cons.mpr ⟨lw_p106, List.forall_mem_cons.mpr ⟨lw_p107, List.forall_mem_cons.mpr ⟨lw_p108, List.forall_mem_cons.mpr ⟨lw_p109, List.forall_mem_cons.mpr ⟨lw_p110, List.forall_mem_cons.mpr ⟨lw_p111, fun _ h => absurd h List.not_mem_nil⟩⟩⟩⟩⟩⟩⟩⟩⟩⟩⟩⟩⟩⟩⟩⟩
theorem lw_p112 : lw_okq (⟨"SilentTurnModel", "laysFar", "(I)V"⟩, 47) := ⟨⟨by decide +kernel, by decide +kernel⟩, List.mem_of_getElem? (i := 1341) (by decide +kernel), List.mem_of_getElem? (i := 1980) (by decide +kernel), List.mem_of_getElem? (i := 1981) (by decide +kernel)⟩
theorem lw_p113 : lw_okq (⟨"SilentTurnModel", "nearest", "(I)I"⟩, 47) := ⟨⟨by decide +kernel, by decide +kernel⟩, List.mem_of_getElem? (i := 1341) (by decide +kernel), List.mem_of_getElem? (i := 1984) (by decide +kernel), List.mem_of_getElem? (i := 1985) (by decide +kernel)⟩
theorem lw_p114 : lw_okq (⟨"SilentTurnModel", "wrongHeard", "(II)I"⟩, 47) := ⟨⟨by decide +kernel, by decide +kernel⟩, List.mem_of_getElem? (i := 1341) (by decide +kernel), List.mem_of_getElem? (i := 2008) (by decide +kernel), List.mem_of_getElem? (i := 2009) (by decide +kernel)⟩
theorem lw_p115 : lw_okq (⟨"SilentTurnModel", "laysHeard", "(II)V"⟩, 47) := ⟨⟨by decide +kernel, by decide +kernel⟩, List.mem_of_getElem? (i := 1341) (by decide +kernel), List.mem_of_getElem? (i := 2013) (by decide +kernel), List.mem_of_getElem? (i := 2014) (by decide +kernel)⟩
theorem lw_p116 : lw_okq (⟨"SilentTurnModel", "counts", "(I)V"⟩, 47) := ⟨⟨by decide +kernel, by decide +kernel⟩, List.mem_of_getElem? (i := 1341) (by decide +kernel), List.mem_of_getElem? (i := 2017) (by decide +kernel), List.mem_of_getElem? (i := 2018) (by decide +kernel)⟩
theorem lw_p117 : lw_okq (⟨"SilentTurnModel", "couplesOf", "(I)I"⟩, 47) := ⟨⟨by decide +kernel, by decide +kernel⟩, List.mem_of_getElem? (i := 1341) (by decide +kernel), List.mem_of_getElem? (i := 2029) (by decide +kernel), List.mem_of_getElem? (i := 2030) (by decide +kernel)⟩
theorem lw_p118 : lw_okq (⟨"SilentTurnModel", "tellsBy", "(JJ)Z"⟩, 47) := ⟨⟨by decide +kernel, by decide +kernel⟩, List.mem_of_getElem? (i := 1341) (by decide +kernel), List.mem_of_getElem? (i := 2042) (by decide +kernel), List.mem_of_getElem? (i := 2043) (by decide +kernel)⟩
theorem lw_p119 : lw_okq (⟨"SilentTurnModel", "lives", "(I)V"⟩, 47) := ⟨⟨by decide +kernel, by decide +kernel⟩, List.mem_of_getElem? (i := 1341) (by decide +kernel), List.mem_of_getElem? (i := 2055) (by decide +kernel), List.mem_of_getElem? (i := 2056) (by decide +kernel)⟩
theorem lw_p120 : lw_okq (⟨"SilentTurnModel", "does", "(I)Z"⟩, 47) := ⟨⟨by decide +kernel, by decide +kernel⟩, List.mem_of_getElem? (i := 1341) (by decide +kernel), List.mem_of_getElem? (i := 2059) (by decide +kernel), List.mem_of_getElem? (i := 2060) (by decide +kernel)⟩
theorem lw_p121 : lw_okq (⟨"SilentTurnModel", "minutesBy", "(I)Z"⟩, 47) := ⟨⟨by decide +kernel, by decide +kernel⟩, List.mem_of_getElem? (i := 1341) (by decide +kernel), List.mem_of_getElem? (i := 2063) (by decide +kernel), List.mem_of_getElem? (i := 2064) (by decide +kernel)⟩
theorem lw_p122 : lw_okq (⟨"SilentTurnModel", "coughsAny", "()Z"⟩, 47) := ⟨⟨by decide +kernel, by decide +kernel⟩, List.mem_of_getElem? (i := 1341) (by decide +kernel), List.mem_of_getElem? (i := 2067) (by decide +kernel), List.mem_of_getElem? (i := 2068) (by decide +kernel)⟩
theorem lw_p123 : lw_okq (⟨"SilentTurnModel", "draw", "(I)I"⟩, 47) := ⟨⟨by decide +kernel, by decide +kernel⟩, List.mem_of_getElem? (i := 1341) (by decide +kernel), List.mem_of_getElem? (i := 2071) (by decide +kernel), List.mem_of_getElem? (i := 2072) (by decide +kernel)⟩
theorem lw_p124 : lw_okq (⟨"SilentTurnModel", "holds", "(I)Z"⟩, 47) := ⟨⟨by decide +kernel, by decide +kernel⟩, List.mem_of_getElem? (i := 1341) (by decide +kernel), List.mem_of_getElem? (i := 2076) (by decide +kernel), List.mem_of_getElem? (i := 2077) (by decide +kernel)⟩
theorem lw_p125 : lw_okq (⟨"SilentTurnModel", "behindEnds", "(I)I"⟩, 47) := ⟨⟨by decide +kernel, by decide +kernel⟩, List.mem_of_getElem? (i := 1341) (by decide +kernel), List.mem_of_getElem? (i := 2080) (by decide +kernel), List.mem_of_getElem? (i := 2081) (by decide +kernel)⟩
theorem lw_p126 : lw_okq (⟨"SilentTurnModel", "copies", "(II)V"⟩, 47) := ⟨⟨by decide +kernel, by decide +kernel⟩, List.mem_of_getElem? (i := 1341) (by decide +kernel), List.mem_of_getElem? (i := 2096) (by decide +kernel), List.mem_of_getElem? (i := 2097) (by decide +kernel)⟩
def lw_privs_8 : List (MethodName × Nat) := [(⟨"SilentTurnModel", "laysFar", "(I)V"⟩, 47), (⟨"SilentTurnModel", "nearest", "(I)I"⟩, 47), (⟨"SilentTurnModel", "wrongHeard", "(II)I"⟩, 47), (⟨"SilentTurnModel", "laysHeard", "(II)V"⟩, 47), (⟨"SilentTurnModel", "counts", "(I)V"⟩, 47), (⟨"SilentTurnModel", "couplesOf", "(I)I"⟩, 47), (⟨"SilentTurnModel", "tellsBy", "(JJ)Z"⟩, 47), (⟨"SilentTurnModel", "lives", "(I)V"⟩, 47), (⟨"SilentTurnModel", "does", "(I)Z"⟩, 47), (⟨"SilentTurnModel", "minutesBy", "(I)Z"⟩, 47), (⟨"SilentTurnModel", "coughsAny", "()Z"⟩, 47), (⟨"SilentTurnModel", "draw", "(I)I"⟩, 47), (⟨"SilentTurnModel", "holds", "(I)Z"⟩, 47), (⟨"SilentTurnModel", "behindEnds", "(I)I"⟩, 47), (⟨"SilentTurnModel", "copies", "(II)V"⟩, 47)]
theorem lw_r8 : ∀ q ∈ lw_privs_8, lw_okq q := List.forall_mem_cons.mpr ⟨lw_p112, List.forall_mem_cons.mpr ⟨lw_p113, List.forall_mem_cons.mpr ⟨lw_p114, List.forall_mem_cons.mpr ⟨lw_p115, List.forall_mem_cons.mpr ⟨lw_p116, List.forall_mem_cons.mpr ⟨lw_p117, List.forall_mem_cons.mpr ⟨lw_p118, List.forall_mem_cons.mpr ⟨lw_p119, List.forall_mem_cons.mpr ⟨lw_p120, List.forall_mem_cons.mpr ⟨lw_p121, List.forall_mem_cons.mpr ⟨lw_p122, List.forall_mem_cons.mpr ⟨lw_p123, List.forall_mem_cons.mpr ⟨lw_p124, List.forall_mem_cons.mpr ⟨lw_p125, List.forall_mem_cons.mpr ⟨lw_p126, fun _ h => absurd h List.not_mem_nil⟩⟩⟩⟩⟩⟩⟩⟩⟩⟩⟩⟩⟩⟩⟩
def lw_privs : List (MethodName × Nat) := lw_privs_1 ++ (lw_privs_2 ++ (lw_privs_3 ++ (lw_privs_4 ++ (lw_privs_5 ++ (lw_privs_6 ++ (lw_privs_7 ++ (lw_privs_8)))))))
def lw_tbl : List Cond := k2_sels lw_privs ++ tables_1
theorem lw_privs_ok : ∀ q ∈ lw_privs, lw_okq q := by
  show ∀ q ∈ lw_privs_1 ++ (lw_privs_2 ++ (lw_privs_3 ++ (lw_privs_4 ++ (lw_privs_5 ++ (lw_privs_6 ++ (lw_privs_7 ++ (lw_privs_8))))))), lw_okq q
  exact List.forall_mem_append.mpr ⟨lw_r1, List.forall_mem_append.mpr ⟨lw_r2, List.forall_mem_append.mpr ⟨lw_r3, List.forall_mem_append.mpr ⟨lw_r4, List.forall_mem_append.mpr ⟨lw_r5, List.forall_mem_append.mpr ⟨lw_r6, List.forall_mem_append.mpr ⟨lw_r7, lw_r8⟩⟩⟩⟩⟩⟩⟩
end
section
def RX0 : String := "SilentTurn$Ahead"
def TX0 : u_T := fun k => match k with
  | 0 => ("SilentTurn$Ahead", "houses", "[LSilentTurn$House;", true)
  | 1 => ("SilentTurn$Ahead", "way", "[I", true)
  | 2 => ("SilentTurn$Ahead", "said", "[I", true)
  | 3 => ("SilentTurn$Ahead", "length", "I", false)
  | 4 => ("SilentTurn$Ahead", "best", "I", false)
  | 5 => ("SilentTurn$Ahead", "asked", "I", false)
  | 6 => ("SilentTurn$Ahead", "bestWay", "[I", true)
  | _ => ("SilentTurn$Ahead", "suspects", "I", false)
def tyX0 : Nat → FieldType := fun k => match k with
  | 0 => .array (.object "SilentTurn$House")
  | 1 => .array .int
  | 2 => .array .int
  | 3 => .int
  | 4 => .int
  | 5 => .int
  | 6 => .array .int
  | _ => .int
abbrev wsX00 : List Cond := u_ws RX0 TX0 8
theorem nmX0 : ∀ a, a < 8 → ∀ b, b < 8 → a ≠ b → (TX0 a).2.1 ≠ (TX0 b).2.1 := by decide +kernel
theorem tyX0_ok : ∀ k, k < 8 → parseFieldDescriptor (TX0 k).2.2.1 = some (tyX0 k) := by decide +kernel
def RX1 : String := "SilentTurn$Days"
def TX1 : u_T := fun k => match k with
  | 0 => ("SilentTurn$Days", "kinds", "[I", true)
  | 1 => ("SilentTurn$Days", "whos", "[I", true)
  | 2 => ("SilentTurn$Days", "muches", "[I", true)
  | 3 => ("SilentTurn$Days", "tests", "[I", true)
  | 4 => ("SilentTurn$Days", "signs", "[I", true)
  | 5 => ("SilentTurn$Days", "mates", "[I", true)
  | 6 => ("SilentTurn$Days", "size", "I", false)
  | 7 => ("SilentTurn$Days", "steps", "I", false)
  | _ => ("SilentTurn$Days", "there", "Z", false)
def tyX1 : Nat → FieldType := fun k => match k with
  | 0 => .array .int
  | 1 => .array .int
  | 2 => .array .int
  | 3 => .array .int
  | 4 => .array .int
  | 5 => .array .int
  | 6 => .int
  | 7 => .int
  | _ => .boolean
abbrev wsX10 : List Cond := u_ws RX1 TX1 9
theorem nmX1 : ∀ a, a < 9 → ∀ b, b < 9 → a ≠ b → (TX1 a).2.1 ≠ (TX1 b).2.1 := by decide +kernel
theorem tyX1_ok : ∀ k, k < 9 → parseFieldDescriptor (TX1 k).2.2.1 = some (tyX1 k) := by decide +kernel
def RX2 : String := "SilentTurn$DaysReader"
def TX2 : u_T := fun k => match k with
  | 0 => ("SilentTurn$DaysReader", "tape", "LSilentTurn$Tape;", true)
  | 1 => ("SilentTurn$DaysReader", "open", "[I", true)
  | 2 => ("SilentTurn$DaysReader", "depth", "I", false)
  | 3 => ("SilentTurn$DaysReader", "days", "LSilentTurn$Days;", false)
  | _ => ("SilentTurn$DaysReader", "house", "LSilentTurn$House;", false)
def tyX2 : Nat → FieldType := fun k => match k with
  | 0 => .object "SilentTurn$Tape"
  | 1 => .array .int
  | 2 => .int
  | 3 => .object "SilentTurn$Days"
  | _ => .object "SilentTurn$House"
abbrev wsX20 : List Cond := u_ws RX2 TX2 5
theorem nmX2 : ∀ a, a < 5 → ∀ b, b < 5 → a ≠ b → (TX2 a).2.1 ≠ (TX2 b).2.1 := by decide +kernel
theorem tyX2_ok : ∀ k, k < 5 → parseFieldDescriptor (TX2 k).2.2.1 = some (tyX2 k) := by decide +kernel
def RX3 : String := "SilentTurn$House"
def TX3 : u_T := fun k => match k with
  | 0 => ("SilentTurn$House", "topics", "LSilentTurn$Topics;", true)
  | 1 => ("SilentTurn$House", "monks", "LSilentTurn$Monks;", true)
  | 2 => ("SilentTurn$House", "entryMonks", "[I", true)
  | 3 => ("SilentTurn$House", "entryTopics", "[I", true)
  | 4 => ("SilentTurn$House", "entries", "I", false)
  | 5 => ("SilentTurn$House", "turn", "I", false)
  | 6 => ("SilentTurn$House", "odds", "I", false)
  | 7 => ("SilentTurn$House", "minutes", "I", false)
  | 8 => ("SilentTurn$House", "pauses", "I", false)
  | 9 => ("SilentTurn$House", "helps", "I", false)
  | 10 => ("SilentTurn$House", "quiet", "I", false)
  | _ => ("SilentTurn$House", "lately", "I", false)
def tyX3 : Nat → FieldType := fun k => match k with
  | 0 => .object "SilentTurn$Topics"
  | 1 => .object "SilentTurn$Monks"
  | 2 => .array .int
  | 3 => .array .int
  | 4 => .int
  | 5 => .int
  | 6 => .int
  | 7 => .int
  | 8 => .int
  | 9 => .int
  | 10 => .int
  | _ => .int
abbrev wsX30 : List Cond := u_ws RX3 TX3 12
theorem nmX3 : ∀ a, a < 12 → ∀ b, b < 12 → a ≠ b → (TX3 a).2.1 ≠ (TX3 b).2.1 := by decide +kernel
theorem tyX3_ok : ∀ k, k < 12 → parseFieldDescriptor (TX3 k).2.2.1 = some (tyX3 k) := by decide +kernel
def RX4 : String := "SilentTurn$HouseReader"
def TX4 : u_T := fun k => match k with
  | 0 => ("SilentTurn$HouseReader", "tape", "LSilentTurn$Tape;", true)
  | 1 => ("SilentTurn$HouseReader", "house", "LSilentTurn$House;", false)
  | 2 => ("SilentTurn$HouseReader", "turnTold", "Z", false)
  | _ => ("SilentTurn$HouseReader", "oddsTold", "Z", false)
def tyX4 : Nat → FieldType := fun k => match k with
  | 0 => .object "SilentTurn$Tape"
  | 1 => .object "SilentTurn$House"
  | 2 => .boolean
  | _ => .boolean
abbrev wsX40 : List Cond := u_ws RX4 TX4 4
theorem nmX4 : ∀ a, a < 4 → ∀ b, b < 4 → a ≠ b → (TX4 a).2.1 ≠ (TX4 b).2.1 := by decide +kernel
theorem tyX4_ok : ∀ k, k < 4 → parseFieldDescriptor (TX4 k).2.2.1 = some (tyX4 k) := by decide +kernel
def RX5 : String := "SilentTurn$Life"
def TX5 : u_T := fun k => match k with
  | 0 => ("SilentTurn$Life", "rounds", "[I", true)
  | 1 => ("SilentTurn$Life", "house", "LSilentTurn$House;", false)
  | 2 => ("SilentTurn$Life", "days", "LSilentTurn$Days;", false)
  | 3 => ("SilentTurn$Life", "state", "I", false)
  | 4 => ("SilentTurn$Life", "steps", "I", false)
  | 5 => ("SilentTurn$Life", "missed", "I", false)
  | 6 => ("SilentTurn$Life", "minutes", "I", false)
  | 7 => ("SilentTurn$Life", "pauses", "I", false)
  | 8 => ("SilentTurn$Life", "helps", "I", false)
  | 9 => ("SilentTurn$Life", "left", "Z", false)
  | _ => ("SilentTurn$Life", "there", "Z", false)
def tyX5 : Nat → FieldType := fun k => match k with
  | 0 => .array .int
  | 1 => .object "SilentTurn$House"
  | 2 => .object "SilentTurn$Days"
  | 3 => .int
  | 4 => .int
  | 5 => .int
  | 6 => .int
  | 7 => .int
  | 8 => .int
  | 9 => .boolean
  | _ => .boolean
abbrev wsX50 : List Cond := u_ws RX5 TX5 11
theorem nmX5 : ∀ a, a < 11 → ∀ b, b < 11 → a ≠ b → (TX5 a).2.1 ≠ (TX5 b).2.1 := by decide +kernel
theorem tyX5_ok : ∀ k, k < 11 → parseFieldDescriptor (TX5 k).2.2.1 = some (tyX5 k) := by decide +kernel
def RX6 : String := "SilentTurn$Monks"
def TX6 : u_T := fun k => match k with
  | 0 => ("SilentTurn$Monks", "names", "[J", true)
  | 1 => ("SilentTurn$Monks", "breaths", "[I", true)
  | 2 => ("SilentTurn$Monks", "mosts", "[I", true)
  | 3 => ("SilentTurn$Monks", "rests", "[I", true)
  | 4 => ("SilentTurn$Monks", "spoke", "[I", true)
  | 5 => ("SilentTurn$Monks", "kept", "[I", true)
  | 6 => ("SilentTurn$Monks", "ears", "[I", true)
  | 7 => ("SilentTurn$Monks", "awake", "I", false)
  | _ => ("SilentTurn$Monks", "count", "I", false)
def tyX6 : Nat → FieldType := fun k => match k with
  | 0 => .array .long
  | 1 => .array .int
  | 2 => .array .int
  | 3 => .array .int
  | 4 => .array .int
  | 5 => .array .int
  | 6 => .array .int
  | 7 => .int
  | _ => .int
abbrev wsX60 : List Cond := u_ws RX6 TX6 9
theorem nmX6 : ∀ a, a < 9 → ∀ b, b < 9 → a ≠ b → (TX6 a).2.1 ≠ (TX6 b).2.1 := by decide +kernel
theorem tyX6_ok : ∀ k, k < 9 → parseFieldDescriptor (TX6 k).2.2.1 = some (tyX6 k) := by decide +kernel
def RX7 : String := "SilentTurn$Talk"
def TX7 : u_T := fun k => match k with
  | 0 => ("SilentTurn$Talk", "row", "[I", true)
  | 1 => ("SilentTurn$Talk", "found", "[I", true)
  | _ => ("SilentTurn$Talk", "length", "I", false)
def tyX7 : Nat → FieldType := fun k => match k with
  | 0 => .array .int
  | 1 => .array .int
  | _ => .int
abbrev wsX70 : List Cond := u_ws RX7 TX7 3
theorem nmX7 : ∀ a, a < 3 → ∀ b, b < 3 → a ≠ b → (TX7 a).2.1 ≠ (TX7 b).2.1 := by decide +kernel
theorem tyX7_ok : ∀ k, k < 3 → parseFieldDescriptor (TX7 k).2.2.1 = some (tyX7 k) := by decide +kernel
def RX8 : String := "SilentTurn$Tape"
def TX8 : u_T := fun k => match k with
  | 0 => ("SilentTurn$Tape", "bytes", "[I", true)
  | 1 => ("SilentTurn$Tape", "keywords", "[J", true)
  | 2 => ("SilentTurn$Tape", "fed", "I", false)
  | 3 => ("SilentTurn$Tape", "fault", "I", false)
  | 4 => ("SilentTurn$Tape", "faultPlace", "I", false)
  | 5 => ("SilentTurn$Tape", "kind", "I", false)
  | 6 => ("SilentTurn$Tape", "place", "I", false)
  | 7 => ("SilentTurn$Tape", "word", "I", false)
  | 8 => ("SilentTurn$Tape", "number", "I", false)
  | 9 => ("SilentTurn$Tape", "name", "J", false)
  | 10 => ("SilentTurn$Tape", "length", "I", false)
  | _ => ("SilentTurn$Tape", "next", "I", false)
def tyX8 : Nat → FieldType := fun k => match k with
  | 0 => .array .int
  | 1 => .array .long
  | 2 => .int
  | 3 => .int
  | 4 => .int
  | 5 => .int
  | 6 => .int
  | 7 => .int
  | 8 => .int
  | 9 => .long
  | 10 => .int
  | _ => .int
abbrev wsX80 : List Cond := u_ws RX8 TX8 12
theorem nmX8 : ∀ a, a < 12 → ∀ b, b < 12 → a ≠ b → (TX8 a).2.1 ≠ (TX8 b).2.1 := by decide +kernel
theorem tyX8_ok : ∀ k, k < 12 → parseFieldDescriptor (TX8 k).2.2.1 = some (tyX8 k) := by decide +kernel
def RX9 : String := "SilentTurn$Topics"
def TX9 : u_T := fun k => match k with
  | 0 => ("SilentTurn$Topics", "names", "[J", true)
  | 1 => ("SilentTurn$Topics", "costs", "[I", true)
  | 2 => ("SilentTurn$Topics", "nexts", "[I", true)
  | _ => ("SilentTurn$Topics", "count", "I", false)
def tyX9 : Nat → FieldType := fun k => match k with
  | 0 => .array .long
  | 1 => .array .int
  | 2 => .array .int
  | _ => .int
abbrev wsX90 : List Cond := u_ws RX9 TX9 4
theorem nmX9 : ∀ a, a < 4 → ∀ b, b < 4 → a ≠ b → (TX9 a).2.1 ≠ (TX9 b).2.1 := by decide +kernel
theorem tyX9_ok : ∀ k, k < 4 → parseFieldDescriptor (TX9 k).2.2.1 = some (tyX9 k) := by decide +kernel
def RX10 : String := "SilentTurn$Tray"
def TX10 : u_T := fun k => match k with
  | 0 => ("SilentTurn$Tray", "row", "[J", true)
  | 1 => ("SilentTurn$Tray", "there", "Z", false)
  | 2 => ("SilentTurn$Tray", "sort", "I", false)
  | _ => ("SilentTurn$Tray", "many", "I", false)
def tyX10 : Nat → FieldType := fun k => match k with
  | 0 => .array .long
  | 1 => .boolean
  | 2 => .int
  | _ => .int
abbrev wsX100 : List Cond := u_ws RX10 TX10 4
theorem nmX10 : ∀ a, a < 4 → ∀ b, b < 4 → a ≠ b → (TX10 a).2.1 ≠ (TX10 b).2.1 := by decide +kernel
theorem tyX10_ok : ∀ k, k < 4 → parseFieldDescriptor (TX10 k).2.2.1 = some (tyX10 k) := by decide +kernel
def RX11 : String := "SilentTurn"
def TX11 : u_T := fun k => match k with
  | 0 => ("SilentTurn", "trays", "[LSilentTurn$Tray;", true)
  | 1 => ("SilentTurn", "tape", "LSilentTurn$Tape;", true)
  | 2 => ("SilentTurn", "houseReader", "LSilentTurn$HouseReader;", true)
  | 3 => ("SilentTurn", "daysReader", "LSilentTurn$DaysReader;", true)
  | 4 => ("SilentTurn", "markedHouses", "[LSilentTurn$House;", true)
  | 5 => ("SilentTurn", "markedDays", "[LSilentTurn$Days;", true)
  | 6 => ("SilentTurn", "ahead", "LSilentTurn$Ahead;", true)
  | 7 => ("SilentTurn", "rows", "LSilentTurn$Talk;", true)
  | 8 => ("SilentTurn", "latest", "LSilentTurn$Life;", true)
  | 9 => ("SilentTurn", "trial", "LSilentTurn$Life;", true)
  | 10 => ("SilentTurn", "weights", "[J", true)
  | 11 => ("SilentTurn", "now", "LSilentTurn$House;", false)
  | 12 => ("SilentTurn", "spareHouse", "LSilentTurn$House;", false)
  | 13 => ("SilentTurn", "plan", "LSilentTurn$Days;", false)
  | 14 => ("SilentTurn", "spareDays", "LSilentTurn$Days;", false)
  | 15 => ("SilentTurn", "marks", "I", false)
  | 16 => ("SilentTurn", "code", "I", false)
  | 17 => ("SilentTurn", "above", "J", false)
  | _ => ("SilentTurn", "below", "J", false)
def tyX11 : Nat → FieldType := fun k => match k with
  | 0 => .array (.object "SilentTurn$Tray")
  | 1 => .object "SilentTurn$Tape"
  | 2 => .object "SilentTurn$HouseReader"
  | 3 => .object "SilentTurn$DaysReader"
  | 4 => .array (.object "SilentTurn$House")
  | 5 => .array (.object "SilentTurn$Days")
  | 6 => .object "SilentTurn$Ahead"
  | 7 => .object "SilentTurn$Talk"
  | 8 => .object "SilentTurn$Life"
  | 9 => .object "SilentTurn$Life"
  | 10 => .array .long
  | 11 => .object "SilentTurn$House"
  | 12 => .object "SilentTurn$House"
  | 13 => .object "SilentTurn$Days"
  | 14 => .object "SilentTurn$Days"
  | 15 => .int
  | 16 => .int
  | 17 => .long
  | _ => .long
abbrev wsX110 : List Cond := u_ws RX11 TX11 19
theorem nmX11 : ∀ a, a < 19 → ∀ b, b < 19 → a ≠ b → (TX11 a).2.1 ≠ (TX11 b).2.1 := by decide +kernel
theorem tyX11_ok : ∀ k, k < 19 → parseFieldDescriptor (TX11 k).2.2.1 = some (tyX11 k) := by decide +kernel
def RX12 : String := "SilentTurnModel"
def TX12 : u_T := fun k => match k with
  | 0 => ("SilentTurnModel", "at", "[I", true)
  | 1 => ("SilentTurnModel", "names", "[J", true)
  | 2 => ("SilentTurnModel", "status", "I", false)
  | 3 => ("SilentTurnModel", "top", "J", false)
  | 4 => ("SilentTurnModel", "bottom", "J", false)
  | 5 => ("SilentTurnModel", "sort", "[I", true)
  | 6 => ("SilentTurnModel", "trayMany", "[I", true)
  | 7 => ("SilentTurnModel", "trays", "[J", true)
  | 8 => ("SilentTurnModel", "tape", "[B", true)
  | 9 => ("SilentTurnModel", "text", "[B", true)
  | 10 => ("SilentTurnModel", "taped", "I", false)
  | 11 => ("SilentTurnModel", "size", "I", false)
  | 12 => ("SilentTurnModel", "token", "I", false)
  | 13 => ("SilentTurnModel", "from", "I", false)
  | 14 => ("SilentTurnModel", "end", "I", false)
  | 15 => ("SilentTurnModel", "value", "I", false)
  | 16 => ("SilentTurnModel", "faultKind", "I", false)
  | 17 => ("SilentTurnModel", "faultPlace", "I", false)
  | 18 => ("SilentTurnModel", "faults", "I", false)
  | 19 => ("SilentTurnModel", "seen", "I", false)
  | 20 => ("SilentTurnModel", "toldParts", "I", false)
  | 21 => ("SilentTurnModel", "opened", "[I", true)
  | 22 => ("SilentTurnModel", "depth", "I", false)
  | 23 => ("SilentTurnModel", "counted", "I", false)
  | 24 => ("SilentTurnModel", "speakerNow", "I", false)
  | 25 => ("SilentTurnModel", "topicNow", "I", false)
  | 26 => ("SilentTurnModel", "doesHelp", "Z", false)
  | 27 => ("SilentTurnModel", "triedSay", "[I", true)
  | 28 => ("SilentTurnModel", "bestSay", "[I", true)
  | 29 => ("SilentTurnModel", "bestBreath", "I", false)
  | 30 => ("SilentTurnModel", "longestBy", "[I", true)
  | 31 => ("SilentTurnModel", "winsBy", "[Z", true)
  | 32 => ("SilentTurnModel", "farOf", "[I", true)
  | 33 => ("SilentTurnModel", "ringFrom", "I", false)
  | 34 => ("SilentTurnModel", "ringLong", "I", false)
  | 35 => ("SilentTurnModel", "heardBy", "[I", true)
  | 36 => ("SilentTurnModel", "sureBy", "[I", true)
  | 37 => ("SilentTurnModel", "heardMany", "I", false)
  | 38 => ("SilentTurnModel", "couplesBy", "[I", true)
  | 39 => ("SilentTurnModel", "coughsBy", "[J", true)
  | 40 => ("SilentTurnModel", "drawn", "I", false)
  | 41 => ("SilentTurnModel", "ranSteps", "I", false)
  | 42 => ("SilentTurnModel", "loops", "[I", true)
  | 43 => ("SilentTurnModel", "ran", "[I", true)
  | 44 => ("SilentTurnModel", "told1", "[I", true)
  | 45 => ("SilentTurnModel", "isTold", "Z", false)
  | _ => ("SilentTurnModel", "marks", "I", false)
def tyX12 : Nat → FieldType := fun k => match k with
  | 0 => .array .int
  | 1 => .array .long
  | 2 => .int
  | 3 => .long
  | 4 => .long
  | 5 => .array .int
  | 6 => .array .int
  | 7 => .array .long
  | 8 => .array .byte
  | 9 => .array .byte
  | 10 => .int
  | 11 => .int
  | 12 => .int
  | 13 => .int
  | 14 => .int
  | 15 => .int
  | 16 => .int
  | 17 => .int
  | 18 => .int
  | 19 => .int
  | 20 => .int
  | 21 => .array .int
  | 22 => .int
  | 23 => .int
  | 24 => .int
  | 25 => .int
  | 26 => .boolean
  | 27 => .array .int
  | 28 => .array .int
  | 29 => .int
  | 30 => .array .int
  | 31 => .array .boolean
  | 32 => .array .int
  | 33 => .int
  | 34 => .int
  | 35 => .array .int
  | 36 => .array .int
  | 37 => .int
  | 38 => .array .int
  | 39 => .array .long
  | 40 => .int
  | 41 => .int
  | 42 => .array .int
  | 43 => .array .int
  | 44 => .array .int
  | 45 => .boolean
  | _ => .int
abbrev wsX120 : List Cond := u_ws RX12 TX12 47
theorem nmX12 : ∀ a, a < 47 → ∀ b, b < 47 → a ≠ b → (TX12 a).2.1 ≠ (TX12 b).2.1 := by decide +kernel
theorem tyX12_ok : ∀ k, k < 47 → parseFieldDescriptor (TX12 k).2.2.1 = some (tyX12 k) := by decide +kernel
abbrev clA : List vw_C := [(RX0, TX0, 8), (RX1, TX1, 9), (RX2, TX2, 5), (RX3, TX3, 12), (RX4, TX4, 4), (RX5, TX5, 11), (RX6, TX6, 9), (RX7, TX7, 3), (RX8, TX8, 12), (RX9, TX9, 4), (RX10, TX10, 4), (RX11, TX11, 19), (RX12, TX12, 47)]
/-- of a tag: 0 an object of that class, 1 an int[], 2 a long[], 3 a byte[], 4 a boolean[], 5 an array of references: its class, or its length -/
def sh (t : Nat) : Nat × Nat := (bif Nat.ble t 33 then (bif Nat.ble t 16 then (bif Nat.ble t 8 then (bif Nat.ble t 4 then (bif Nat.ble t 2 then (bif Nat.ble t 1 then (bif Nat.ble t 0 then (9, 0) else (0, 11)) else (5, 4)) else (bif Nat.ble t 3 then (0, 8) else (1, 900))) else (bif Nat.ble t 6 then (bif Nat.ble t 5 then (2, 23) else (0, 4)) else (bif Nat.ble t 7 then (0, 2) else (1, 3)))) else (bif Nat.ble t 12 then (bif Nat.ble t 10 then (bif Nat.ble t 9 then (5, 3) else (5, 3)) else (bif Nat.ble t 11 then (0, 0) else (5, 4))) else (bif Nat.ble t 14 then (bif Nat.ble t 13 then (1, 3) else (1, 4)) else (bif Nat.ble t 15 then (1, 3) else (0, 7))))) else (bif Nat.ble t 25 then (bif Nat.ble t 21 then (bif Nat.ble t 19 then (bif Nat.ble t 18 then (bif Nat.ble t 17 then (1, 6) else (1, 6)) else (0, 5)) else (bif Nat.ble t 20 then (1, 60) else (2, 8))) else (bif Nat.ble t 23 then (bif Nat.ble t 22 then (0, 3) else (0, 9)) else (bif Nat.ble t 24 then (2, 6) else (1, 6)))) else (bif Nat.ble t 29 then (bif Nat.ble t 27 then (bif Nat.ble t 26 then (1, 6) else (0, 6)) else (bif Nat.ble t 28 then (2, 7) else (1, 7))) else (bif Nat.ble t 31 then (bif Nat.ble t 30 then (1, 7) else (1, 7)) else (bif Nat.ble t 32 then (1, 7) else (1, 7)))))) else (bif Nat.ble t 50 then (bif Nat.ble t 42 then (bif Nat.ble t 38 then (bif Nat.ble t 36 then (bif Nat.ble t 35 then (bif Nat.ble t 34 then (1, 7) else (1, 12)) else (1, 12)) else (bif Nat.ble t 37 then (0, 1) else (1, 60))) else (bif Nat.ble t 40 then (bif Nat.ble t 39 then (1, 60) else (1, 60)) else (bif Nat.ble t 41 then (1, 60) else (1, 60)))) else (bif Nat.ble t 46 then (bif Nat.ble t 44 then (bif Nat.ble t 43 then (1, 60) else (0, 10)) else (bif Nat.ble t 45 then (2, 60) else (0, 12))) else (bif Nat.ble t 48 then (bif Nat.ble t 47 then (1, 3372) else (2, 78)) else (bif Nat.ble t 49 then (1, 4) else (1, 4))))) else (bif Nat.ble t 59 then (bif Nat.ble t 55 then (bif Nat.ble t 53 then (bif Nat.ble t 52 then (bif Nat.ble t 51 then (2, 240) else (3, 900)) else (3, 900)) else (bif Nat.ble t 54 then (1, 3) else (1, 4))) else (bif Nat.ble t 57 then (bif Nat.ble t 56 then (1, 4) else (1, 384)) else (bif Nat.ble t 58 then (4, 384) else (1, 6)))) else (bif Nat.ble t 63 then (bif Nat.ble t 61 then (bif Nat.ble t 60 then (1, 5) else (1, 5)) else (bif Nat.ble t 62 then (1, 128) else (2, 8))) else (bif Nat.ble t 65 then (bif Nat.ble t 64 then (1, 80) else (1, 5)) else (bif Nat.ble t 66 then (1, 5) else (9, 0)))))))
/-- how many there are of a tag -/
def cn (t : Nat) : Nat := (bif Nat.ble t 33 then (bif Nat.ble t 16 then (bif Nat.ble t 8 then (bif Nat.ble t 4 then (bif Nat.ble t 2 then (bif Nat.ble t 1 then (bif Nat.ble t 0 then 0 else 1) else 1) else (bif Nat.ble t 3 then 1 else 1)) else (bif Nat.ble t 6 then (bif Nat.ble t 5 then 1 else 1) else (bif Nat.ble t 7 then 1 else 1))) else (bif Nat.ble t 12 then (bif Nat.ble t 10 then (bif Nat.ble t 9 then 1 else 1) else (bif Nat.ble t 11 then 1 else 1)) else (bif Nat.ble t 14 then (bif Nat.ble t 13 then 1 else 1) else (bif Nat.ble t 15 then 1 else 1)))) else (bif Nat.ble t 25 then (bif Nat.ble t 21 then (bif Nat.ble t 19 then (bif Nat.ble t 18 then (bif Nat.ble t 17 then 1 else 1) else 2) else (bif Nat.ble t 20 then 2 else 1)) else (bif Nat.ble t 23 then (bif Nat.ble t 22 then 9 else 9) else (bif Nat.ble t 24 then 9 else 9))) else (bif Nat.ble t 29 then (bif Nat.ble t 27 then (bif Nat.ble t 26 then 9 else 9) else (bif Nat.ble t 28 then 9 else 9)) else (bif Nat.ble t 31 then (bif Nat.ble t 30 then 9 else 9) else (bif Nat.ble t 32 then 9 else 9))))) else (bif Nat.ble t 50 then (bif Nat.ble t 42 then (bif Nat.ble t 38 then (bif Nat.ble t 36 then (bif Nat.ble t 35 then (bif Nat.ble t 34 then 9 else 9) else 9) else (bif Nat.ble t 37 then 5 else 5)) else (bif Nat.ble t 40 then (bif Nat.ble t 39 then 5 else 5) else (bif Nat.ble t 41 then 5 else 5))) else (bif Nat.ble t 46 then (bif Nat.ble t 44 then (bif Nat.ble t 43 then 5 else 4) else (bif Nat.ble t 45 then 4 else 1)) else (bif Nat.ble t 48 then (bif Nat.ble t 47 then 1 else 1) else (bif Nat.ble t 49 then 1 else 1)))) else (bif Nat.ble t 59 then (bif Nat.ble t 55 then (bif Nat.ble t 53 then (bif Nat.ble t 52 then (bif Nat.ble t 51 then 1 else 1) else 1) else (bif Nat.ble t 54 then 1 else 1)) else (bif Nat.ble t 57 then (bif Nat.ble t 56 then 1 else 1) else (bif Nat.ble t 58 then 1 else 1))) else (bif Nat.ble t 63 then (bif Nat.ble t 61 then (bif Nat.ble t 60 then 1 else 1) else (bif Nat.ble t 62 then 1 else 1)) else (bif Nat.ble t 65 then (bif Nat.ble t 64 then 1 else 1) else (bif Nat.ble t 66 then 1 else 0))))))
/-- which cell an array of references holds in its place 0 -/
def elt (t : Nat) : Nat × Nat := (bif Nat.ble t 33 then (bif Nat.ble t 16 then (bif Nat.ble t 8 then (bif Nat.ble t 4 then (bif Nat.ble t 2 then (bif Nat.ble t 1 then (bif Nat.ble t 0 then (0, 0) else (0, 0)) else (44, 0)) else (bif Nat.ble t 3 then (0, 0) else (0, 0))) else (bif Nat.ble t 6 then (bif Nat.ble t 5 then (0, 0) else (0, 0)) else (bif Nat.ble t 7 then (0, 0) else (0, 0)))) else (bif Nat.ble t 12 then (bif Nat.ble t 10 then (bif Nat.ble t 9 then (22, 6) else (37, 2)) else (bif Nat.ble t 11 then (0, 0) else (22, 0))) else (bif Nat.ble t 14 then (bif Nat.ble t 13 then (0, 0) else (0, 0)) else (bif Nat.ble t 15 then (0, 0) else (0, 0))))) else (bif Nat.ble t 25 then (bif Nat.ble t 21 then (bif Nat.ble t 19 then (bif Nat.ble t 18 then (bif Nat.ble t 17 then (0, 0) else (0, 0)) else (0, 0)) else (bif Nat.ble t 20 then (0, 0) else (0, 0))) else (bif Nat.ble t 23 then (bif Nat.ble t 22 then (0, 0) else (0, 0)) else (bif Nat.ble t 24 then (0, 0) else (0, 0)))) else (bif Nat.ble t 29 then (bif Nat.ble t 27 then (bif Nat.ble t 26 then (0, 0) else (0, 0)) else (bif Nat.ble t 28 then (0, 0) else (0, 0))) else (bif Nat.ble t 31 then (bif Nat.ble t 30 then (0, 0) else (0, 0)) else (bif Nat.ble t 32 then (0, 0) else (0, 0)))))) else (bif Nat.ble t 50 then (bif Nat.ble t 42 then (bif Nat.ble t 38 then (bif Nat.ble t 36 then (bif Nat.ble t 35 then (bif Nat.ble t 34 then (0, 0) else (0, 0)) else (0, 0)) else (bif Nat.ble t 37 then (0, 0) else (0, 0))) else (bif Nat.ble t 40 then (bif Nat.ble t 39 then (0, 0) else (0, 0)) else (bif Nat.ble t 41 then (0, 0) else (0, 0)))) else (bif Nat.ble t 46 then (bif Nat.ble t 44 then (bif Nat.ble t 43 then (0, 0) else (0, 0)) else (bif Nat.ble t 45 then (0, 0) else (0, 0))) else (bif Nat.ble t 48 then (bif Nat.ble t 47 then (0, 0) else (0, 0)) else (bif Nat.ble t 49 then (0, 0) else (0, 0))))) else (bif Nat.ble t 59 then (bif Nat.ble t 55 then (bif Nat.ble t 53 then (bif Nat.ble t 52 then (bif Nat.ble t 51 then (0, 0) else (0, 0)) else (0, 0)) else (bif Nat.ble t 54 then (0, 0) else (0, 0))) else (bif Nat.ble t 57 then (bif Nat.ble t 56 then (0, 0) else (0, 0)) else (bif Nat.ble t 58 then (0, 0) else (0, 0)))) else (bif Nat.ble t 63 then (bif Nat.ble t 61 then (bif Nat.ble t 60 then (0, 0) else (0, 0)) else (bif Nat.ble t 62 then (0, 0) else (0, 0))) else (bif Nat.ble t 65 then (bif Nat.ble t 64 then (0, 0) else (0, 0)) else (bif Nat.ble t 66 then (0, 0) else (0, 0)))))))
def str0 : List Nat := [116, 117, 114, 110, 32, 111, 100, 100, 115, 32, 116, 111, 112, 105, 99, 32, 99, 111, 115, 116, 32, 109, 111, 110, 107, 32, 98, 114, 101, 97, 116, 104, 32, 114, 101, 115, 116, 32, 97, 115, 108, 101, 101, 112, 32, 102, 111, 108, 108, 111, 119, 115, 32, 114, 111, 115, 116, 101, 114, 32, 104, 101, 97, 114, 115, 32, 109, 105, 110, 117, 116, 101, 32, 99, 104, 97, 110, 103, 101, 32, 119, 97, 107, 101, 32, 115, 108, 101, 101, 112, 32, 97, 110, 121, 32, 119, 104, 101, 110, 32, 115, 105, 108, 101, 110, 116, 32, 108, 97, 115, 116, 32, 112, 97, 117, 115, 101, 100, 32, 108, 111, 111, 112, 32, 101, 110, 100, 32, 115, 116, 111, 112, 32]
def str1 : List Nat := [32, 116, 117, 114, 110, 32, 111, 100, 100, 115, 32, 116, 111, 112, 105, 99, 32, 109, 111, 110, 107, 32, 102, 111, 108, 108, 111, 119, 115, 32, 114, 111, 115, 116, 101, 114, 32, 104, 101, 97, 114, 115, 32, 99, 111, 115, 116, 32, 98, 114, 101, 97, 116, 104, 32, 114, 101, 115, 116, 32, 97, 115, 108, 101, 101, 112, 32, 109, 105, 110, 117, 116, 101, 32, 99, 104, 97, 110, 103, 101, 32, 119, 97, 107, 101, 32, 115, 108, 101, 101, 112, 32, 97, 110, 121, 32, 119, 104, 101, 110, 32, 108, 111, 111, 112, 32, 101, 110, 100, 32, 115, 116, 111, 112, 32, 115, 105, 108, 101, 110, 116, 32, 108, 97, 115, 116, 32, 112, 97, 117, 115, 101, 100, 32]
def slen (i : Nat) : Nat := bif Nat.beq i 0 then 133 else 134
def schr (i j : Nat) : Int32 := Int32.ofInt (((bif Nat.beq i 0 then str0 else str1).getD j 0 : Nat) : Int)
/-- the kinds of the fields of a class: 0 int, 1 long, 2 a cell for good (of that tag, the same instance), 3 a cell that changes (tag, how many), 4 a cell for good (tag, instance), 5 boolean -/
def fkl (c : Nat) : List (Nat × Nat × Nat) := (bif Nat.ble c 6 then (bif Nat.ble c 3 then (bif Nat.ble c 1 then (bif Nat.ble c 0 then [(2, 12, 0), (2, 13, 0), (2, 14, 0), (0, 0, 0), (0, 0, 0), (0, 0, 0), (2, 15, 0), (0, 0, 0)] else [(2, 38, 0), (2, 39, 0), (2, 40, 0), (2, 41, 0), (2, 42, 0), (2, 43, 0), (0, 0, 0), (0, 0, 0), (5, 0, 0)]) else (bif Nat.ble c 2 then [(2, 3, 0), (2, 8, 0), (0, 0, 0), (3, 37, 5), (3, 22, 9)] else [(2, 23, 0), (2, 27, 0), (2, 35, 0), (2, 36, 0), (0, 0, 0), (0, 0, 0), (0, 0, 0), (0, 0, 0), (0, 0, 0), (0, 0, 0), (0, 0, 0), (0, 0, 0)])) else (bif Nat.ble c 5 then (bif Nat.ble c 4 then [(2, 3, 0), (3, 22, 9), (5, 0, 0), (5, 0, 0)] else [(2, 20, 0), (3, 22, 9), (3, 37, 5), (0, 0, 0), (0, 0, 0), (0, 0, 0), (0, 0, 0), (0, 0, 0), (0, 0, 0), (5, 0, 0), (5, 0, 0)]) else [(2, 28, 0), (2, 29, 0), (2, 30, 0), (2, 31, 0), (2, 32, 0), (2, 33, 0), (2, 34, 0), (0, 0, 0), (0, 0, 0)])) else (bif Nat.ble c 9 then (bif Nat.ble c 8 then (bif Nat.ble c 7 then [(2, 17, 0), (2, 18, 0), (0, 0, 0)] else [(2, 4, 0), (2, 5, 0), (0, 0, 0), (0, 0, 0), (0, 0, 0), (0, 0, 0), (0, 0, 0), (0, 0, 0), (0, 0, 0), (1, 0, 0), (0, 0, 0), (0, 0, 0)]) else [(2, 24, 0), (2, 25, 0), (2, 26, 0), (0, 0, 0)]) else (bif Nat.ble c 11 then (bif Nat.ble c 10 then [(2, 45, 0), (5, 0, 0), (0, 0, 0), (0, 0, 0)] else [(2, 2, 0), (2, 3, 0), (2, 6, 0), (2, 7, 0), (2, 9, 0), (2, 10, 0), (2, 11, 0), (2, 16, 0), (2, 19, 0), (4, 19, 1), (2, 21, 0), (3, 22, 9), (3, 22, 9), (3, 37, 5), (3, 37, 5), (0, 0, 0), (0, 0, 0), (1, 0, 0), (1, 0, 0)]) else [(2, 47, 0), (2, 48, 0), (0, 0, 0), (1, 0, 0), (1, 0, 0), (2, 49, 0), (2, 50, 0), (2, 51, 0), (2, 52, 0), (2, 53, 0), (0, 0, 0), (0, 0, 0), (0, 0, 0), (0, 0, 0), (0, 0, 0), (0, 0, 0), (0, 0, 0), (0, 0, 0), (0, 0, 0), (0, 0, 0), (0, 0, 0), (2, 54, 0), (0, 0, 0), (0, 0, 0), (0, 0, 0), (0, 0, 0), (5, 0, 0), (2, 55, 0), (2, 56, 0), (0, 0, 0), (2, 57, 0), (2, 58, 0), (2, 59, 0), (0, 0, 0), (0, 0, 0), (2, 60, 0), (2, 61, 0), (0, 0, 0), (2, 62, 0), (2, 63, 0), (0, 0, 0), (0, 0, 0), (2, 64, 0), (2, 65, 0), (2, 66, 0), (5, 0, 0), (0, 0, 0)])))
def RN (c : Nat) : String := (bif Nat.ble c 7 then (bif Nat.ble c 3 then (bif Nat.ble c 1 then (bif Nat.ble c 0 then RX0 else RX1) else (bif Nat.ble c 2 then RX2 else RX3)) else (bif Nat.ble c 5 then (bif Nat.ble c 4 then RX4 else RX5) else (bif Nat.ble c 6 then RX6 else RX7))) else (bif Nat.ble c 11 then (bif Nat.ble c 9 then (bif Nat.ble c 8 then RX8 else RX9) else (bif Nat.ble c 10 then RX10 else RX11)) else (bif Nat.ble c 13 then (bif Nat.ble c 12 then RX12 else "java/lang/Integer") else (bif Nat.ble c 14 then "java/lang/Math" else "java/util/Arrays"))))
def TT (c : Nat) : u_T := (bif Nat.ble c 6 then (bif Nat.ble c 3 then (bif Nat.ble c 1 then (bif Nat.ble c 0 then TX0 else TX1) else (bif Nat.ble c 2 then TX2 else TX3)) else (bif Nat.ble c 5 then (bif Nat.ble c 4 then TX4 else TX5) else TX6)) else (bif Nat.ble c 9 then (bif Nat.ble c 8 then (bif Nat.ble c 7 then TX7 else TX8) else TX9) else (bif Nat.ble c 11 then (bif Nat.ble c 10 then TX10 else TX11) else TX12)))
def tyTT (c : Nat) : Nat → FieldType := (bif Nat.ble c 6 then (bif Nat.ble c 3 then (bif Nat.ble c 1 then (bif Nat.ble c 0 then tyX0 else tyX1) else (bif Nat.ble c 2 then tyX2 else tyX3)) else (bif Nat.ble c 5 then (bif Nat.ble c 4 then tyX4 else tyX5) else tyX6)) else (bif Nat.ble c 9 then (bif Nat.ble c 8 then (bif Nat.ble c 7 then tyX7 else tyX8) else tyX9) else (bif Nat.ble c 11 then (bif Nat.ble c 10 then tyX10 else tyX11) else tyX12)))
def rkt (t : Nat) : Nat := (bif Nat.ble t 33 then (bif Nat.ble t 16 then (bif Nat.ble t 8 then (bif Nat.ble t 4 then (bif Nat.ble t 2 then (bif Nat.ble t 1 then (bif Nat.ble t 0 then 1 else 1) else 5) else (bif Nat.ble t 3 then 1 else 1)) else (bif Nat.ble t 6 then (bif Nat.ble t 5 then 1 else 1) else (bif Nat.ble t 7 then 1 else 1))) else (bif Nat.ble t 12 then (bif Nat.ble t 10 then (bif Nat.ble t 9 then 6 else 7) else (bif Nat.ble t 11 then 1 else 6)) else (bif Nat.ble t 14 then (bif Nat.ble t 13 then 1 else 1) else (bif Nat.ble t 15 then 1 else 1)))) else (bif Nat.ble t 25 then (bif Nat.ble t 21 then (bif Nat.ble t 19 then (bif Nat.ble t 18 then (bif Nat.ble t 17 then 1 else 1) else 1) else (bif Nat.ble t 20 then 1 else 1)) else (bif Nat.ble t 23 then (bif Nat.ble t 22 then 1 else 1) else (bif Nat.ble t 24 then 1 else 1))) else (bif Nat.ble t 29 then (bif Nat.ble t 27 then (bif Nat.ble t 26 then 1 else 1) else (bif Nat.ble t 28 then 1 else 1)) else (bif Nat.ble t 31 then (bif Nat.ble t 30 then 1 else 1) else (bif Nat.ble t 32 then 1 else 1))))) else (bif Nat.ble t 50 then (bif Nat.ble t 42 then (bif Nat.ble t 38 then (bif Nat.ble t 36 then (bif Nat.ble t 35 then (bif Nat.ble t 34 then 1 else 1) else 1) else (bif Nat.ble t 37 then 1 else 1)) else (bif Nat.ble t 40 then (bif Nat.ble t 39 then 1 else 1) else (bif Nat.ble t 41 then 1 else 1))) else (bif Nat.ble t 46 then (bif Nat.ble t 44 then (bif Nat.ble t 43 then 1 else 1) else (bif Nat.ble t 45 then 1 else 1)) else (bif Nat.ble t 48 then (bif Nat.ble t 47 then 1 else 1) else (bif Nat.ble t 49 then 1 else 1)))) else (bif Nat.ble t 59 then (bif Nat.ble t 55 then (bif Nat.ble t 53 then (bif Nat.ble t 52 then (bif Nat.ble t 51 then 1 else 1) else 1) else (bif Nat.ble t 54 then 1 else 1)) else (bif Nat.ble t 57 then (bif Nat.ble t 56 then 1 else 1) else (bif Nat.ble t 58 then 1 else 1))) else (bif Nat.ble t 63 then (bif Nat.ble t 61 then (bif Nat.ble t 60 then 1 else 1) else (bif Nat.ble t 62 then 1 else 1)) else (bif Nat.ble t 65 then (bif Nat.ble t 64 then 1 else 1) else (bif Nat.ble t 66 then 1 else 1))))))
def ps (t : Nat) : Nat := (bif Nat.ble t 33 then (bif Nat.ble t 16 then (bif Nat.ble t 8 then (bif Nat.ble t 4 then (bif Nat.ble t 2 then (bif Nat.ble t 1 then (bif Nat.ble t 0 then 0 else 0) else 1) else (bif Nat.ble t 3 then 2 else 3)) else (bif Nat.ble t 6 then (bif Nat.ble t 5 then 4 else 5) else (bif Nat.ble t 7 then 6 else 7))) else (bif Nat.ble t 12 then (bif Nat.ble t 10 then (bif Nat.ble t 9 then 8 else 9) else (bif Nat.ble t 11 then 10 else 11)) else (bif Nat.ble t 14 then (bif Nat.ble t 13 then 12 else 13) else (bif Nat.ble t 15 then 14 else 15)))) else (bif Nat.ble t 25 then (bif Nat.ble t 21 then (bif Nat.ble t 19 then (bif Nat.ble t 18 then (bif Nat.ble t 17 then 16 else 17) else 18) else (bif Nat.ble t 20 then 20 else 22)) else (bif Nat.ble t 23 then (bif Nat.ble t 22 then 23 else 32) else (bif Nat.ble t 24 then 41 else 50))) else (bif Nat.ble t 29 then (bif Nat.ble t 27 then (bif Nat.ble t 26 then 59 else 68) else (bif Nat.ble t 28 then 77 else 86)) else (bif Nat.ble t 31 then (bif Nat.ble t 30 then 95 else 104) else (bif Nat.ble t 32 then 113 else 122))))) else (bif Nat.ble t 50 then (bif Nat.ble t 42 then (bif Nat.ble t 38 then (bif Nat.ble t 36 then (bif Nat.ble t 35 then (bif Nat.ble t 34 then 131 else 140) else 149) else (bif Nat.ble t 37 then 158 else 163)) else (bif Nat.ble t 40 then (bif Nat.ble t 39 then 168 else 173) else (bif Nat.ble t 41 then 178 else 183))) else (bif Nat.ble t 46 then (bif Nat.ble t 44 then (bif Nat.ble t 43 then 188 else 193) else (bif Nat.ble t 45 then 197 else 201)) else (bif Nat.ble t 48 then (bif Nat.ble t 47 then 202 else 203) else (bif Nat.ble t 49 then 204 else 205)))) else (bif Nat.ble t 59 then (bif Nat.ble t 55 then (bif Nat.ble t 53 then (bif Nat.ble t 52 then (bif Nat.ble t 51 then 206 else 207) else 208) else (bif Nat.ble t 54 then 209 else 210)) else (bif Nat.ble t 57 then (bif Nat.ble t 56 then 211 else 212) else (bif Nat.ble t 58 then 213 else 214))) else (bif Nat.ble t 63 then (bif Nat.ble t 61 then (bif Nat.ble t 60 then 215 else 216) else (bif Nat.ble t 62 then 217 else 218)) else (bif Nat.ble t 65 then (bif Nat.ble t 64 then 219 else 220) else (bif Nat.ble t 66 then 221 else 222))))))
def VL : List (Nat × Nat) := [(1, 0), (2, 0), (3, 0), (4, 0), (5, 0), (6, 0), (7, 0), (8, 0), (9, 0), (10, 0), (11, 0), (12, 0), (13, 0), (14, 0), (15, 0), (16, 0), (17, 0), (18, 0), (19, 0), (19, 1), (20, 0), (20, 1), (21, 0), (22, 0), (22, 1), (22, 2), (22, 3), (22, 4), (22, 5), (22, 6), (22, 7), (22, 8), (23, 0), (23, 1), (23, 2), (23, 3), (23, 4), (23, 5), (23, 6), (23, 7), (23, 8), (24, 0), (24, 1), (24, 2), (24, 3), (24, 4), (24, 5), (24, 6), (24, 7), (24, 8), (25, 0), (25, 1), (25, 2), (25, 3), (25, 4), (25, 5), (25, 6), (25, 7), (25, 8), (26, 0), (26, 1), (26, 2), (26, 3), (26, 4), (26, 5), (26, 6), (26, 7), (26, 8), (27, 0), (27, 1), (27, 2), (27, 3), (27, 4), (27, 5), (27, 6), (27, 7), (27, 8), (28, 0), (28, 1), (28, 2), (28, 3), (28, 4), (28, 5), (28, 6), (28, 7), (28, 8), (29, 0), (29, 1), (29, 2), (29, 3), (29, 4), (29, 5), (29, 6), (29, 7), (29, 8), (30, 0), (30, 1), (30, 2), (30, 3), (30, 4), (30, 5), (30, 6), (30, 7), (30, 8), (31, 0), (31, 1), (31, 2), (31, 3), (31, 4), (31, 5), (31, 6), (31, 7), (31, 8), (32, 0), (32, 1), (32, 2), (32, 3), (32, 4), (32, 5), (32, 6), (32, 7), (32, 8), (33, 0), (33, 1), (33, 2), (33, 3), (33, 4), (33, 5), (33, 6), (33, 7), (33, 8), (34, 0), (34, 1), (34, 2), (34, 3), (34, 4), (34, 5), (34, 6), (34, 7), (34, 8), (35, 0), (35, 1), (35, 2), (35, 3), (35, 4), (35, 5), (35, 6), (35, 7), (35, 8), (36, 0), (36, 1), (36, 2), (36, 3), (36, 4), (36, 5), (36, 6), (36, 7), (36, 8), (37, 0), (37, 1), (37, 2), (37, 3), (37, 4), (38, 0), (38, 1), (38, 2), (38, 3), (38, 4), (39, 0), (39, 1), (39, 2), (39, 3), (39, 4), (40, 0), (40, 1), (40, 2), (40, 3), (40, 4), (41, 0), (41, 1), (41, 2), (41, 3), (41, 4), (42, 0), (42, 1), (42, 2), (42, 3), (42, 4), (43, 0), (43, 1), (43, 2), (43, 3), (43, 4), (44, 0), (44, 1), (44, 2), (44, 3), (45, 0), (45, 1), (45, 2), (45, 3), (46, 0), (47, 0), (48, 0), (49, 0), (50, 0), (51, 0), (52, 0), (53, 0), (54, 0), (55, 0), (56, 0), (57, 0), (58, 0), (59, 0), (60, 0), (61, 0), (62, 0), (63, 0), (64, 0), (65, 0), (66, 0)]
theorem clA_at : ∀ c, c < 13 → clA[c]? = some (RN c, TT c, (fkl c).length)
  | 0, _ => rfl
  | 1, _ => rfl
  | 2, _ => rfl
  | 3, _ => rfl
  | 4, _ => rfl
  | 5, _ => rfl
  | 6, _ => rfl
  | 7, _ => rfl
  | 8, _ => rfl
  | 9, _ => rfl
  | 10, _ => rfl
  | 11, _ => rfl
  | 12, _ => rfl
  | n + 13, h => absurd h (by omega)
theorem iX0 : ∀ w ∈ wsX00, w ∈ lw_tbl := by decide +kernel
theorem iX1 : ∀ w ∈ wsX10, w ∈ lw_tbl := by decide +kernel
theorem iX2 : ∀ w ∈ wsX20, w ∈ lw_tbl := by decide +kernel
theorem iX3 : ∀ w ∈ wsX30, w ∈ lw_tbl := by decide +kernel
theorem iX4 : ∀ w ∈ wsX40, w ∈ lw_tbl := by decide +kernel
theorem iX5 : ∀ w ∈ wsX50, w ∈ lw_tbl := by decide +kernel
theorem iX6 : ∀ w ∈ wsX60, w ∈ lw_tbl := by decide +kernel
theorem iX7 : ∀ w ∈ wsX70, w ∈ lw_tbl := by decide +kernel
theorem iX8 : ∀ w ∈ wsX80, w ∈ lw_tbl := by decide +kernel
theorem iX9 : ∀ w ∈ wsX90, w ∈ lw_tbl := by decide +kernel
theorem iX10 : ∀ w ∈ wsX100, w ∈ lw_tbl := by decide +kernel
theorem iX11 : ∀ w ∈ wsX110, w ∈ lw_tbl := by decide +kernel
theorem iX12 : ∀ w ∈ wsX120, w ∈ lw_tbl := by decide +kernel
theorem iTT : ∀ c, c < 13 → ∀ w ∈ u_ws (RN c) (TT c) (fkl c).length, w ∈ lw_tbl
  | 0, _ => iX0
  | 1, _ => iX1
  | 2, _ => iX2
  | 3, _ => iX3
  | 4, _ => iX4
  | 5, _ => iX5
  | 6, _ => iX6
  | 7, _ => iX7
  | 8, _ => iX8
  | 9, _ => iX9
  | 10, _ => iX10
  | 11, _ => iX11
  | 12, _ => iX12
  | n + 13, h => absurd h (by omega)
theorem nTT : ∀ c, c < 13 → ∀ a, a < (fkl c).length → ∀ b, b < (fkl c).length → a ≠ b → (TT c a).2.1 ≠ (TT c b).2.1
  | 0, _ => nmX0
  | 1, _ => nmX1
  | 2, _ => nmX2
  | 3, _ => nmX3
  | 4, _ => nmX4
  | 5, _ => nmX5
  | 6, _ => nmX6
  | 7, _ => nmX7
  | 8, _ => nmX8
  | 9, _ => nmX9
  | 10, _ => nmX10
  | 11, _ => nmX11
  | 12, _ => nmX12
  | n + 13, h => absurd h (by omega)
theorem yTT : ∀ c, c < 13 → ∀ k, k < (fkl c).length → parseFieldDescriptor (TT c k).2.2.1 = some (tyTT c k)
  | 0, _ => tyX0_ok
  | 1, _ => tyX1_ok
  | 2, _ => tyX2_ok
  | 3, _ => tyX3_ok
  | 4, _ => tyX4_ok
  | 5, _ => tyX5_ok
  | 6, _ => tyX6_ok
  | 7, _ => tyX7_ok
  | 8, _ => tyX8_ok
  | 9, _ => tyX9_ok
  | 10, _ => tyX10_ok
  | 11, _ => tyX11_ok
  | 12, _ => tyX12_ok
  | n + 13, h => absurd h (by omega)
theorem VL_at : ∀ t, t < 67 → ∀ i, i < cn t → VL[ps t + i]? = some (t, i) := by decide +kernel
theorem VL_inv : ∀ k, k < VL.length → (VL.getD k (0, 0)).1 < 67 ∧ (VL.getD k (0, 0)).2 < cn (VL.getD k (0, 0)).1 ∧ k = ps (VL.getD k (0, 0)).1 + (VL.getD k (0, 0)).2 := by decide +kernel
end
section
/-! the abstract machine: values, memory, what an instruction does; no state of the JVM in here -/
/-- an int, a long, or a cell: its kind (tag) and which one of that kind -/
abbrev AV : Type := Int32 ⊕ (Int64 ⊕ (Nat × Nat))
/-- ints, longs, and which one a reference that changes names: by tag, instance, slot -/
abbrev AM : Type := (Nat → Nat → Nat → Int32) × (Nat → Nat → Nat → Int64) × (Nat → Nat → Nat → Nat)
abbrev Item : Type := Instr × Nat × List Nat
abbrev unset : AV := .inr (.inr (0, 0))
def wI (σ : AM) (t i j : Nat) (x : Int32) : AM := (fun t' i' j' => if t' = t ∧ i' = i ∧ j' = j then x else σ.1 t' i' j', σ.2.1, σ.2.2)
def wL (σ : AM) (t i j : Nat) (x : Int64) : AM := (σ.1, fun t' i' j' => if t' = t ∧ i' = i ∧ j' = j then x else σ.2.1 t' i' j', σ.2.2)
def wR (σ : AM) (t i j : Nat) (x : Nat) : AM := (σ.1, σ.2.1, fun t' i' j' => if t' = t ∧ i' = i ∧ j' = j then x else σ.2.2 t' i' j')
def cpI (σ : AM) (t0 i0 t1 i1 sp dp n : Nat) : AM := (fun t i j => if t = t1 ∧ i = i1 ∧ dp ≤ j ∧ j < dp + n then σ.1 t0 i0 (sp + (j - dp)) else σ.1 t i j, σ.2.1, σ.2.2)
def cpL (σ : AM) (t0 i0 t1 i1 sp dp n : Nat) : AM := (σ.1, fun t i j => if t = t1 ∧ i = i1 ∧ dp ≤ j ∧ j < dp + n then σ.2.1 t0 i0 (sp + (j - dp)) else σ.2.1 t i j, σ.2.2)
def lvG : List AV → Nat → AV
  | [], _ => unset
  | v :: _, 0 => v
  | _ :: r, n + 1 => lvG r n
def isL : AV → Bool
  | .inr (.inl _) => true
  | _ => false
/-- a store of one slot -/
def lvS : List AV → Nat → AV → List AV
  | [], _, _ => []
  | _ :: r, 0, v => v :: r
  | x :: r, n + 1, v => (bif Nat.beq n 0 then (bif isL x then unset else x) else x) :: lvS r n v
/-- a store of two slots -/
def lvS2 (l : List AV) (n : Nat) (v : AV) : List AV := lvS (lvS l (n + 1) unset) n v
def ent : Nat → List AV → List AV
  | 0, _ => []
  | n + 1, [] => unset :: ent n []
  | n + 1, .inl x :: r => .inl x :: ent n r
  | n + 1, .inr (.inr q) :: r => .inr (.inr q) :: ent n r
  | 1, .inr (.inl x) :: _ => [.inr (.inl x)]
  | n + 2, .inr (.inl x) :: r => .inr (.inl x) :: unset :: ent n r
def popA : Nat → List AV → List AV → Option (List AV × List AV)
  | 0, acc, st => some (acc, st)
  | _ + 1, _, [] => none
  | n + 1, acc, v :: st => popA n (v :: acc) st
def recvOk : Nat → List AV → Bool
  | 0, _ => true
  | t + 1, .inr (.inr (u, _)) :: _ => Nat.beq u (t + 1)
  | _ + 1, _ => false
def argW : List AV → Nat
  | [] => 0
  | v :: r => (bif isL v then 2 else 1) + argW r
def swT (J : Nat → List AV → List AV → AM → Prop) (x : Int32) (lv s : List AV) (σ : AM) : Int → List Nat → Prop
  | _, [] => True
  | k, t :: r => (x.toInt = k → J t lv s σ) ∧ swT J x lv s σ (k + 1) r
def swL (J : Nat → List AV → List AV → AM → Prop) (x : Int32) (lv s : List AV) (σ : AM) (d : Nat) : List (Int × Int) → List Nat → Prop
  | (k, _) :: ps, t :: r => (x.toInt = k → J t lv s σ) ∧ (¬ x.toInt = k → swL J x lv s σ d ps r)
  | _, _ => J d lv s σ
def cmpI (c : Jvm.ClassFile.Cond) (x y : Int32) (A B : Prop) : Prop := match c with
  | .eq => (x = y → A) ∧ (¬ x = y → B)
  | .ne => (¬ x = y → A) ∧ (x = y → B)
  | .lt => (x < y → A) ∧ (¬ x < y → B)
  | .ge => (y ≤ x → A) ∧ (¬ y ≤ x → B)
  | .gt => (y < x → A) ∧ (¬ y < x → B)
  | .le => (x ≤ y → A) ∧ (¬ x ≤ y → B)
/-- what an instruction asks for and does, with what comes behind it as 'kont' -/
def ex (CALL : Nat → List AV → AM → (AV → AM → Prop) → Prop) (K : AV → AM → Prop) (J : Nat → List AV → List AV → AM → Prop) (it : Item) (lv st : List AV) (σ : AM) (kont : List AV → List AV → AM → Prop) : Prop :=
  match it with
  | (ins, a, info) => match ins with
    | .nop => J a lv st σ
    | .goto _ => J a lv st σ
    | .aload_n n => match lvG lv n.val with
      | .inr (.inr q) => match q with | (t, i) => kont lv (.inr (.inr (t, i)) :: st) σ
      | _ => False
    | .aload n => match lvG lv n with
      | .inr (.inr q) => match q with | (t, i) => kont lv (.inr (.inr (t, i)) :: st) σ
      | _ => False
    | .iload_n n => match lvG lv n.val with
      | .inl x => kont lv (.inl x :: st) σ
      | _ => False
    | .iload n => match lvG lv n with
      | .inl x => kont lv (.inl x :: st) σ
      | _ => False
    | .lload_n n => match lvG lv n.val with
      | .inr (.inl x) => kont lv (.inr (.inl x) :: st) σ
      | _ => False
    | .lload n => match lvG lv n with
      | .inr (.inl x) => kont lv (.inr (.inl x) :: st) σ
      | _ => False
    | .istore_n n => match st with
      | .inl x :: s => kont (lvS lv n.val (.inl x)) s σ
      | _ => False
    | .istore n => match st with
      | .inl x :: s => kont (lvS lv n (.inl x)) s σ
      | _ => False
    | .astore_n n => match st with
      | .inr (.inr (t, i)) :: s => kont (lvS lv n.val (.inr (.inr (t, i)))) s σ
      | _ => False
    | .astore n => match st with
      | .inr (.inr (t, i)) :: s => kont (lvS lv n (.inr (.inr (t, i)))) s σ
      | _ => False
    | .lstore_n n => match st with
      | .inr (.inl x) :: s => kont (lvS2 lv n.val (.inr (.inl x))) s σ
      | _ => False
    | .lstore n => match st with
      | .inr (.inl x) :: s => kont (lvS2 lv n (.inr (.inl x))) s σ
      | _ => False
    | .iinc n k => match lvG lv n with
      | .inl x => kont (lvS lv n (.inl (x + Int32.ofInt k))) st σ
      | _ => False
    | .iconst n => kont lv (.inl (Int32.ofInt n) :: st) σ
    | .bipush n => kont lv (.inl (Int32.ofInt n) :: st) σ
    | .sipush n => kont lv (.inl (Int32.ofInt n) :: st) σ
    | .lconst n => kont lv (.inr (.inl (Int64.ofInt (n.val : Int))) :: st) σ
    | .ldc _ => match info with
      | [] => kont lv (.inl (Int32.ofInt (a : Int)) :: st) σ
      | t :: _ => kont lv (.inr (.inr (t, a)) :: st) σ
    | .ldc_w _ => kont lv (.inl (Int32.ofInt (a : Int)) :: st) σ
    | .ldc2_w _ => match info with
      | [] => kont lv (.inr (.inl (Int64.ofInt (a : Int))) :: st) σ
      | _ :: _ => kont lv (.inr (.inl (Int64.ofInt (-(a : Int)))) :: st) σ
    | .getfield _ => match st, info with
      | .inr (.inr (t, i)) :: s, t0 :: k :: kd :: tg :: d :: _ => bif Nat.beq t t0 then (match kd with
        | 0 => kont lv (.inl (σ.1 t i k) :: s) σ
        | 1 => kont lv (.inr (.inl (σ.2.1 t i k)) :: s) σ
        | 2 => kont lv (.inr (.inr (tg, i)) :: s) σ
        | 3 => σ.2.2 t i k < d ∧ kont lv (.inr (.inr (tg, σ.2.2 t i k)) :: s) σ
        | 4 => kont lv (.inr (.inr (tg, d)) :: s) σ
        | 5 => kont lv (.inl (σ.1 t i k) :: s) σ
        | _ => False) else False
      | _, _ => False
    | .putfield _ => match st, info with
      | v :: .inr (.inr (t, i)) :: s, t0 :: k :: kd :: tg :: _ => bif Nat.beq t t0 then (match kd, v with
        | 0, .inl x => kont lv s (wI σ t i k x)
        | 1, .inr (.inl x) => kont lv s (wL σ t i k x)
        | 3, .inr (.inr (u, x)) => bif Nat.beq u tg then kont lv s (wR σ t i k x) else False
        | 5, .inl x => (x = 0 ∨ x = 1) ∧ kont lv s (wI σ t i k x)
        | _, _ => False) else False
      | _, _ => False
    | .iaload => match st with
      | .inl j :: .inr (.inr (t, i)) :: s => match sh t with
        | (kd, n) => bif Nat.beq kd 1 then vp_in j n ∧ kont lv (.inl (σ.1 t i j.toNatClampNeg) :: s) σ else False
      | _ => False
    | .baload => match st with
      | .inl j :: .inr (.inr (t, i)) :: s => match sh t with
        | (kd, n) => bif Nat.beq kd 3 then vp_in j n ∧ kont lv (.inl (σ.1 t i j.toNatClampNeg) :: s) σ else (bif Nat.beq kd 4 then vp_in j n ∧ kont lv (.inl (σ.1 t i j.toNatClampNeg) :: s) σ else False)
      | _ => False
    | .laload => match st with
      | .inl j :: .inr (.inr (t, i)) :: s => match sh t with
        | (kd, n) => bif Nat.beq kd 2 then vp_in j n ∧ kont lv (.inr (.inl (σ.2.1 t i j.toNatClampNeg)) :: s) σ else False
      | _ => False
    | .aaload => match st with
      | .inl j :: .inr (.inr (t, i)) :: s => match sh t with
        | (kd, n) => bif Nat.beq kd 5 then (match elt t with | (u, d) => vp_in j n ∧ kont lv (.inr (.inr (u, d + j.toNatClampNeg)) :: s) σ) else False
      | _ => False
    | .arraylength => match st with
      | .inr (.inr (t, _)) :: s => match sh t with
        | (kd, n) => bif Nat.ble kd 0 then False else kont lv (.inl (Int32.ofInt (n : Int)) :: s) σ
      | _ => False
    | .iastore => match st with
      | .inl x :: .inl j :: .inr (.inr (t, i)) :: s => match sh t with
        | (kd, n) => bif Nat.beq kd 1 then vp_in j n ∧ kont lv s (wI σ t i j.toNatClampNeg x) else False
      | _ => False
    | .bastore => match st with
      | .inl x :: .inl j :: .inr (.inr (t, i)) :: s => match sh t with
        | (kd, n) => bif Nat.beq kd 3 then vp_in j n ∧ kont lv s (wI σ t i j.toNatClampNeg x.toInt8.toInt32) else (bif Nat.beq kd 4 then vp_in j n ∧ (x = 0 ∨ x = 1) ∧ kont lv s (wI σ t i j.toNatClampNeg x) else False)
      | _ => False
    | .lastore => match st with
      | .inr (.inl x) :: .inl j :: .inr (.inr (t, i)) :: s => match sh t with
        | (kd, n) => bif Nat.beq kd 2 then vp_in j n ∧ kont lv s (wL σ t i j.toNatClampNeg x) else False
      | _ => False
    | .iadd => match st with
      | .inl y :: .inl x :: s => kont lv (.inl (x + y) :: s) σ
      | _ => False
    | .isub => match st with
      | .inl y :: .inl x :: s => kont lv (.inl (x - y) :: s) σ
      | _ => False
    | .imul => match st with
      | .inl y :: .inl x :: s => kont lv (.inl (x * y) :: s) σ
      | _ => False
    | .idiv => match st with
      | .inl y :: .inl x :: s => ¬ y = 0 ∧ kont lv (.inl (x / y) :: s) σ
      | _ => False
    | .irem => match st with
      | .inl y :: .inl x :: s => ¬ y = 0 ∧ kont lv (.inl (x % y) :: s) σ
      | _ => False
    | .ineg => match st with
      | .inl x :: s => kont lv (.inl (-x) :: s) σ
      | _ => False
    | .iand => match st with
      | .inl y :: .inl x :: s => kont lv (.inl (x &&& y) :: s) σ
      | _ => False
    | .ior => match st with
      | .inl y :: .inl x :: s => kont lv (.inl (x ||| y) :: s) σ
      | _ => False
    | .ixor => match st with
      | .inl y :: .inl x :: s => kont lv (.inl (x ^^^ y) :: s) σ
      | _ => False
    | .ishl => match st with
      | .inl y :: .inl x :: s => kont lv (.inl (x <<< (y &&& 31)) :: s) σ
      | _ => False
    | .ishr => match st with
      | .inl y :: .inl x :: s => kont lv (.inl (x >>> (y &&& 31)) :: s) σ
      | _ => False
    | .iushr => match st with
      | .inl y :: .inl x :: s => kont lv (.inl (x.toUInt32 >>> (y.toUInt32 &&& Int32.toUInt32 31)).toInt32 :: s) σ
      | _ => False
    | .ladd => match st with
      | .inr (.inl y) :: .inr (.inl x) :: s => kont lv (.inr (.inl (x + y)) :: s) σ
      | _ => False
    | .lsub => match st with
      | .inr (.inl y) :: .inr (.inl x) :: s => kont lv (.inr (.inl (x - y)) :: s) σ
      | _ => False
    | .lmul => match st with
      | .inr (.inl y) :: .inr (.inl x) :: s => kont lv (.inr (.inl (x * y)) :: s) σ
      | _ => False
    | .ldiv => match st with
      | .inr (.inl y) :: .inr (.inl x) :: s => ¬ y = 0 ∧ kont lv (.inr (.inl (x / y)) :: s) σ
      | _ => False
    | .lrem => match st with
      | .inr (.inl y) :: .inr (.inl x) :: s => ¬ y = 0 ∧ kont lv (.inr (.inl (x % y)) :: s) σ
      | _ => False
    | .land => match st with
      | .inr (.inl y) :: .inr (.inl x) :: s => kont lv (.inr (.inl (x &&& y)) :: s) σ
      | _ => False
    | .lor => match st with
      | .inr (.inl y) :: .inr (.inl x) :: s => kont lv (.inr (.inl (x ||| y)) :: s) σ
      | _ => False
    | .lshl => match st with
      | .inl y :: .inr (.inl x) :: s => kont lv (.inr (.inl (x <<< (y.toInt64 &&& 63))) :: s) σ
      | _ => False
    | .lcmp => match st with
      | .inr (.inl y) :: .inr (.inl x) :: s => kont lv (.inl (lg_cmp x y) :: s) σ
      | _ => False
    | .i2l => match st with
      | .inl x :: s => kont lv (.inr (.inl x.toInt64) :: s) σ
      | _ => False
    | .l2i => match st with
      | .inr (.inl x) :: s => kont lv (.inl x.toInt32 :: s) σ
      | _ => False
    | .i2b => match st with
      | .inl x :: s => kont lv (.inl x.toInt8.toInt32 :: s) σ
      | _ => False
    | .i2s => match st with
      | .inl x :: s => kont lv (.inl x.toInt16.toInt32 :: s) σ
      | _ => False
    | .dup => match st with
      | .inl x :: s => kont lv (.inl x :: .inl x :: s) σ
      | .inr (.inr (t, i)) :: s => kont lv (.inr (.inr (t, i)) :: .inr (.inr (t, i)) :: s) σ
      | _ => False
    | .dup2 => match st with
      | .inl x :: .inr (.inr (t, i)) :: s => kont lv (.inl x :: .inr (.inr (t, i)) :: .inl x :: .inr (.inr (t, i)) :: s) σ
      | _ => False
    | .pop => match st with
      | .inl _ :: s => kont lv s σ
      | .inr (.inr _) :: s => kont lv s σ
      | _ => False
    | .ifCond c _ => match st with
      | .inl x :: s => cmpI c x 0 (J a lv s σ) (kont lv s σ)
      | _ => False
    | .if_icmp c _ => match st with
      | .inl y :: .inl x :: s => cmpI c x y (J a lv s σ) (kont lv s σ)
      | _ => False
    | .tableswitch _ lo hi _ => match st with
      | .inl x :: s => swT J x lv s σ lo info ∧ (x.toInt < lo ∨ hi < x.toInt → J a lv s σ)
      | _ => False
    | .lookupswitch _ ps => match st with
      | .inl x :: s => swL J x lv s σ a ps.toList info
      | _ => False
    | .ireturn => match st with
      | .inl x :: [] => bif Nat.beq a 1 then (x = 0 ∨ x = 1) ∧ K (.inl x) σ else K (.inl x) σ
      | _ => False
    | .lreturn => match st with
      | .inr (.inl x) :: [] => K (.inr (.inl x)) σ
      | _ => False
    | .areturn => match st with
      | .inr (.inr (t, i)) :: [] => K (.inr (.inr (t, i))) σ
      | _ => False
    | .return_ => match st with
      | [] => K unset σ
      | _ => False
    | .invokevirtual _ => match info with
      | [1001] => match st with
        | .inr (.inr (t, i)) :: s => bif Nat.beq t 67 && Nat.ble s.length 4 then kont lv (.inl (Int32.ofInt (slen i : Int)) :: s) σ else False
        | _ => False
      | [1002] => match st with
        | .inl j :: .inr (.inr (t, i)) :: s => bif Nat.beq t 67 && Nat.ble s.length 4 then vp_in j (slen i) ∧ kont lv (.inl (schr i j.toNatClampNeg) :: s) σ else False
        | _ => False
      | n :: rk :: tr :: w :: _ => match popA n [] st with
        | some (args, s) => bif recvOk tr args && (Nat.ble (argW args) w && Nat.ble s.length 4) then CALL a args σ (fun v σ' => kont lv (bif Nat.beq rk 0 then s else v :: s) σ') else False
        | none => False
      | _ => False
    | .invokestatic _ => match info with
      | [1000] => match st with
        | .inl n :: .inl dp :: .inr (.inr (t1, i1)) :: .inl sp :: .inr (.inr (t0, i0)) :: s => match sh t0, sh t1 with
          | (k0, n0), (k1, n1) => bif Nat.beq k0 k1 && Nat.ble s.length 4 then (bif Nat.beq k0 1 then (¬ sp < 0 ∧ ¬ dp < 0 ∧ ¬ n < 0 ∧ sp.toNatClampNeg + n.toNatClampNeg ≤ n0 ∧ dp.toNatClampNeg + n.toNatClampNeg ≤ n1) ∧ kont lv s (cpI σ t0 i0 t1 i1 sp.toNatClampNeg dp.toNatClampNeg n.toNatClampNeg)
            else (bif Nat.beq k0 2 then (¬ sp < 0 ∧ ¬ dp < 0 ∧ ¬ n < 0 ∧ sp.toNatClampNeg + n.toNatClampNeg ≤ n0 ∧ dp.toNatClampNeg + n.toNatClampNeg ≤ n1) ∧ kont lv s (cpL σ t0 i0 t1 i1 sp.toNatClampNeg dp.toNatClampNeg n.toNatClampNeg) else False)) else False
        | _ => False
      | n :: rk :: _ :: w :: _ => match popA n [] st with
        | some (args, s) => bif Nat.ble (argW args) w && Nat.ble s.length 4 then CALL a args σ (fun v σ' => kont lv (bif Nat.beq rk 0 then s else v :: s) σ') else False
        | none => False
      | _ => False
    | _ => False
def wpb (CALL : Nat → List AV → AM → (AV → AM → Prop) → Prop) (K : AV → AM → Prop) (J : Nat → List AV → List AV → AM → Prop) : List Item → List AV → List AV → AM → Prop
  | [], _, _, _ => False
  | it :: r, lv, st, σ => ex CALL K J it lv st σ (fun lv st σ => wpb CALL K J r lv st σ)
end
section
abbrev n_Ahead_in : Nat := 1
def b_Ahead_in : Nat → List Item
  | 0 => [(.aload_n 0, 0, []), (.getfield 11, 0, [11, 0, 2, 12, 0]), (.iconst 0, 0, []), (.aaload, 0, []), (.aload_n 1, 0, []), (.invokevirtual 28, 24, [2, 0, 22, 2]), (.aload_n 0, 0, []), (.getfield 11, 0, [11, 0, 2, 12, 0]), (.iconst 0, 0, []), (.aaload, 0, []), (.iload_n 2, 0, []), (.invokevirtual 32, 34, [2, 1, 22, 4]), (.pop, 0, []), (.aload_n 0, 0, []), (.getfield 11, 0, [11, 0, 2, 12, 0]), (.iconst 0, 0, []), (.aaload, 0, []), (.areturn, 0, [])]
  | _ => []
abbrev n_Ahead_firstPause : Nat := 2
def b_Ahead_firstPause : Nat → List Item
  | 0 => [(.aload_n 0, 0, []), (.aload_n 1, 0, []), (.iconst 0, 0, []), (.invokevirtual 36, 1, [3, 1, 11, 3]), (.iload_n 2, 0, []), (.invokestatic 40, 3, [2, 1, 0, 3]), (.ireturn, 0, [])]
  | _ => []
abbrev n_Ahead_firstPauseOf : Nat := 3
def b_Ahead_firstPauseOf : Nat → List Item
  | 0 => [(.iconst 0, 0, []), (.istore_n 2, 0, []), (.nop, 2, [])]
  | 2 => [(.iload_n 2, 0, []), (.iload_n 1, 0, []), (.if_icmp .ge 18, 22, []), (.aload_n 0, 0, []), (.invokevirtual 44, 35, [1, 1, 22, 2]), (.ifCond .ne 5, 16, []), (.iload_n 2, 0, []), (.ireturn, 0, [])]
  | 16 => [(.iinc 2 1, 0, []), (.goto (-17), 2, [])]
  | 22 => [(.iconst (-1), 0, []), (.ireturn, 0, [])]
  | _ => []
abbrev n_Ahead_suffices : Nat := 4
def b_Ahead_suffices : Nat → List Item
  | 0 => [(.aload_n 0, 0, []), (.getfield 11, 0, [11, 0, 2, 12, 0]), (.iconst 0, 0, []), (.aaload, 0, []), (.astore 4, 0, []), (.aload 4, 0, []), (.aload_n 1, 0, []), (.invokevirtual 28, 24, [2, 0, 22, 2]), (.aload 4, 0, []), (.getfield 48, 3, [22, 1, 2, 27, 0]), (.iload_n 2, 0, []), (.putfield 52, 6, [27, 7, 0, 0, 0]), (.aload 4, 0, []), (.iload_n 3, 0, []), (.invokestatic 40, 3, [2, 1, 0, 3]), (.iconst (-1), 0, []), (.if_icmp .ne 7, 37, []), (.iconst 1, 0, []), (.goto 4, 38, [])]
  | 37 => [(.iconst 0, 0, []), (.nop, 38, [])]
  | 38 => [(.ireturn, 1, [])]
  | _ => []
abbrev n_Ahead_smallest : Nat := 5
def b_Ahead_smallest : Nat → List Item
  | 0 => [(.iconst 1, 0, []), (.aload_n 1, 0, []), (.getfield 48, 3, [22, 1, 2, 27, 0]), (.getfield 58, 6, [27, 8, 0, 0, 0]), (.ishl, 0, []), (.istore_n 3, 0, []), (.iconst 0, 0, []), (.istore 4, 0, []), (.nop, 13, [])]
  | 13 => [(.iload 4, 0, []), (.aload_n 1, 0, []), (.getfield 48, 3, [22, 1, 2, 27, 0]), (.getfield 58, 6, [27, 8, 0, 0, 0]), (.if_icmp .gt 48, 70, []), (.iconst 0, 0, []), (.istore 5, 0, []), (.nop, 28, [])]
  | 28 => [(.iload 5, 0, []), (.iload_n 3, 0, []), (.if_icmp .ge 33, 64, []), (.iload 5, 0, []), (.invokestatic 61, 332, [1, 1, 0, 1]), (.iload 4, 0, []), (.if_icmp .ne 17, 58, []), (.aload_n 0, 0, []), (.aload_n 1, 0, []), (.iload 5, 0, []), (.iload_n 2, 0, []), (.invokevirtual 66, 4, [4, 1, 11, 5]), (.ifCond .eq 6, 58, []), (.iload 5, 0, []), (.ireturn, 0, [])]
  | 58 => [(.iinc 5 1, 0, []), (.goto (-33), 28, [])]
  | 64 => [(.iinc 4 1, 0, []), (.goto (-54), 13, [])]
  | 70 => [(.iconst (-1), 0, []), (.ireturn, 0, [])]
  | _ => []
abbrev n_Ahead_easiest : Nat := 6
def b_Ahead_easiest : Nat → List Item
  | 0 => [(.aload_n 0, 0, []), (.getfield 11, 0, [11, 0, 2, 12, 0]), (.iconst 0, 0, []), (.aaload, 0, []), (.aload_n 1, 0, []), (.invokevirtual 28, 24, [2, 0, 22, 2]), (.aload_n 0, 0, []), (.iload_n 2, 0, []), (.putfield 70, 0, [11, 3, 0, 0, 0]), (.aload_n 0, 0, []), (.iconst (-1), 0, []), (.putfield 73, 0, [11, 4, 0, 0, 0]), (.aload_n 0, 0, []), (.iconst 0, 0, []), (.invokevirtual 76, 7, [2, 0, 11, 8]), (.aload_n 0, 0, []), (.getfield 73, 0, [11, 4, 0, 0, 0]), (.ireturn, 0, [])]
  | _ => []
abbrev n_Ahead_tryMinute : Nat := 7
def b_Ahead_tryMinute : Nat → List Item
  | 0 => [(.iload_n 1, 0, []), (.aload_n 0, 0, []), (.getfield 70, 0, [11, 3, 0, 0, 0]), (.if_icmp .ge 8, 13, []), (.iload_n 1, 0, []), (.iconst 3, 0, []), (.if_icmp .lt 4, 14, []), (.nop, 13, [])]
  | 13 => [(.return_, 0, [])]
  | 14 => [(.aload_n 0, 0, []), (.getfield 11, 0, [11, 0, 2, 12, 0]), (.iload_n 1, 0, []), (.aaload, 0, []), (.astore_n 2, 0, []), (.aload_n 2, 0, []), (.getfield 48, 3, [22, 1, 2, 27, 0]), (.iconst (-1), 0, []), (.aload_n 0, 0, []), (.getfield 70, 0, [11, 3, 0, 0, 0]), (.iload_n 1, 0, []), (.isub, 0, []), (.invokevirtual 80, 64, [3, 1, 27, 5]), (.aload_n 0, 0, []), (.getfield 73, 0, [11, 4, 0, 0, 0]), (.if_icmp .gt 4, 43, []), (.return_, 0, [])]
  | 43 => [(.iconst 0, 0, []), (.istore_n 3, 0, []), (.nop, 45, [])]
  | 45 => [(.iload_n 3, 0, []), (.aload_n 2, 0, []), (.getfield 48, 3, [22, 1, 2, 27, 0]), (.getfield 58, 6, [27, 8, 0, 0, 0]), (.if_icmp .ge 129, 182, []), (.aload_n 2, 0, []), (.iload_n 3, 0, []), (.invokevirtual 84, 30, [2, 1, 22, 2]), (.istore 4, 0, []), (.aload_n 2, 0, []), (.getfield 48, 3, [22, 1, 2, 27, 0]), (.iload_n 3, 0, []), (.iconst 1, 0, []), (.invokevirtual 80, 64, [3, 1, 27, 5]), (.istore 5, 0, []), (.iconst 0, 0, []), (.istore 6, 0, []), (.nop, 77, [])]
  | 77 => [(.iload 6, 0, []), (.bipush 6, 0, []), (.if_icmp .ge 95, 176, []), (.iload 4, 0, []), (.iload 6, 0, []), (.invokestatic 87, 173, [2, 1, 0, 2]), (.ifCond .ne 6, 97, []), (.goto 76, 170, [])]
  | 97 => [(.aload_n 0, 0, []), (.getfield 17, 0, [11, 1, 2, 13, 0]), (.iload_n 1, 0, []), (.iload_n 3, 0, []), (.iload 6, 0, []), (.invokestatic 91, 177, [2, 1, 0, 2]), (.iastore, 0, []), (.iload_n 1, 0, []), (.iconst 1, 0, []), (.iadd, 0, []), (.aload_n 0, 0, []), (.getfield 70, 0, [11, 3, 0, 0, 0]), (.if_icmp .ne 39, 155, []), (.aload_n 2, 0, []), (.getfield 48, 3, [22, 1, 2, 27, 0]), (.getfield 94, 6, [27, 1, 2, 29, 0]), (.iload_n 3, 0, []), (.iaload, 0, []), (.aload_n 2, 0, []), (.getfield 97, 3, [22, 0, 2, 23, 0]), (.getfield 101, 9, [23, 1, 2, 25, 0]), (.iload 6, 0, []), (.iaload, 0, []), (.isub, 0, []), (.istore 7, 0, []), (.aload_n 0, 0, []), (.iload 5, 0, []), (.iload 7, 0, []), (.invokestatic 106, 335, [2, 1, 0, 2]), (.invokevirtual 111, 8, [2, 0, 11, 2]), (.goto 18, 170, [])]
  | 155 => [(.aload_n 0, 0, []), (.iload_n 1, 0, []), (.iload_n 3, 0, []), (.iload 6, 0, []), (.invokevirtual 114, 9, [4, 0, 11, 4]), (.aload_n 0, 0, []), (.iload_n 1, 0, []), (.iconst 1, 0, []), (.iadd, 0, []), (.invokevirtual 76, 7, [2, 0, 11, 8]), (.nop, 170, [])]
  | 170 => [(.iinc 6 1, 0, []), (.goto (-96), 77, [])]
  | 176 => [(.iinc 3 1, 0, []), (.goto (-134), 45, [])]
  | 182 => [(.return_, 0, [])]
  | _ => []
abbrev n_Ahead_weigh : Nat := 8
def b_Ahead_weigh : Nat → List Item
  | 0 => [(.iload_n 1, 0, []), (.aload_n 0, 0, []), (.getfield 73, 0, [11, 4, 0, 0, 0]), (.if_icmp .le 25, 30, []), (.aload_n 0, 0, []), (.iload_n 1, 0, []), (.putfield 73, 0, [11, 4, 0, 0, 0]), (.aload_n 0, 0, []), (.getfield 17, 0, [11, 1, 2, 13, 0]), (.iconst 0, 0, []), (.aload_n 0, 0, []), (.getfield 24, 0, [11, 6, 2, 15, 0]), (.iconst 0, 0, []), (.aload_n 0, 0, []), (.getfield 70, 0, [11, 3, 0, 0, 0]), (.invokestatic 118, 0, [1000]), (.nop, 30, [])]
  | 30 => [(.return_, 0, [])]
  | _ => []
abbrev n_Ahead_next : Nat := 9
def b_Ahead_next : Nat → List Item
  | 0 => [(.aload_n 0, 0, []), (.getfield 11, 0, [11, 0, 2, 12, 0]), (.iload_n 1, 0, []), (.iconst 1, 0, []), (.iadd, 0, []), (.aaload, 0, []), (.aload_n 0, 0, []), (.getfield 11, 0, [11, 0, 2, 12, 0]), (.iload_n 1, 0, []), (.aaload, 0, []), (.invokevirtual 28, 24, [2, 0, 22, 2]), (.aload_n 0, 0, []), (.getfield 11, 0, [11, 0, 2, 12, 0]), (.iload_n 1, 0, []), (.iconst 1, 0, []), (.iadd, 0, []), (.aaload, 0, []), (.iload_n 2, 0, []), (.iload_n 3, 0, []), (.invokevirtual 124, 36, [3, 0, 22, 4]), (.return_, 0, [])]
  | _ => []
abbrev n_Ahead_ways : Nat := 10
def b_Ahead_ways : Nat → List Item
  | 0 => [(.aload_n 0, 0, []), (.getfield 11, 0, [11, 0, 2, 12, 0]), (.iconst 0, 0, []), (.aaload, 0, []), (.aload_n 1, 0, []), (.invokevirtual 28, 24, [2, 0, 22, 2]), (.aload_n 0, 0, []), (.iload_n 3, 0, []), (.putfield 70, 0, [11, 3, 0, 0, 0]), (.aload_n 0, 0, []), (.iload 4, 0, []), (.putfield 128, 0, [11, 5, 0, 0, 0]), (.aload_n 0, 0, []), (.iconst 0, 0, []), (.putfield 131, 0, [11, 7, 0, 0, 0]), (.iconst 0, 0, []), (.istore 5, 0, []), (.nop, 29, [])]
  | 29 => [(.iload 5, 0, []), (.iload_n 3, 0, []), (.if_icmp .ge 24, 56, []), (.aload_n 0, 0, []), (.getfield 21, 0, [11, 2, 2, 14, 0]), (.iload 5, 0, []), (.aload_n 2, 0, []), (.getfield 134, 10, [44, 0, 2, 45, 0]), (.iload 5, 0, []), (.laload, 0, []), (.l2i, 0, []), (.iastore, 0, []), (.iinc 5 1, 0, []), (.goto (-24), 29, [])]
  | 56 => [(.aload_n 0, 0, []), (.iconst 0, 0, []), (.invokevirtual 140, 11, [2, 1, 11, 7]), (.ireturn, 0, [])]
  | _ => []
abbrev n_Ahead_waysFrom : Nat := 11
def b_Ahead_waysFrom : Nat → List Item
  | 0 => [(.iload_n 1, 0, []), (.aload_n 0, 0, []), (.getfield 70, 0, [11, 3, 0, 0, 0]), (.if_icmp .ge 8, 13, []), (.iload_n 1, 0, []), (.iconst 4, 0, []), (.if_icmp .lt 5, 15, []), (.nop, 13, [])]
  | 13 => [(.iconst 1, 0, []), (.ireturn, 0, [])]
  | 15 => [(.aload_n 0, 0, []), (.getfield 11, 0, [11, 0, 2, 12, 0]), (.iload_n 1, 0, []), (.aaload, 0, []), (.astore_n 2, 0, []), (.aload_n 0, 0, []), (.getfield 21, 0, [11, 2, 2, 14, 0]), (.iload_n 1, 0, []), (.iaload, 0, []), (.istore_n 3, 0, []), (.iconst 0, 0, []), (.istore 4, 0, []), (.iconst 0, 0, []), (.istore 5, 0, []), (.nop, 35, [])]
  | 35 => [(.iload 5, 0, []), (.aload_n 2, 0, []), (.getfield 48, 3, [22, 1, 2, 27, 0]), (.getfield 58, 6, [27, 8, 0, 0, 0]), (.if_icmp .ge 85, 129, []), (.aload_n 2, 0, []), (.iload 5, 0, []), (.iload_n 3, 0, []), (.invokevirtual 143, 29, [3, 1, 22, 3]), (.ifCond .ne 6, 60, []), (.goto 66, 123, [])]
  | 60 => [(.iconst 1, 0, []), (.istore 6, 0, []), (.iload_n 1, 0, []), (.iconst 1, 0, []), (.iadd, 0, []), (.aload_n 0, 0, []), (.getfield 70, 0, [11, 3, 0, 0, 0]), (.if_icmp .ge 20, 90, []), (.aload_n 0, 0, []), (.iload_n 1, 0, []), (.iload 5, 0, []), (.iload_n 3, 0, []), (.invokevirtual 114, 9, [4, 0, 11, 4]), (.aload_n 0, 0, []), (.iload_n 1, 0, []), (.iconst 1, 0, []), (.iadd, 0, []), (.invokevirtual 140, 11, [2, 1, 11, 7]), (.istore 6, 0, []), (.nop, 90, [])]
  | 90 => [(.iload 6, 0, []), (.ifCond .le 24, 116, []), (.iload_n 1, 0, []), (.aload_n 0, 0, []), (.getfield 128, 0, [11, 5, 0, 0, 0]), (.if_icmp .ne 16, 116, []), (.aload_n 0, 0, []), (.dup, 0, []), (.getfield 131, 0, [11, 7, 0, 0, 0]), (.iconst 1, 0, []), (.iload 5, 0, []), (.ishl, 0, []), (.ior, 0, []), (.putfield 131, 0, [11, 7, 0, 0, 0]), (.nop, 116, [])]
  | 116 => [(.iload 4, 0, []), (.iload 6, 0, []), (.iadd, 0, []), (.istore 4, 0, []), (.nop, 123, [])]
  | 123 => [(.iinc 5 1, 0, []), (.goto (-91), 35, [])]
  | 129 => [(.iload 4, 0, []), (.ireturn, 0, [])]
  | _ => []
abbrev n_Days_clear : Nat := 12
def b_Days_clear : Nat → List Item
  | 0 => [(.aload_n 0, 0, []), (.iconst 0, 0, []), (.putfield 30, 1, [37, 6, 0, 0, 0]), (.aload_n 0, 0, []), (.iconst 0, 0, []), (.putfield 34, 1, [37, 7, 0, 0, 0]), (.aload_n 0, 0, []), (.iconst 0, 0, []), (.putfield 37, 1, [37, 8, 5, 0, 0]), (.return_, 0, [])]
  | _ => []
abbrev n_Days_copy : Nat := 13
def b_Days_copy : Nat → List Item
  | 0 => [(.aload_n 1, 0, []), (.getfield 11, 1, [37, 0, 2, 38, 0]), (.iconst 0, 0, []), (.aload_n 0, 0, []), (.getfield 11, 1, [37, 0, 2, 38, 0]), (.iconst 0, 0, []), (.aload_n 1, 0, []), (.getfield 30, 1, [37, 6, 0, 0, 0]), (.invokestatic 41, 0, [1000]), (.aload_n 1, 0, []), (.getfield 15, 1, [37, 1, 2, 39, 0]), (.iconst 0, 0, []), (.aload_n 0, 0, []), (.getfield 15, 1, [37, 1, 2, 39, 0]), (.iconst 0, 0, []), (.aload_n 1, 0, []), (.getfield 30, 1, [37, 6, 0, 0, 0]), (.invokestatic 41, 0, [1000]), (.aload_n 1, 0, []), (.getfield 18, 1, [37, 2, 2, 40, 0]), (.iconst 0, 0, []), (.aload_n 0, 0, []), (.getfield 18, 1, [37, 2, 2, 40, 0]), (.iconst 0, 0, []), (.aload_n 1, 0, []), (.getfield 30, 1, [37, 6, 0, 0, 0]), (.invokestatic 41, 0, [1000]), (.aload_n 1, 0, []), (.getfield 21, 1, [37, 3, 2, 41, 0]), (.iconst 0, 0, []), (.aload_n 0, 0, []), (.getfield 21, 1, [37, 3, 2, 41, 0]), (.iconst 0, 0, []), (.aload_n 1, 0, []), (.getfield 30, 1, [37, 6, 0, 0, 0]), (.invokestatic 41, 0, [1000]), (.aload_n 1, 0, []), (.getfield 24, 1, [37, 4, 2, 42, 0]), (.iconst 0, 0, []), (.aload_n 0, 0, []), (.getfield 24, 1, [37, 4, 2, 42, 0]), (.iconst 0, 0, []), (.aload_n 1, 0, []), (.getfield 30, 1, [37, 6, 0, 0, 0]), (.invokestatic 41, 0, [1000]), (.aload_n 1, 0, []), (.getfield 27, 1, [37, 5, 2, 43, 0]), (.iconst 0, 0, []), (.aload_n 0, 0, []), (.getfield 27, 1, [37, 5, 2, 43, 0]), (.iconst 0, 0, []), (.aload_n 1, 0, []), (.getfield 30, 1, [37, 6, 0, 0, 0]), (.invokestatic 41, 0, [1000]), (.aload_n 0, 0, []), (.aload_n 1, 0, []), (.getfield 30, 1, [37, 6, 0, 0, 0]), (.putfield 30, 1, [37, 6, 0, 0, 0]), (.aload_n 0, 0, []), (.aload_n 1, 0, []), (.getfield 34, 1, [37, 7, 0, 0, 0]), (.putfield 34, 1, [37, 7, 0, 0, 0]), (.aload_n 0, 0, []), (.aload_n 1, 0, []), (.getfield 37, 1, [37, 8, 5, 0, 0]), (.putfield 37, 1, [37, 8, 5, 0, 0]), (.return_, 0, [])]
  | _ => []
abbrev n_Days_add : Nat := 14
def b_Days_add : Nat → List Item
  | 0 => [(.aload_n 0, 0, []), (.getfield 30, 1, [37, 6, 0, 0, 0]), (.bipush 60, 0, []), (.if_icmp .lt 5, 11, []), (.iconst (-1), 0, []), (.ireturn, 0, [])]
  | 11 => [(.aload_n 0, 0, []), (.getfield 11, 1, [37, 0, 2, 38, 0]), (.aload_n 0, 0, []), (.getfield 30, 1, [37, 6, 0, 0, 0]), (.iload_n 1, 0, []), (.iastore, 0, []), (.aload_n 0, 0, []), (.getfield 15, 1, [37, 1, 2, 39, 0]), (.aload_n 0, 0, []), (.getfield 30, 1, [37, 6, 0, 0, 0]), (.iconst (-1), 0, []), (.iastore, 0, []), (.aload_n 0, 0, []), (.getfield 18, 1, [37, 2, 2, 40, 0]), (.aload_n 0, 0, []), (.getfield 30, 1, [37, 6, 0, 0, 0]), (.iconst 0, 0, []), (.iastore, 0, []), (.aload_n 0, 0, []), (.getfield 21, 1, [37, 3, 2, 41, 0]), (.aload_n 0, 0, []), (.getfield 30, 1, [37, 6, 0, 0, 0]), (.iconst (-1), 0, []), (.iastore, 0, []), (.aload_n 0, 0, []), (.getfield 24, 1, [37, 4, 2, 42, 0]), (.aload_n 0, 0, []), (.getfield 30, 1, [37, 6, 0, 0, 0]), (.iconst (-1), 0, []), (.iastore, 0, []), (.aload_n 0, 0, []), (.getfield 27, 1, [37, 5, 2, 43, 0]), (.aload_n 0, 0, []), (.getfield 30, 1, [37, 6, 0, 0, 0]), (.iconst (-1), 0, []), (.iastore, 0, []), (.aload_n 0, 0, []), (.dup, 0, []), (.getfield 30, 1, [37, 6, 0, 0, 0]), (.iconst 1, 0, []), (.iadd, 0, []), (.putfield 30, 1, [37, 6, 0, 0, 0]), (.aload_n 0, 0, []), (.getfield 30, 1, [37, 6, 0, 0, 0]), (.iconst 1, 0, []), (.isub, 0, []), (.ireturn, 0, [])]
  | _ => []
abbrev n_DaysReader_takes : Nat := 15
def b_DaysReader_takes : Nat → List Item
  | 0 => [(.aload_n 0, 0, []), (.aload_n 1, 0, []), (.putfield 19, 2, [7, 3, 3, 37, 5]), (.aload_n 0, 0, []), (.aload_n 2, 0, []), (.putfield 23, 2, [7, 4, 3, 22, 9]), (.aload_n 0, 0, []), (.getfield 19, 2, [7, 3, 3, 37, 5]), (.invokevirtual 27, 12, [1, 0, 37, 1]), (.aload_n 0, 0, []), (.iconst 0, 0, []), (.putfield 32, 2, [7, 2, 0, 0, 0]), (.iconst 0, 0, []), (.istore_n 3, 0, []), (.nop, 24, [])]
  | 24 => [(.iload_n 3, 0, []), (.sipush 300, 0, []), (.if_icmp .gt 50, 78, []), (.aload_n 0, 0, []), (.getfield 15, 2, [7, 0, 2, 3, 0]), (.getfield 36, 8, [3, 5, 0, 0, 0]), (.ifCond .eq 40, 78, []), (.aload_n 0, 0, []), (.getfield 15, 2, [7, 0, 2, 3, 0]), (.getfield 41, 8, [3, 7, 0, 0, 0]), (.bipush 21, 0, []), (.if_icmp .ne 13, 63, []), (.aload_n 0, 0, []), (.invokevirtual 44, 16, [1, 1, 7, 3]), (.ifCond .eq 13, 70, []), (.goto 12, 72, [])]
  | 63 => [(.aload_n 0, 0, []), (.invokevirtual 48, 17, [1, 1, 7, 3]), (.ifCond .ne 5, 72, []), (.nop, 70, [])]
  | 70 => [(.iconst 0, 0, []), (.ireturn, 1, [])]
  | 72 => [(.iinc 3 1, 0, []), (.goto (-51), 24, [])]
  | 78 => [(.aload_n 0, 0, []), (.getfield 19, 2, [7, 3, 3, 37, 5]), (.aload_n 0, 0, []), (.getfield 32, 2, [7, 2, 0, 0, 0]), (.ifCond .ne 7, 93, []), (.iconst 1, 0, []), (.goto 4, 94, [])]
  | 93 => [(.iconst 0, 0, []), (.nop, 94, [])]
  | 94 => [(.putfield 51, 1, [37, 8, 5, 0, 0]), (.aload_n 0, 0, []), (.getfield 19, 2, [7, 3, 3, 37, 5]), (.getfield 51, 1, [37, 8, 5, 0, 0]), (.ifCond .ne 14, 118, []), (.aload_n 0, 0, []), (.getfield 15, 2, [7, 0, 2, 3, 0]), (.iconst 2, 0, []), (.invokevirtual 55, 79, [2, 1, 3, 2]), (.ifCond .eq 7, 122, []), (.nop, 118, [])]
  | 118 => [(.iconst 1, 0, []), (.goto 4, 123, [])]
  | 122 => [(.iconst 0, 0, []), (.nop, 123, [])]
  | 123 => [(.ireturn, 1, [])]
  | _ => []
abbrev n_DaysReader_takesEnd : Nat := 16
def b_DaysReader_takesEnd : Nat → List Item
  | 0 => [(.aload_n 0, 0, []), (.getfield 32, 2, [7, 2, 0, 0, 0]), (.ifCond .gt 12, 16, []), (.aload_n 0, 0, []), (.getfield 15, 2, [7, 0, 2, 3, 0]), (.iconst 2, 0, []), (.invokevirtual 55, 79, [2, 1, 3, 2]), (.ireturn, 1, [])]
  | 16 => [(.aload_n 0, 0, []), (.dup, 0, []), (.getfield 32, 2, [7, 2, 0, 0, 0]), (.iconst 1, 0, []), (.isub, 0, []), (.putfield 32, 2, [7, 2, 0, 0, 0]), (.aload_n 0, 0, []), (.getfield 19, 2, [7, 3, 3, 37, 5]), (.bipush 21, 0, []), (.invokevirtual 59, 14, [2, 1, 37, 2]), (.istore_n 1, 0, []), (.aload_n 0, 0, []), (.getfield 9, 2, [7, 1, 2, 8, 0]), (.aload_n 0, 0, []), (.getfield 32, 2, [7, 2, 0, 0, 0]), (.iaload, 0, []), (.istore_n 2, 0, []), (.iload_n 1, 0, []), (.iconst (-1), 0, []), (.if_icmp .eq 7, 55, []), (.iload_n 2, 0, []), (.ifCond .ge 12, 64, []), (.nop, 55, [])]
  | 55 => [(.aload_n 0, 0, []), (.getfield 15, 2, [7, 0, 2, 3, 0]), (.iconst 2, 0, []), (.invokevirtual 55, 79, [2, 1, 3, 2]), (.ireturn, 1, [])]
  | 64 => [(.aload_n 0, 0, []), (.getfield 19, 2, [7, 3, 3, 37, 5]), (.getfield 63, 1, [37, 5, 2, 43, 0]), (.iload_n 1, 0, []), (.iload_n 2, 0, []), (.iastore, 0, []), (.aload_n 0, 0, []), (.getfield 19, 2, [7, 3, 3, 37, 5]), (.getfield 63, 1, [37, 5, 2, 43, 0]), (.iload_n 2, 0, []), (.iload_n 1, 0, []), (.iastore, 0, []), (.aload_n 0, 0, []), (.getfield 15, 2, [7, 0, 2, 3, 0]), (.invokevirtual 66, 75, [1, 0, 3, 1]), (.aload_n 0, 0, []), (.getfield 15, 2, [7, 0, 2, 3, 0]), (.invokevirtual 69, 82, [1, 1, 3, 1]), (.ireturn, 1, [])]
  | _ => []
abbrev n_DaysReader_takesStep : Nat := 17
def b_DaysReader_takesStep : Nat → List Item
  | 0 => [(.aload_n 0, 0, []), (.getfield 15, 2, [7, 0, 2, 3, 0]), (.getfield 41, 8, [3, 7, 0, 0, 0]), (.istore_n 1, 0, []), (.aload_n 0, 0, []), (.iload_n 1, 0, []), (.invokevirtual 72, 18, [2, 1, 7, 5]), (.istore_n 2, 0, []), (.iload_n 2, 0, []), (.iconst (-1), 0, []), (.if_icmp .ne 5, 21, []), (.iconst 0, 0, []), (.ireturn, 1, [])]
  | 21 => [(.aload_n 0, 0, []), (.getfield 15, 2, [7, 0, 2, 3, 0]), (.invokevirtual 66, 75, [1, 0, 3, 1]), (.iload_n 1, 0, []), (.tableswitch 157 11 20 #[55, 109, 109, 109, 157, 133, 157, 157, 157, 82], 186, [84, 138, 138, 138, 186, 162, 186, 186, 186, 111])]
  | 84 => [(.aload_n 0, 0, []), (.iload_n 2, 0, []), (.iconst 1, 0, []), (.bipush 60, 0, []), (.invokevirtual 75, 22, [4, 1, 7, 4]), (.ifCond .eq 17, 109, []), (.aload_n 0, 0, []), (.getfield 15, 2, [7, 0, 2, 3, 0]), (.invokevirtual 69, 82, [1, 1, 3, 1]), (.ifCond .eq 7, 109, []), (.iconst 1, 0, []), (.goto 4, 110, [])]
  | 109 => [(.iconst 0, 0, []), (.nop, 110, [])]
  | 110 => [(.ireturn, 1, [])]
  | 111 => [(.aload_n 0, 0, []), (.iload_n 2, 0, []), (.iconst 1, 0, []), (.bipush 99, 0, []), (.invokevirtual 75, 22, [4, 1, 7, 4]), (.ifCond .eq 17, 136, []), (.aload_n 0, 0, []), (.getfield 15, 2, [7, 0, 2, 3, 0]), (.invokevirtual 69, 82, [1, 1, 3, 1]), (.ifCond .eq 7, 136, []), (.iconst 1, 0, []), (.goto 4, 137, [])]
  | 136 => [(.iconst 0, 0, []), (.nop, 137, [])]
  | 137 => [(.ireturn, 1, [])]
  | 138 => [(.aload_n 0, 0, []), (.iload_n 2, 0, []), (.invokevirtual 79, 21, [2, 1, 7, 2]), (.ifCond .eq 17, 160, []), (.aload_n 0, 0, []), (.getfield 15, 2, [7, 0, 2, 3, 0]), (.invokevirtual 69, 82, [1, 1, 3, 1]), (.ifCond .eq 7, 160, []), (.iconst 1, 0, []), (.goto 4, 161, [])]
  | 160 => [(.iconst 0, 0, []), (.nop, 161, [])]
  | 161 => [(.ireturn, 1, [])]
  | 162 => [(.aload_n 0, 0, []), (.iload_n 2, 0, []), (.invokevirtual 82, 20, [2, 1, 7, 3]), (.ifCond .eq 17, 184, []), (.aload_n 0, 0, []), (.getfield 15, 2, [7, 0, 2, 3, 0]), (.invokevirtual 69, 82, [1, 1, 3, 1]), (.ifCond .eq 7, 184, []), (.iconst 1, 0, []), (.goto 4, 185, [])]
  | 184 => [(.iconst 0, 0, []), (.nop, 185, [])]
  | 185 => [(.ireturn, 1, [])]
  | 186 => [(.aload_n 0, 0, []), (.getfield 15, 2, [7, 0, 2, 3, 0]), (.invokevirtual 69, 82, [1, 1, 3, 1]), (.ireturn, 1, [])]
  | _ => []
abbrev n_DaysReader_addStep : Nat := 18
def b_DaysReader_addStep : Nat → List Item
  | 0 => [(.iload_n 1, 0, []), (.bipush 16, 0, []), (.if_icmp .eq 9, 12, []), (.iload_n 1, 0, []), (.bipush 20, 0, []), (.if_icmp .ne 7, 16, []), (.nop, 12, [])]
  | 12 => [(.iconst 1, 0, []), (.goto 4, 17, [])]
  | 16 => [(.iconst 0, 0, []), (.nop, 17, [])]
  | 17 => [(.istore_n 2, 0, []), (.iconst 0, 0, []), (.istore_n 3, 0, []), (.iload_n 1, 0, []), (.invokestatic 85, 19, [1, 1, 0, 1]), (.ifCond .ne 8, 32, []), (.iconst 2, 0, []), (.istore_n 3, 0, []), (.goto 36, 65, [])]
  | 32 => [(.aload_n 0, 0, []), (.getfield 19, 2, [7, 3, 3, 37, 5]), (.getfield 88, 1, [37, 7, 0, 0, 0]), (.bipush 30, 0, []), (.if_icmp .lt 9, 50, []), (.bipush 6, 0, []), (.istore_n 3, 0, []), (.goto 18, 65, [])]
  | 50 => [(.iload_n 2, 0, []), (.ifCond .eq 14, 65, []), (.aload_n 0, 0, []), (.getfield 32, 2, [7, 2, 0, 0, 0]), (.iconst 3, 0, []), (.if_icmp .lt 6, 65, []), (.bipush 7, 0, []), (.istore_n 3, 0, []), (.nop, 65, [])]
  | 65 => [(.iload_n 3, 0, []), (.ifCond .eq 14, 80, []), (.aload_n 0, 0, []), (.getfield 15, 2, [7, 0, 2, 3, 0]), (.iload_n 3, 0, []), (.invokevirtual 55, 79, [2, 1, 3, 2]), (.pop, 0, []), (.iconst (-1), 0, []), (.ireturn, 0, [])]
  | 80 => [(.aload_n 0, 0, []), (.getfield 19, 2, [7, 3, 3, 37, 5]), (.iload_n 1, 0, []), (.invokevirtual 59, 14, [2, 1, 37, 2]), (.istore 4, 0, []), (.aload_n 0, 0, []), (.getfield 19, 2, [7, 3, 3, 37, 5]), (.dup, 0, []), (.getfield 88, 1, [37, 7, 0, 0, 0]), (.iconst 1, 0, []), (.iadd, 0, []), (.putfield 88, 1, [37, 7, 0, 0, 0]), (.iload_n 2, 0, []), (.ifCond .eq 24, 128, []), (.aload_n 0, 0, []), (.getfield 9, 2, [7, 1, 2, 8, 0]), (.aload_n 0, 0, []), (.getfield 32, 2, [7, 2, 0, 0, 0]), (.iload 4, 0, []), (.iastore, 0, []), (.aload_n 0, 0, []), (.dup, 0, []), (.getfield 32, 2, [7, 2, 0, 0, 0]), (.iconst 1, 0, []), (.iadd, 0, []), (.putfield 32, 2, [7, 2, 0, 0, 0]), (.nop, 128, [])]
  | 128 => [(.iload 4, 0, []), (.ireturn, 0, [])]
  | _ => []
abbrev n_DaysReader_isStepWord : Nat := 19
def b_DaysReader_isStepWord : Nat → List Item
  | 0 => [(.iload_n 0, 0, []), (.bipush 11, 0, []), (.if_icmp .eq 45, 48, []), (.iload_n 0, 0, []), (.bipush 12, 0, []), (.if_icmp .eq 39, 48, []), (.iload_n 0, 0, []), (.bipush 13, 0, []), (.if_icmp .eq 33, 48, []), (.iload_n 0, 0, []), (.bipush 14, 0, []), (.if_icmp .eq 27, 48, []), (.iload_n 0, 0, []), (.bipush 15, 0, []), (.if_icmp .eq 21, 48, []), (.iload_n 0, 0, []), (.bipush 16, 0, []), (.if_icmp .eq 15, 48, []), (.iload_n 0, 0, []), (.bipush 20, 0, []), (.if_icmp .eq 9, 48, []), (.iload_n 0, 0, []), (.bipush 22, 0, []), (.if_icmp .ne 7, 52, []), (.nop, 48, [])]
  | 48 => [(.iconst 1, 0, []), (.goto 4, 53, [])]
  | 52 => [(.iconst 0, 0, []), (.nop, 53, [])]
  | 53 => [(.ireturn, 1, [])]
  | _ => []
abbrev n_DaysReader_takesTest : Nat := 20
def b_DaysReader_takesTest : Nat → List Item
  | 0 => [(.aload_n 0, 0, []), (.getfield 15, 2, [7, 0, 2, 3, 0]), (.getfield 41, 8, [3, 7, 0, 0, 0]), (.istore_n 2, 0, []), (.iload_n 2, 0, []), (.bipush 17, 0, []), (.if_icmp .eq 29, 40, []), (.iload_n 2, 0, []), (.bipush 18, 0, []), (.if_icmp .eq 23, 40, []), (.iload_n 2, 0, []), (.iconst 5, 0, []), (.if_icmp .eq 18, 40, []), (.iload_n 2, 0, []), (.bipush 19, 0, []), (.if_icmp .eq 12, 40, []), (.aload_n 0, 0, []), (.getfield 15, 2, [7, 0, 2, 3, 0]), (.iconst 2, 0, []), (.invokevirtual 55, 79, [2, 1, 3, 2]), (.ireturn, 1, [])]
  | 40 => [(.aload_n 0, 0, []), (.getfield 19, 2, [7, 3, 3, 37, 5]), (.getfield 91, 1, [37, 3, 2, 41, 0]), (.iload_n 1, 0, []), (.iload_n 2, 0, []), (.iastore, 0, []), (.aload_n 0, 0, []), (.getfield 15, 2, [7, 0, 2, 3, 0]), (.invokevirtual 66, 75, [1, 0, 3, 1]), (.iload_n 2, 0, []), (.bipush 18, 0, []), (.if_icmp .ne 46, 106, []), (.aload_n 0, 0, []), (.getfield 19, 2, [7, 3, 3, 37, 5]), (.getfield 94, 1, [37, 1, 2, 39, 0]), (.iload_n 1, 0, []), (.aload_n 0, 0, []), (.getfield 23, 2, [7, 4, 3, 22, 9]), (.getfield 97, 3, [22, 0, 2, 23, 0]), (.aload_n 0, 0, []), (.getfield 15, 2, [7, 0, 2, 3, 0]), (.getfield 103, 8, [3, 9, 1, 0, 0]), (.invokevirtual 107, 88, [2, 1, 23, 4]), (.iastore, 0, []), (.aload_n 0, 0, []), (.getfield 15, 2, [7, 0, 2, 3, 0]), (.aload_n 0, 0, []), (.getfield 19, 2, [7, 3, 3, 37, 5]), (.getfield 94, 1, [37, 1, 2, 39, 0]), (.iload_n 1, 0, []), (.iaload, 0, []), (.invokevirtual 113, 83, [2, 1, 3, 2]), (.ireturn, 1, [])]
  | 106 => [(.iload_n 2, 0, []), (.bipush 19, 0, []), (.if_icmp .eq 13, 122, []), (.aload_n 0, 0, []), (.iload_n 1, 0, []), (.invokevirtual 79, 21, [2, 1, 7, 2]), (.ifCond .ne 5, 122, []), (.iconst 0, 0, []), (.ireturn, 1, [])]
  | 122 => [(.iload_n 2, 0, []), (.bipush 17, 0, []), (.if_icmp .ne 5, 130, []), (.iconst 1, 0, []), (.ireturn, 1, [])]
  | 130 => [(.aload_n 0, 0, []), (.getfield 19, 2, [7, 3, 3, 37, 5]), (.getfield 116, 1, [37, 4, 2, 42, 0]), (.iload_n 1, 0, []), (.aload_n 0, 0, []), (.getfield 15, 2, [7, 0, 2, 3, 0]), (.invokevirtual 119, 84, [1, 1, 3, 2]), (.iastore, 0, []), (.aload_n 0, 0, []), (.getfield 19, 2, [7, 3, 3, 37, 5]), (.getfield 116, 1, [37, 4, 2, 42, 0]), (.iload_n 1, 0, []), (.iaload, 0, []), (.iconst (-1), 0, []), (.if_icmp .ne 5, 161, []), (.iconst 0, 0, []), (.ireturn, 1, [])]
  | 161 => [(.aload_n 0, 0, []), (.iload_n 1, 0, []), (.iconst 0, 0, []), (.iload_n 2, 0, []), (.iconst 5, 0, []), (.if_icmp .ne 8, 174, []), (.bipush 99, 0, []), (.goto 6, 177, [])]
  | 174 => [(.sipush 9999, 0, []), (.nop, 177, [])]
  | 177 => [(.invokevirtual 75, 22, [4, 1, 7, 4]), (.ireturn, 1, [])]
  | _ => []
abbrev n_DaysReader_takesMonk : Nat := 21
def b_DaysReader_takesMonk : Nat → List Item
  | 0 => [(.aload_n 0, 0, []), (.getfield 19, 2, [7, 3, 3, 37, 5]), (.getfield 94, 1, [37, 1, 2, 39, 0]), (.iload_n 1, 0, []), (.aload_n 0, 0, []), (.getfield 23, 2, [7, 4, 3, 22, 9]), (.getfield 123, 3, [22, 1, 2, 27, 0]), (.aload_n 0, 0, []), (.getfield 15, 2, [7, 0, 2, 3, 0]), (.getfield 103, 8, [3, 9, 1, 0, 0]), (.invokevirtual 127, 59, [2, 1, 27, 4]), (.iastore, 0, []), (.aload_n 0, 0, []), (.getfield 15, 2, [7, 0, 2, 3, 0]), (.aload_n 0, 0, []), (.getfield 19, 2, [7, 3, 3, 37, 5]), (.getfield 94, 1, [37, 1, 2, 39, 0]), (.iload_n 1, 0, []), (.iaload, 0, []), (.invokevirtual 113, 83, [2, 1, 3, 2]), (.ireturn, 1, [])]
  | _ => []
abbrev n_DaysReader_takesNumber : Nat := 22
def b_DaysReader_takesNumber : Nat → List Item
  | 0 => [(.aload_n 0, 0, []), (.getfield 19, 2, [7, 3, 3, 37, 5]), (.getfield 130, 1, [37, 2, 2, 40, 0]), (.iload_n 1, 0, []), (.aload_n 0, 0, []), (.getfield 15, 2, [7, 0, 2, 3, 0]), (.iload_n 2, 0, []), (.iload_n 3, 0, []), (.invokevirtual 133, 85, [3, 1, 3, 4]), (.iastore, 0, []), (.aload_n 0, 0, []), (.getfield 19, 2, [7, 3, 3, 37, 5]), (.getfield 130, 1, [37, 2, 2, 40, 0]), (.iload_n 1, 0, []), (.iaload, 0, []), (.iconst (-1), 0, []), (.if_icmp .eq 7, 35, []), (.iconst 1, 0, []), (.goto 4, 36, [])]
  | 35 => [(.iconst 0, 0, []), (.nop, 36, [])]
  | 36 => [(.ireturn, 1, [])]
  | _ => []
abbrev n_House_clear : Nat := 23
def b_House_clear : Nat → List Item
  | 0 => [(.aload_n 0, 0, []), (.getfield 12, 3, [22, 0, 2, 23, 0]), (.iconst 0, 0, []), (.putfield 42, 9, [23, 3, 0, 0, 0]), (.aload_n 0, 0, []), (.getfield 21, 3, [22, 1, 2, 27, 0]), (.invokevirtual 45, 56, [1, 0, 27, 1]), (.aload_n 0, 0, []), (.iconst 0, 0, []), (.putfield 48, 3, [22, 4, 0, 0, 0]), (.aload_n 0, 0, []), (.bipush 10, 0, []), (.putfield 32, 3, [22, 5, 0, 0, 0]), (.aload_n 0, 0, []), (.iconst 1, 0, []), (.putfield 36, 3, [22, 6, 0, 0, 0]), (.aload_n 0, 0, []), (.iconst 0, 0, []), (.putfield 51, 3, [22, 7, 0, 0, 0]), (.aload_n 0, 0, []), (.iconst 0, 0, []), (.putfield 54, 3, [22, 8, 0, 0, 0]), (.aload_n 0, 0, []), (.iconst 0, 0, []), (.putfield 57, 3, [22, 9, 0, 0, 0]), (.aload_n 0, 0, []), (.iconst 0, 0, []), (.putfield 60, 3, [22, 10, 0, 0, 0]), (.aload_n 0, 0, []), (.iconst (-1), 0, []), (.putfield 39, 3, [22, 11, 0, 0, 0]), (.return_, 0, [])]
  | _ => []
abbrev n_House_copy : Nat := 24
def b_House_copy : Nat → List Item
  | 0 => [(.aload_n 0, 0, []), (.getfield 12, 3, [22, 0, 2, 23, 0]), (.aload_n 1, 0, []), (.getfield 12, 3, [22, 0, 2, 23, 0]), (.invokevirtual 63, 86, [2, 0, 23, 2]), (.aload_n 0, 0, []), (.getfield 21, 3, [22, 1, 2, 27, 0]), (.aload_n 1, 0, []), (.getfield 21, 3, [22, 1, 2, 27, 0]), (.invokevirtual 67, 57, [2, 0, 27, 2]), (.aload_n 1, 0, []), (.getfield 25, 3, [22, 2, 2, 35, 0]), (.iconst 0, 0, []), (.aload_n 0, 0, []), (.getfield 25, 3, [22, 2, 2, 35, 0]), (.iconst 0, 0, []), (.bipush 12, 0, []), (.invokestatic 70, 0, [1000]), (.aload_n 1, 0, []), (.getfield 29, 3, [22, 3, 2, 36, 0]), (.iconst 0, 0, []), (.aload_n 0, 0, []), (.getfield 29, 3, [22, 3, 2, 36, 0]), (.iconst 0, 0, []), (.bipush 12, 0, []), (.invokestatic 70, 0, [1000]), (.aload_n 0, 0, []), (.aload_n 1, 0, []), (.getfield 48, 3, [22, 4, 0, 0, 0]), (.putfield 48, 3, [22, 4, 0, 0, 0]), (.aload_n 0, 0, []), (.aload_n 1, 0, []), (.getfield 32, 3, [22, 5, 0, 0, 0]), (.putfield 32, 3, [22, 5, 0, 0, 0]), (.aload_n 0, 0, []), (.aload_n 1, 0, []), (.getfield 36, 3, [22, 6, 0, 0, 0]), (.putfield 36, 3, [22, 6, 0, 0, 0]), (.aload_n 0, 0, []), (.aload_n 1, 0, []), (.getfield 51, 3, [22, 7, 0, 0, 0]), (.putfield 51, 3, [22, 7, 0, 0, 0]), (.aload_n 0, 0, []), (.aload_n 1, 0, []), (.getfield 54, 3, [22, 8, 0, 0, 0]), (.putfield 54, 3, [22, 8, 0, 0, 0]), (.aload_n 0, 0, []), (.aload_n 1, 0, []), (.getfield 57, 3, [22, 9, 0, 0, 0]), (.putfield 57, 3, [22, 9, 0, 0, 0]), (.aload_n 0, 0, []), (.aload_n 1, 0, []), (.getfield 60, 3, [22, 10, 0, 0, 0]), (.putfield 60, 3, [22, 10, 0, 0, 0]), (.aload_n 0, 0, []), (.aload_n 1, 0, []), (.getfield 39, 3, [22, 11, 0, 0, 0]), (.putfield 39, 3, [22, 11, 0, 0, 0]), (.return_, 0, [])]
  | _ => []
abbrev n_House_addEntry : Nat := 25
def b_House_addEntry : Nat → List Item
  | 0 => [(.aload_n 0, 0, []), (.getfield 48, 3, [22, 4, 0, 0, 0]), (.bipush 12, 0, []), (.if_icmp .lt 4, 10, []), (.return_, 0, [])]
  | 10 => [(.aload_n 0, 0, []), (.getfield 25, 3, [22, 2, 2, 35, 0]), (.aload_n 0, 0, []), (.getfield 48, 3, [22, 4, 0, 0, 0]), (.iload_n 1, 0, []), (.iastore, 0, []), (.aload_n 0, 0, []), (.getfield 29, 3, [22, 3, 2, 36, 0]), (.aload_n 0, 0, []), (.getfield 48, 3, [22, 4, 0, 0, 0]), (.iload_n 2, 0, []), (.iastore, 0, []), (.aload_n 0, 0, []), (.dup, 0, []), (.getfield 48, 3, [22, 4, 0, 0, 0]), (.iconst 1, 0, []), (.iadd, 0, []), (.putfield 48, 3, [22, 4, 0, 0, 0]), (.return_, 0, [])]
  | _ => []
abbrev n_House_dropEntry : Nat := 26
def b_House_dropEntry : Nat → List Item
  | 0 => [(.iload_n 1, 0, []), (.iconst 1, 0, []), (.iadd, 0, []), (.istore_n 2, 0, []), (.nop, 4, [])]
  | 4 => [(.iload_n 2, 0, []), (.aload_n 0, 0, []), (.getfield 48, 3, [22, 4, 0, 0, 0]), (.if_icmp .ge 37, 46, []), (.aload_n 0, 0, []), (.getfield 25, 3, [22, 2, 2, 35, 0]), (.iload_n 2, 0, []), (.iconst 1, 0, []), (.isub, 0, []), (.aload_n 0, 0, []), (.getfield 25, 3, [22, 2, 2, 35, 0]), (.iload_n 2, 0, []), (.iaload, 0, []), (.iastore, 0, []), (.aload_n 0, 0, []), (.getfield 29, 3, [22, 3, 2, 36, 0]), (.iload_n 2, 0, []), (.iconst 1, 0, []), (.isub, 0, []), (.aload_n 0, 0, []), (.getfield 29, 3, [22, 3, 2, 36, 0]), (.iload_n 2, 0, []), (.iaload, 0, []), (.iastore, 0, []), (.iinc 2 1, 0, []), (.goto (-39), 4, [])]
  | 46 => [(.aload_n 0, 0, []), (.dup, 0, []), (.getfield 48, 3, [22, 4, 0, 0, 0]), (.iconst 1, 0, []), (.isub, 0, []), (.putfield 48, 3, [22, 4, 0, 0, 0]), (.return_, 0, [])]
  | _ => []
abbrev n_House_mayTalk : Nat := 27
def b_House_mayTalk : Nat → List Item
  | 0 => [(.iload_n 1, 0, []), (.aload_n 0, 0, []), (.getfield 60, 3, [22, 10, 0, 0, 0]), (.if_icmp .eq 22, 27, []), (.aload_n 0, 0, []), (.getfield 21, 3, [22, 1, 2, 27, 0]), (.getfield 76, 6, [27, 7, 0, 0, 0]), (.iload_n 1, 0, []), (.ishr, 0, []), (.iconst 1, 0, []), (.iand, 0, []), (.iconst 1, 0, []), (.if_icmp .ne 7, 27, []), (.iconst 1, 0, []), (.goto 4, 28, [])]
  | 27 => [(.iconst 0, 0, []), (.nop, 28, [])]
  | 28 => [(.ireturn, 1, [])]
  | _ => []
abbrev n_House_open : Nat := 28
def b_House_open : Nat → List Item
  | 0 => [(.aload_n 0, 0, []), (.getfield 39, 3, [22, 11, 0, 0, 0]), (.iconst (-1), 0, []), (.if_icmp .ne 17, 22, []), (.iconst 1, 0, []), (.aload_n 0, 0, []), (.getfield 12, 3, [22, 0, 2, 23, 0]), (.getfield 42, 9, [23, 3, 0, 0, 0]), (.ishl, 0, []), (.iconst 1, 0, []), (.isub, 0, []), (.goto 15, 34, [])]
  | 22 => [(.aload_n 0, 0, []), (.getfield 12, 3, [22, 0, 2, 23, 0]), (.getfield 79, 9, [23, 2, 2, 26, 0]), (.aload_n 0, 0, []), (.getfield 39, 3, [22, 11, 0, 0, 0]), (.iaload, 0, []), (.nop, 34, [])]
  | 34 => [(.ireturn, 0, [])]
  | _ => []
abbrev n_House_canSay : Nat := 29
def b_House_canSay : Nat → List Item
  | 0 => [(.aload_n 0, 0, []), (.iload_n 1, 0, []), (.invokevirtual 82, 27, [2, 1, 22, 2]), (.ifCond .eq 39, 44, []), (.aload_n 0, 0, []), (.getfield 12, 3, [22, 0, 2, 23, 0]), (.getfield 86, 9, [23, 1, 2, 25, 0]), (.iload_n 2, 0, []), (.iaload, 0, []), (.aload_n 0, 0, []), (.getfield 21, 3, [22, 1, 2, 27, 0]), (.getfield 89, 6, [27, 1, 2, 29, 0]), (.iload_n 1, 0, []), (.iaload, 0, []), (.if_icmp .gt 18, 44, []), (.aload_n 0, 0, []), (.invokevirtual 92, 28, [1, 1, 22, 1]), (.iload_n 2, 0, []), (.invokestatic 96, 173, [2, 1, 0, 2]), (.ifCond .eq 7, 44, []), (.iconst 1, 0, []), (.goto 4, 45, [])]
  | 44 => [(.iconst 0, 0, []), (.nop, 45, [])]
  | 45 => [(.ireturn, 1, [])]
  | _ => []
abbrev n_House_sayable : Nat := 30
def b_House_sayable : Nat → List Item
  | 0 => [(.aload_n 0, 0, []), (.iload_n 1, 0, []), (.invokevirtual 82, 27, [2, 1, 22, 2]), (.ifCond .eq 26, 31, []), (.aload_n 0, 0, []), (.getfield 12, 3, [22, 0, 2, 23, 0]), (.aload_n 0, 0, []), (.invokevirtual 92, 28, [1, 1, 22, 1]), (.aload_n 0, 0, []), (.getfield 21, 3, [22, 1, 2, 27, 0]), (.getfield 89, 6, [27, 1, 2, 29, 0]), (.iload_n 1, 0, []), (.iaload, 0, []), (.invokevirtual 100, 90, [3, 1, 23, 5]), (.goto 4, 32, [])]
  | 31 => [(.iconst 0, 0, []), (.nop, 32, [])]
  | 32 => [(.ireturn, 0, [])]
  | _ => []
abbrev n_House_speech : Nat := 31
def b_House_speech : Nat → List Item
  | 0 => [(.aload_n 0, 0, []), (.invokevirtual 104, 32, [1, 1, 22, 4]), (.istore_n 1, 0, []), (.iload_n 1, 0, []), (.iconst (-1), 0, []), (.if_icmp .ne 10, 17, []), (.aload_n 0, 0, []), (.invokevirtual 107, 33, [1, 1, 22, 3]), (.goto 4, 18, [])]
  | 17 => [(.iload_n 1, 0, []), (.nop, 18, [])]
  | 18 => [(.ireturn, 0, [])]
  | _ => []
abbrev n_House_rosteredSpeech : Nat := 32
def b_House_rosteredSpeech : Nat → List Item
  | 0 => [(.aload_n 0, 0, []), (.getfield 48, 3, [22, 4, 0, 0, 0]), (.ifCond .gt 5, 9, []), (.iconst (-1), 0, []), (.ireturn, 0, [])]
  | 9 => [(.aload_n 0, 0, []), (.getfield 51, 3, [22, 7, 0, 0, 0]), (.aload_n 0, 0, []), (.getfield 48, 3, [22, 4, 0, 0, 0]), (.irem, 0, []), (.istore_n 1, 0, []), (.aload_n 0, 0, []), (.getfield 25, 3, [22, 2, 2, 35, 0]), (.iload_n 1, 0, []), (.iaload, 0, []), (.istore_n 2, 0, []), (.aload_n 0, 0, []), (.getfield 29, 3, [22, 3, 2, 36, 0]), (.iload_n 1, 0, []), (.iaload, 0, []), (.istore_n 3, 0, []), (.aload_n 0, 0, []), (.iload_n 2, 0, []), (.iload_n 3, 0, []), (.invokevirtual 110, 29, [3, 1, 22, 3]), (.ifCond .eq 11, 50, []), (.iload_n 2, 0, []), (.iload_n 3, 0, []), (.invokestatic 113, 177, [2, 1, 0, 2]), (.goto 4, 51, [])]
  | 50 => [(.iconst (-1), 0, []), (.nop, 51, [])]
  | 51 => [(.ireturn, 0, [])]
  | _ => []
abbrev n_House_helpingSpeech : Nat := 33
def b_House_helpingSpeech : Nat → List Item
  | 0 => [(.iconst 0, 0, []), (.istore_n 1, 0, []), (.nop, 2, [])]
  | 2 => [(.iload_n 1, 0, []), (.aload_n 0, 0, []), (.getfield 21, 3, [22, 1, 2, 27, 0]), (.getfield 116, 6, [27, 8, 0, 0, 0]), (.if_icmp .ge 53, 63, []), (.aload_n 0, 0, []), (.iload_n 1, 0, []), (.invokevirtual 82, 27, [2, 1, 22, 2]), (.ifCond .eq 26, 44, []), (.aload_n 0, 0, []), (.getfield 12, 3, [22, 0, 2, 23, 0]), (.aload_n 0, 0, []), (.invokevirtual 92, 28, [1, 1, 22, 1]), (.aload_n 0, 0, []), (.getfield 21, 3, [22, 1, 2, 27, 0]), (.getfield 89, 6, [27, 1, 2, 29, 0]), (.iload_n 1, 0, []), (.iaload, 0, []), (.invokevirtual 117, 91, [3, 1, 23, 4]), (.goto 4, 45, [])]
  | 44 => [(.iconst (-1), 0, []), (.nop, 45, [])]
  | 45 => [(.istore_n 2, 0, []), (.iload_n 2, 0, []), (.iconst (-1), 0, []), (.if_icmp .eq 9, 57, []), (.iload_n 1, 0, []), (.iload_n 2, 0, []), (.invokestatic 113, 177, [2, 1, 0, 2]), (.ireturn, 0, [])]
  | 57 => [(.iinc 1 1, 0, []), (.goto (-58), 2, [])]
  | 63 => [(.iconst (-1), 0, []), (.ireturn, 0, [])]
  | _ => []
abbrev n_House_pass : Nat := 34
def b_House_pass : Nat → List Item
  | 0 => [(.aload_n 0, 0, []), (.getfield 54, 3, [22, 8, 0, 0, 0]), (.istore_n 2, 0, []), (.iconst 0, 0, []), (.istore_n 3, 0, []), (.nop, 7, [])]
  | 7 => [(.iload_n 3, 0, []), (.iload_n 1, 0, []), (.if_icmp .ge 14, 23, []), (.aload_n 0, 0, []), (.invokevirtual 120, 35, [1, 1, 22, 2]), (.pop, 0, []), (.iinc 3 1, 0, []), (.goto (-13), 7, [])]
  | 23 => [(.aload_n 0, 0, []), (.getfield 54, 3, [22, 8, 0, 0, 0]), (.iload_n 2, 0, []), (.isub, 0, []), (.ireturn, 0, [])]
  | _ => []
abbrev n_House_passOne : Nat := 35
def b_House_passOne : Nat → List Item
  | 0 => [(.aload_n 0, 0, []), (.invokevirtual 104, 32, [1, 1, 22, 4]), (.istore_n 1, 0, []), (.iload_n 1, 0, []), (.iconst (-1), 0, []), (.if_icmp .ne 36, 43, []), (.aload_n 0, 0, []), (.invokevirtual 107, 33, [1, 1, 22, 3]), (.istore_n 1, 0, []), (.iload_n 1, 0, []), (.iconst (-1), 0, []), (.if_icmp .ne 16, 33, []), (.aload_n 0, 0, []), (.dup, 0, []), (.getfield 54, 3, [22, 8, 0, 0, 0]), (.iconst 1, 0, []), (.iadd, 0, []), (.putfield 54, 3, [22, 8, 0, 0, 0]), (.goto 13, 43, [])]
  | 33 => [(.aload_n 0, 0, []), (.dup, 0, []), (.getfield 57, 3, [22, 9, 0, 0, 0]), (.iconst 1, 0, []), (.iadd, 0, []), (.putfield 57, 3, [22, 9, 0, 0, 0]), (.nop, 43, [])]
  | 43 => [(.aload_n 0, 0, []), (.iload_n 1, 0, []), (.invokestatic 124, 178, [1, 1, 0, 1]), (.iload_n 1, 0, []), (.invokestatic 128, 179, [1, 1, 0, 1]), (.invokevirtual 131, 36, [3, 0, 22, 4]), (.iload_n 1, 0, []), (.iconst (-1), 0, []), (.if_icmp .eq 7, 64, []), (.iconst 1, 0, []), (.goto 4, 65, [])]
  | 64 => [(.iconst 0, 0, []), (.nop, 65, [])]
  | 65 => [(.ireturn, 1, [])]
  | _ => []
abbrev n_House_goBy : Nat := 36
def b_House_goBy : Nat → List Item
  | 0 => [(.iconst 0, 0, []), (.istore_n 3, 0, []), (.nop, 2, [])]
  | 2 => [(.iload_n 3, 0, []), (.aload_n 0, 0, []), (.getfield 21, 3, [22, 1, 2, 27, 0]), (.getfield 116, 6, [27, 8, 0, 0, 0]), (.if_icmp .ge 73, 83, []), (.iload_n 3, 0, []), (.iload_n 1, 0, []), (.if_icmp .eq 24, 39, []), (.aload_n 0, 0, []), (.getfield 21, 3, [22, 1, 2, 27, 0]), (.getfield 89, 6, [27, 1, 2, 29, 0]), (.iload_n 3, 0, []), (.aload_n 0, 0, []), (.getfield 21, 3, [22, 1, 2, 27, 0]), (.iload_n 3, 0, []), (.iconst 1, 0, []), (.invokevirtual 135, 63, [3, 1, 27, 4]), (.iastore, 0, []), (.goto 41, 77, [])]
  | 39 => [(.iload_n 2, 0, []), (.ifCond .lt 37, 77, []), (.aload_n 0, 0, []), (.getfield 21, 3, [22, 1, 2, 27, 0]), (.getfield 89, 6, [27, 1, 2, 29, 0]), (.iload_n 3, 0, []), (.dup2, 0, []), (.iaload, 0, []), (.aload_n 0, 0, []), (.getfield 12, 3, [22, 0, 2, 23, 0]), (.getfield 86, 9, [23, 1, 2, 25, 0]), (.iload_n 2, 0, []), (.iaload, 0, []), (.isub, 0, []), (.iastore, 0, []), (.aload_n 0, 0, []), (.getfield 21, 3, [22, 1, 2, 27, 0]), (.getfield 138, 6, [27, 4, 2, 32, 0]), (.iload_n 3, 0, []), (.dup2, 0, []), (.iaload, 0, []), (.iconst 1, 0, []), (.iadd, 0, []), (.iastore, 0, []), (.nop, 77, [])]
  | 77 => [(.iinc 3 1, 0, []), (.goto (-78), 2, [])]
  | 83 => [(.aload_n 0, 0, []), (.iload_n 2, 0, []), (.putfield 39, 3, [22, 11, 0, 0, 0]), (.aload_n 0, 0, []), (.dup, 0, []), (.getfield 51, 3, [22, 7, 0, 0, 0]), (.iconst 1, 0, []), (.iadd, 0, []), (.putfield 51, 3, [22, 7, 0, 0, 0]), (.aload_n 0, 0, []), (.getfield 21, 3, [22, 1, 2, 27, 0]), (.getfield 116, 6, [27, 8, 0, 0, 0]), (.ifCond .gt 4, 109, []), (.return_, 0, [])]
  | 109 => [(.aload_n 0, 0, []), (.getfield 21, 3, [22, 1, 2, 27, 0]), (.getfield 141, 6, [27, 5, 2, 33, 0]), (.aload_n 0, 0, []), (.getfield 60, 3, [22, 10, 0, 0, 0]), (.dup2, 0, []), (.iaload, 0, []), (.iconst 1, 0, []), (.iadd, 0, []), (.iastore, 0, []), (.aload_n 0, 0, []), (.getfield 32, 3, [22, 5, 0, 0, 0]), (.ifCond .le 33, 162, []), (.aload_n 0, 0, []), (.getfield 51, 3, [22, 7, 0, 0, 0]), (.aload_n 0, 0, []), (.getfield 32, 3, [22, 5, 0, 0, 0]), (.irem, 0, []), (.ifCond .ne 21, 162, []), (.aload_n 0, 0, []), (.aload_n 0, 0, []), (.getfield 60, 3, [22, 10, 0, 0, 0]), (.iconst 1, 0, []), (.iadd, 0, []), (.aload_n 0, 0, []), (.getfield 21, 3, [22, 1, 2, 27, 0]), (.getfield 116, 6, [27, 8, 0, 0, 0]), (.irem, 0, []), (.putfield 60, 3, [22, 10, 0, 0, 0]), (.nop, 162, [])]
  | 162 => [(.return_, 0, [])]
  | _ => []
abbrev n_House_untilSilent : Nat := 37
def b_House_untilSilent : Nat → List Item
  | 0 => [(.aload_n 0, 0, []), (.getfield 21, 3, [22, 1, 2, 27, 0]), (.getfield 116, 6, [27, 8, 0, 0, 0]), (.ifCond .le 18, 25, []), (.aload_n 0, 0, []), (.getfield 32, 3, [22, 5, 0, 0, 0]), (.ifCond .le 11, 25, []), (.iload_n 1, 0, []), (.aload_n 0, 0, []), (.getfield 60, 3, [22, 10, 0, 0, 0]), (.if_icmp .ne 5, 27, []), (.nop, 25, [])]
  | 25 => [(.iconst 0, 0, []), (.ireturn, 0, [])]
  | 27 => [(.iload_n 1, 0, []), (.aload_n 0, 0, []), (.getfield 60, 3, [22, 10, 0, 0, 0]), (.isub, 0, []), (.aload_n 0, 0, []), (.getfield 21, 3, [22, 1, 2, 27, 0]), (.getfield 116, 6, [27, 8, 0, 0, 0]), (.invokestatic 144, 333, [2, 1, 0, 3]), (.istore_n 2, 0, []), (.aload_n 0, 0, []), (.getfield 32, 3, [22, 5, 0, 0, 0]), (.aload_n 0, 0, []), (.getfield 51, 3, [22, 7, 0, 0, 0]), (.aload_n 0, 0, []), (.getfield 32, 3, [22, 5, 0, 0, 0]), (.irem, 0, []), (.isub, 0, []), (.iload_n 2, 0, []), (.iconst 1, 0, []), (.isub, 0, []), (.aload_n 0, 0, []), (.getfield 32, 3, [22, 5, 0, 0, 0]), (.imul, 0, []), (.iadd, 0, []), (.ireturn, 0, [])]
  | _ => []
abbrev n_HouseReader_takes : Nat := 38
def b_HouseReader_takes : Nat → List Item
  | 0 => [(.aload_n 0, 0, []), (.aload_n 1, 0, []), (.putfield 15, 4, [6, 1, 3, 22, 9]), (.aload_n 0, 0, []), (.getfield 15, 4, [6, 1, 3, 22, 9]), (.invokevirtual 19, 23, [1, 0, 22, 1]), (.aload_n 0, 0, []), (.iconst 0, 0, []), (.putfield 24, 4, [6, 2, 5, 0, 0]), (.aload_n 0, 0, []), (.iconst 0, 0, []), (.putfield 28, 4, [6, 3, 5, 0, 0]), (.iconst 0, 0, []), (.istore_n 2, 0, []), (.nop, 24, [])]
  | 24 => [(.iload_n 2, 0, []), (.sipush 900, 0, []), (.if_icmp .gt 28, 56, []), (.aload_n 0, 0, []), (.getfield 9, 4, [6, 0, 2, 3, 0]), (.getfield 31, 8, [3, 5, 0, 0, 0]), (.ifCond .eq 18, 56, []), (.aload_n 0, 0, []), (.invokevirtual 37, 39, [1, 1, 6, 1]), (.ifCond .ne 5, 50, []), (.iconst 0, 0, []), (.ireturn, 1, [])]
  | 50 => [(.iinc 2 1, 0, []), (.goto (-29), 24, [])]
  | 56 => [(.iconst 1, 0, []), (.ireturn, 1, [])]
  | _ => []
abbrev n_HouseReader_takesPart : Nat := 39
def b_HouseReader_takesPart : Nat → List Item
  | 0 => [(.aload_n 0, 0, []), (.getfield 9, 4, [6, 0, 2, 3, 0]), (.getfield 41, 8, [3, 7, 0, 0, 0]), (.tableswitch 92 0 10 #[57, 62, 67, 92, 72, 92, 92, 92, 77, 82, 87], 99, [64, 69, 74, 99, 79, 99, 99, 99, 84, 89, 94])]
  | 64 => [(.aload_n 0, 0, []), (.invokevirtual 44, 40, [1, 1, 6, 2]), (.ireturn, 1, [])]
  | 69 => [(.aload_n 0, 0, []), (.invokevirtual 47, 41, [1, 1, 6, 2]), (.ireturn, 1, [])]
  | 74 => [(.aload_n 0, 0, []), (.invokevirtual 50, 42, [1, 1, 6, 4]), (.ireturn, 1, [])]
  | 79 => [(.aload_n 0, 0, []), (.invokevirtual 53, 43, [1, 1, 6, 6]), (.ireturn, 1, [])]
  | 84 => [(.aload_n 0, 0, []), (.invokevirtual 56, 45, [1, 1, 6, 3]), (.ireturn, 1, [])]
  | 89 => [(.aload_n 0, 0, []), (.invokevirtual 59, 46, [1, 1, 6, 3]), (.ireturn, 1, [])]
  | 94 => [(.aload_n 0, 0, []), (.invokevirtual 62, 47, [1, 1, 6, 3]), (.ireturn, 1, [])]
  | 99 => [(.aload_n 0, 0, []), (.getfield 9, 4, [6, 0, 2, 3, 0]), (.iconst 2, 0, []), (.invokevirtual 65, 79, [2, 1, 3, 2]), (.ireturn, 1, [])]
  | _ => []
abbrev n_HouseReader_takesTurn : Nat := 40
def b_HouseReader_takesTurn : Nat → List Item
  | 0 => [(.aload_n 0, 0, []), (.getfield 24, 4, [6, 2, 5, 0, 0]), (.ifCond .eq 12, 16, []), (.aload_n 0, 0, []), (.getfield 9, 4, [6, 0, 2, 3, 0]), (.iconst 5, 0, []), (.invokevirtual 65, 79, [2, 1, 3, 2]), (.ireturn, 1, [])]
  | 16 => [(.aload_n 0, 0, []), (.iconst 1, 0, []), (.putfield 24, 4, [6, 2, 5, 0, 0]), (.aload_n 0, 0, []), (.getfield 9, 4, [6, 0, 2, 3, 0]), (.invokevirtual 69, 75, [1, 0, 3, 1]), (.aload_n 0, 0, []), (.getfield 9, 4, [6, 0, 2, 3, 0]), (.iconst 1, 0, []), (.bipush 99, 0, []), (.invokevirtual 72, 85, [3, 1, 3, 4]), (.istore_n 1, 0, []), (.iload_n 1, 0, []), (.iconst (-1), 0, []), (.if_icmp .ne 5, 46, []), (.iconst 0, 0, []), (.ireturn, 1, [])]
  | 46 => [(.aload_n 0, 0, []), (.getfield 15, 4, [6, 1, 3, 22, 9]), (.iload_n 1, 0, []), (.putfield 76, 3, [22, 5, 0, 0, 0]), (.aload_n 0, 0, []), (.getfield 9, 4, [6, 0, 2, 3, 0]), (.invokevirtual 79, 82, [1, 1, 3, 1]), (.ireturn, 1, [])]
  | _ => []
abbrev n_HouseReader_takesOdds : Nat := 41
def b_HouseReader_takesOdds : Nat → List Item
  | 0 => [(.aload_n 0, 0, []), (.getfield 28, 4, [6, 3, 5, 0, 0]), (.ifCond .eq 12, 16, []), (.aload_n 0, 0, []), (.getfield 9, 4, [6, 0, 2, 3, 0]), (.iconst 5, 0, []), (.invokevirtual 65, 79, [2, 1, 3, 2]), (.ireturn, 1, [])]
  | 16 => [(.aload_n 0, 0, []), (.iconst 1, 0, []), (.putfield 28, 4, [6, 3, 5, 0, 0]), (.aload_n 0, 0, []), (.getfield 9, 4, [6, 0, 2, 3, 0]), (.invokevirtual 69, 75, [1, 0, 3, 1]), (.aload_n 0, 0, []), (.getfield 9, 4, [6, 0, 2, 3, 0]), (.iconst 0, 0, []), (.bipush 16, 0, []), (.invokevirtual 72, 85, [3, 1, 3, 4]), (.istore_n 1, 0, []), (.iload_n 1, 0, []), (.iconst (-1), 0, []), (.if_icmp .ne 5, 46, []), (.iconst 0, 0, []), (.ireturn, 1, [])]
  | 46 => [(.aload_n 0, 0, []), (.getfield 15, 4, [6, 1, 3, 22, 9]), (.iload_n 1, 0, []), (.putfield 82, 3, [22, 6, 0, 0, 0]), (.aload_n 0, 0, []), (.getfield 9, 4, [6, 0, 2, 3, 0]), (.invokevirtual 79, 82, [1, 1, 3, 1]), (.ireturn, 1, [])]
  | _ => []
abbrev n_HouseReader_takesTopic : Nat := 42
def b_HouseReader_takesTopic : Nat → List Item
  | 0 => [(.aload_n 0, 0, []), (.getfield 15, 4, [6, 1, 3, 22, 9]), (.getfield 85, 3, [22, 0, 2, 23, 0]), (.getfield 89, 9, [23, 3, 0, 0, 0]), (.bipush 6, 0, []), (.if_icmp .lt 13, 25, []), (.aload_n 0, 0, []), (.getfield 9, 4, [6, 0, 2, 3, 0]), (.bipush 6, 0, []), (.invokevirtual 65, 79, [2, 1, 3, 2]), (.ireturn, 1, [])]
  | 25 => [(.aload_n 0, 0, []), (.getfield 9, 4, [6, 0, 2, 3, 0]), (.invokevirtual 69, 75, [1, 0, 3, 1]), (.aload_n 0, 0, []), (.invokevirtual 94, 44, [1, 1, 6, 3]), (.lstore_n 1, 0, []), (.lload_n 1, 0, []), (.lconst 0, 0, []), (.lcmp, 0, []), (.ifCond .eq 14, 54, []), (.aload_n 0, 0, []), (.getfield 9, 4, [6, 0, 2, 3, 0]), (.iconst 3, 0, []), (.invokevirtual 98, 81, [2, 1, 3, 2]), (.ifCond .ne 5, 56, []), (.nop, 54, [])]
  | 54 => [(.iconst 0, 0, []), (.ireturn, 1, [])]
  | 56 => [(.aload_n 0, 0, []), (.getfield 9, 4, [6, 0, 2, 3, 0]), (.iconst 0, 0, []), (.bipush 20, 0, []), (.invokevirtual 72, 85, [3, 1, 3, 4]), (.istore_n 3, 0, []), (.iload_n 3, 0, []), (.iconst (-1), 0, []), (.if_icmp .ne 5, 74, []), (.iconst 0, 0, []), (.ireturn, 1, [])]
  | 74 => [(.aload_n 0, 0, []), (.getfield 15, 4, [6, 1, 3, 22, 9]), (.getfield 85, 3, [22, 0, 2, 23, 0]), (.lload_n 1, 0, []), (.iload_n 3, 0, []), (.invokevirtual 101, 87, [3, 0, 23, 4]), (.aload_n 0, 0, []), (.getfield 9, 4, [6, 0, 2, 3, 0]), (.invokevirtual 79, 82, [1, 1, 3, 1]), (.ireturn, 1, [])]
  | _ => []
abbrev n_HouseReader_takesMonk : Nat := 43
def b_HouseReader_takesMonk : Nat → List Item
  | 0 => [(.aload_n 0, 0, []), (.getfield 15, 4, [6, 1, 3, 22, 9]), (.getfield 105, 3, [22, 1, 2, 27, 0]), (.getfield 109, 6, [27, 8, 0, 0, 0]), (.bipush 7, 0, []), (.if_icmp .lt 13, 25, []), (.aload_n 0, 0, []), (.getfield 9, 4, [6, 0, 2, 3, 0]), (.bipush 6, 0, []), (.invokevirtual 65, 79, [2, 1, 3, 2]), (.ireturn, 1, [])]
  | 25 => [(.aload_n 0, 0, []), (.getfield 9, 4, [6, 0, 2, 3, 0]), (.invokevirtual 69, 75, [1, 0, 3, 1]), (.aload_n 0, 0, []), (.invokevirtual 94, 44, [1, 1, 6, 3]), (.lstore_n 1, 0, []), (.lload_n 1, 0, []), (.lconst 0, 0, []), (.lcmp, 0, []), (.ifCond .eq 14, 54, []), (.aload_n 0, 0, []), (.getfield 9, 4, [6, 0, 2, 3, 0]), (.iconst 5, 0, []), (.invokevirtual 98, 81, [2, 1, 3, 2]), (.ifCond .ne 5, 56, []), (.nop, 54, [])]
  | 54 => [(.iconst 0, 0, []), (.ireturn, 1, [])]
  | 56 => [(.aload_n 0, 0, []), (.getfield 9, 4, [6, 0, 2, 3, 0]), (.iconst 0, 0, []), (.bipush 99, 0, []), (.invokevirtual 72, 85, [3, 1, 3, 4]), (.istore_n 3, 0, []), (.iload_n 3, 0, []), (.iconst (-1), 0, []), (.if_icmp .ne 5, 74, []), (.iconst 0, 0, []), (.ireturn, 1, [])]
  | 74 => [(.iconst 1, 0, []), (.istore 4, 0, []), (.aload_n 0, 0, []), (.getfield 9, 4, [6, 0, 2, 3, 0]), (.getfield 41, 8, [3, 7, 0, 0, 0]), (.bipush 6, 0, []), (.if_icmp .ne 22, 108, []), (.aload_n 0, 0, []), (.getfield 9, 4, [6, 0, 2, 3, 0]), (.invokevirtual 69, 75, [1, 0, 3, 1]), (.aload_n 0, 0, []), (.getfield 9, 4, [6, 0, 2, 3, 0]), (.iconst 0, 0, []), (.bipush 9, 0, []), (.invokevirtual 72, 85, [3, 1, 3, 4]), (.istore 4, 0, []), (.nop, 108, [])]
  | 108 => [(.iload 4, 0, []), (.iconst (-1), 0, []), (.if_icmp .ne 5, 116, []), (.iconst 0, 0, []), (.ireturn, 1, [])]
  | 116 => [(.aload_n 0, 0, []), (.getfield 9, 4, [6, 0, 2, 3, 0]), (.getfield 41, 8, [3, 7, 0, 0, 0]), (.bipush 7, 0, []), (.if_icmp .ne 7, 132, []), (.iconst 1, 0, []), (.goto 4, 133, [])]
  | 132 => [(.iconst 0, 0, []), (.nop, 133, [])]
  | 133 => [(.istore 5, 0, []), (.iload 5, 0, []), (.ifCond .eq 10, 147, []), (.aload_n 0, 0, []), (.getfield 9, 4, [6, 0, 2, 3, 0]), (.invokevirtual 69, 75, [1, 0, 3, 1]), (.nop, 147, [])]
  | 147 => [(.aload_n 0, 0, []), (.getfield 15, 4, [6, 1, 3, 22, 9]), (.getfield 105, 3, [22, 1, 2, 27, 0]), (.lload_n 1, 0, []), (.iload_n 3, 0, []), (.iload 4, 0, []), (.iload 5, 0, []), (.ifCond .ne 7, 167, []), (.iconst 1, 0, []), (.goto 4, 168, [])]
  | 167 => [(.iconst 0, 0, []), (.nop, 168, [])]
  | 168 => [(.invokevirtual 112, 58, [5, 0, 27, 6]), (.aload_n 0, 0, []), (.getfield 9, 4, [6, 0, 2, 3, 0]), (.invokevirtual 79, 82, [1, 1, 3, 1]), (.ireturn, 1, [])]
  | _ => []
abbrev n_HouseReader_takeNewName : Nat := 44
def b_HouseReader_takeNewName : Nat → List Item
  | 0 => [(.aload_n 0, 0, []), (.getfield 9, 4, [6, 0, 2, 3, 0]), (.invokevirtual 115, 80, [1, 1, 3, 1]), (.ifCond .ne 14, 21, []), (.aload_n 0, 0, []), (.getfield 9, 4, [6, 0, 2, 3, 0]), (.iconst 2, 0, []), (.invokevirtual 65, 79, [2, 1, 3, 2]), (.pop, 0, []), (.lconst 0, 0, []), (.lreturn, 0, [])]
  | 21 => [(.aload_n 0, 0, []), (.getfield 9, 4, [6, 0, 2, 3, 0]), (.getfield 118, 8, [3, 9, 1, 0, 0]), (.lstore_n 1, 0, []), (.aload_n 0, 0, []), (.getfield 15, 4, [6, 1, 3, 22, 9]), (.getfield 85, 3, [22, 0, 2, 23, 0]), (.lload_n 1, 0, []), (.invokevirtual 122, 88, [2, 1, 23, 4]), (.iconst (-1), 0, []), (.if_icmp .ne 18, 59, []), (.aload_n 0, 0, []), (.getfield 15, 4, [6, 1, 3, 22, 9]), (.getfield 105, 3, [22, 1, 2, 27, 0]), (.lload_n 1, 0, []), (.invokevirtual 126, 59, [2, 1, 27, 4]), (.iconst (-1), 0, []), (.if_icmp .eq 14, 70, []), (.nop, 59, [])]
  | 59 => [(.aload_n 0, 0, []), (.getfield 9, 4, [6, 0, 2, 3, 0]), (.iconst 3, 0, []), (.invokevirtual 65, 79, [2, 1, 3, 2]), (.pop, 0, []), (.lconst 0, 0, []), (.lreturn, 0, [])]
  | 70 => [(.aload_n 0, 0, []), (.getfield 9, 4, [6, 0, 2, 3, 0]), (.invokevirtual 69, 75, [1, 0, 3, 1]), (.lload_n 1, 0, []), (.lreturn, 0, [])]
  | _ => []
abbrev n_HouseReader_takesFollows : Nat := 45
def b_HouseReader_takesFollows : Nat → List Item
  | 0 => [(.aload_n 0, 0, []), (.getfield 9, 4, [6, 0, 2, 3, 0]), (.invokevirtual 69, 75, [1, 0, 3, 1]), (.aload_n 0, 0, []), (.getfield 15, 4, [6, 1, 3, 22, 9]), (.getfield 85, 3, [22, 0, 2, 23, 0]), (.aload_n 0, 0, []), (.getfield 9, 4, [6, 0, 2, 3, 0]), (.getfield 118, 8, [3, 9, 1, 0, 0]), (.invokevirtual 122, 88, [2, 1, 23, 4]), (.istore_n 1, 0, []), (.aload_n 0, 0, []), (.getfield 9, 4, [6, 0, 2, 3, 0]), (.iload_n 1, 0, []), (.invokevirtual 127, 83, [2, 1, 3, 2]), (.ifCond .ne 5, 38, []), (.iconst 0, 0, []), (.ireturn, 1, [])]
  | 38 => [(.aload_n 0, 0, []), (.getfield 15, 4, [6, 1, 3, 22, 9]), (.getfield 85, 3, [22, 0, 2, 23, 0]), (.aload_n 0, 0, []), (.getfield 9, 4, [6, 0, 2, 3, 0]), (.getfield 118, 8, [3, 9, 1, 0, 0]), (.invokevirtual 122, 88, [2, 1, 23, 4]), (.istore_n 2, 0, []), (.aload_n 0, 0, []), (.getfield 9, 4, [6, 0, 2, 3, 0]), (.iload_n 2, 0, []), (.invokevirtual 127, 83, [2, 1, 3, 2]), (.ifCond .ne 5, 69, []), (.iconst 0, 0, []), (.ireturn, 1, [])]
  | 69 => [(.aload_n 0, 0, []), (.getfield 15, 4, [6, 1, 3, 22, 9]), (.getfield 85, 3, [22, 0, 2, 23, 0]), (.getfield 130, 9, [23, 2, 2, 26, 0]), (.iload_n 1, 0, []), (.aload_n 0, 0, []), (.getfield 15, 4, [6, 1, 3, 22, 9]), (.getfield 85, 3, [22, 0, 2, 23, 0]), (.getfield 130, 9, [23, 2, 2, 26, 0]), (.iload_n 1, 0, []), (.iaload, 0, []), (.iload_n 2, 0, []), (.iconst 1, 0, []), (.invokestatic 134, 174, [3, 1, 0, 3]), (.iastore, 0, []), (.aload_n 0, 0, []), (.getfield 9, 4, [6, 0, 2, 3, 0]), (.invokevirtual 79, 82, [1, 1, 3, 1]), (.ireturn, 1, [])]
  | _ => []
abbrev n_HouseReader_takesRoster : Nat := 46
def b_HouseReader_takesRoster : Nat → List Item
  | 0 => [(.aload_n 0, 0, []), (.getfield 15, 4, [6, 1, 3, 22, 9]), (.getfield 138, 3, [22, 4, 0, 0, 0]), (.bipush 12, 0, []), (.if_icmp .lt 13, 22, []), (.aload_n 0, 0, []), (.getfield 9, 4, [6, 0, 2, 3, 0]), (.bipush 6, 0, []), (.invokevirtual 65, 79, [2, 1, 3, 2]), (.ireturn, 1, [])]
  | 22 => [(.aload_n 0, 0, []), (.getfield 9, 4, [6, 0, 2, 3, 0]), (.invokevirtual 69, 75, [1, 0, 3, 1]), (.aload_n 0, 0, []), (.getfield 15, 4, [6, 1, 3, 22, 9]), (.getfield 105, 3, [22, 1, 2, 27, 0]), (.aload_n 0, 0, []), (.getfield 9, 4, [6, 0, 2, 3, 0]), (.getfield 118, 8, [3, 9, 1, 0, 0]), (.invokevirtual 126, 59, [2, 1, 27, 4]), (.istore_n 1, 0, []), (.aload_n 0, 0, []), (.getfield 9, 4, [6, 0, 2, 3, 0]), (.iload_n 1, 0, []), (.invokevirtual 127, 83, [2, 1, 3, 2]), (.ifCond .ne 5, 60, []), (.iconst 0, 0, []), (.ireturn, 1, [])]
  | 60 => [(.aload_n 0, 0, []), (.getfield 15, 4, [6, 1, 3, 22, 9]), (.getfield 85, 3, [22, 0, 2, 23, 0]), (.aload_n 0, 0, []), (.getfield 9, 4, [6, 0, 2, 3, 0]), (.getfield 118, 8, [3, 9, 1, 0, 0]), (.invokevirtual 122, 88, [2, 1, 23, 4]), (.istore_n 2, 0, []), (.aload_n 0, 0, []), (.getfield 9, 4, [6, 0, 2, 3, 0]), (.iload_n 2, 0, []), (.invokevirtual 127, 83, [2, 1, 3, 2]), (.ifCond .ne 5, 91, []), (.iconst 0, 0, []), (.ireturn, 1, [])]
  | 91 => [(.aload_n 0, 0, []), (.getfield 15, 4, [6, 1, 3, 22, 9]), (.iload_n 1, 0, []), (.iload_n 2, 0, []), (.invokevirtual 141, 25, [3, 0, 22, 3]), (.aload_n 0, 0, []), (.getfield 9, 4, [6, 0, 2, 3, 0]), (.invokevirtual 79, 82, [1, 1, 3, 1]), (.ireturn, 1, [])]
  | _ => []
abbrev n_HouseReader_takesHears : Nat := 47
def b_HouseReader_takesHears : Nat → List Item
  | 0 => [(.aload_n 0, 0, []), (.getfield 9, 4, [6, 0, 2, 3, 0]), (.invokevirtual 69, 75, [1, 0, 3, 1]), (.aload_n 0, 0, []), (.getfield 15, 4, [6, 1, 3, 22, 9]), (.getfield 105, 3, [22, 1, 2, 27, 0]), (.aload_n 0, 0, []), (.getfield 9, 4, [6, 0, 2, 3, 0]), (.getfield 118, 8, [3, 9, 1, 0, 0]), (.invokevirtual 126, 59, [2, 1, 27, 4]), (.istore_n 1, 0, []), (.aload_n 0, 0, []), (.getfield 9, 4, [6, 0, 2, 3, 0]), (.iload_n 1, 0, []), (.invokevirtual 127, 83, [2, 1, 3, 2]), (.ifCond .ne 5, 38, []), (.iconst 0, 0, []), (.ireturn, 1, [])]
  | 38 => [(.aload_n 0, 0, []), (.getfield 15, 4, [6, 1, 3, 22, 9]), (.getfield 105, 3, [22, 1, 2, 27, 0]), (.aload_n 0, 0, []), (.getfield 9, 4, [6, 0, 2, 3, 0]), (.getfield 118, 8, [3, 9, 1, 0, 0]), (.invokevirtual 126, 59, [2, 1, 27, 4]), (.istore_n 2, 0, []), (.iload_n 2, 0, []), (.iload_n 1, 0, []), (.if_icmp .ne 12, 70, []), (.aload_n 0, 0, []), (.getfield 9, 4, [6, 0, 2, 3, 0]), (.iconst 5, 0, []), (.invokevirtual 65, 79, [2, 1, 3, 2]), (.ireturn, 1, [])]
  | 70 => [(.aload_n 0, 0, []), (.getfield 9, 4, [6, 0, 2, 3, 0]), (.iload_n 2, 0, []), (.invokevirtual 127, 83, [2, 1, 3, 2]), (.ifCond .ne 5, 83, []), (.iconst 0, 0, []), (.ireturn, 1, [])]
  | 83 => [(.aload_n 0, 0, []), (.getfield 15, 4, [6, 1, 3, 22, 9]), (.getfield 105, 3, [22, 1, 2, 27, 0]), (.iload_n 1, 0, []), (.iload_n 2, 0, []), (.iconst 1, 0, []), (.invokevirtual 145, 62, [4, 0, 27, 4]), (.aload_n 0, 0, []), (.getfield 9, 4, [6, 0, 2, 3, 0]), (.invokevirtual 79, 82, [1, 1, 3, 1]), (.ireturn, 1, [])]
  | _ => []
abbrev n_Life_run : Nat := 48
def b_Life_run : Nat → List Item
  | 0 => [(.aload_n 0, 0, []), (.aload_n 1, 0, []), (.putfield 15, 5, [19, 1, 3, 22, 9]), (.aload_n 0, 0, []), (.aload_n 2, 0, []), (.putfield 19, 5, [19, 2, 3, 37, 5]), (.aload_n 0, 0, []), (.iload_n 3, 0, []), (.putfield 23, 5, [19, 3, 0, 0, 0]), (.aload_n 0, 0, []), (.iconst 0, 0, []), (.putfield 27, 5, [19, 4, 0, 0, 0]), (.aload_n 0, 0, []), (.iconst 0, 0, []), (.putfield 30, 5, [19, 5, 0, 0, 0]), (.aload_n 0, 0, []), (.iconst 0, 0, []), (.putfield 33, 5, [19, 9, 5, 0, 0]), (.aload_n 0, 0, []), (.iconst 1, 0, []), (.putfield 37, 5, [19, 10, 5, 0, 0]), (.aload_n 0, 0, []), (.aload_n 0, 0, []), (.getfield 15, 5, [19, 1, 3, 22, 9]), (.getfield 40, 3, [22, 7, 0, 0, 0]), (.ineg, 0, []), (.putfield 45, 5, [19, 6, 0, 0, 0]), (.aload_n 0, 0, []), (.aload_n 0, 0, []), (.getfield 15, 5, [19, 1, 3, 22, 9]), (.getfield 46, 3, [22, 8, 0, 0, 0]), (.ineg, 0, []), (.putfield 49, 5, [19, 7, 0, 0, 0]), (.aload_n 0, 0, []), (.aload_n 0, 0, []), (.getfield 15, 5, [19, 1, 3, 22, 9]), (.getfield 50, 3, [22, 9, 0, 0, 0]), (.ineg, 0, []), (.putfield 53, 5, [19, 8, 0, 0, 0]), (.iconst 0, 0, []), (.istore 4, 0, []), (.iconst 0, 0, []), (.istore 5, 0, []), (.nop, 77, [])]
  | 77 => [(.iload 5, 0, []), (.sipush 10000, 0, []), (.if_icmp .ge 96, 178, []), (.iload 4, 0, []), (.iconst 0, 0, []), (.aload_n 0, 0, []), (.getfield 19, 5, [19, 2, 3, 37, 5]), (.getfield 54, 1, [37, 6, 0, 0, 0]), (.iconst 1, 0, []), (.isub, 0, []), (.invokestatic 59, 171, [3, 1, 0, 3]), (.ifCond .eq 78, 178, []), (.aload_n 0, 0, []), (.getfield 33, 5, [19, 9, 5, 0, 0]), (.ifCond .ne 71, 178, []), (.aload_n 0, 0, []), (.getfield 19, 5, [19, 2, 3, 37, 5]), (.getfield 63, 1, [37, 0, 2, 38, 0]), (.iload 4, 0, []), (.iaload, 0, []), (.bipush 21, 0, []), (.if_icmp .ne 14, 136, []), (.aload_n 0, 0, []), (.iload 4, 0, []), (.invokevirtual 66, 49, [2, 1, 19, 3]), (.istore 4, 0, []), (.goto 39, 172, [])]
  | 136 => [(.aload_n 0, 0, []), (.getfield 27, 5, [19, 4, 0, 0, 0]), (.sipush 300, 0, []), (.if_icmp .ge 24, 167, []), (.aload_n 0, 0, []), (.dup, 0, []), (.getfield 27, 5, [19, 4, 0, 0, 0]), (.iconst 1, 0, []), (.iadd, 0, []), (.putfield 27, 5, [19, 4, 0, 0, 0]), (.aload_n 0, 0, []), (.iload 4, 0, []), (.invokevirtual 70, 50, [2, 1, 19, 4]), (.istore 4, 0, []), (.goto 8, 172, [])]
  | 167 => [(.aload_n 0, 0, []), (.iconst 1, 0, []), (.putfield 33, 5, [19, 9, 5, 0, 0]), (.nop, 172, [])]
  | 172 => [(.iinc 5 1, 0, []), (.goto (-98), 77, [])]
  | 178 => [(.aload_n 0, 0, []), (.dup, 0, []), (.getfield 45, 5, [19, 6, 0, 0, 0]), (.aload_n 0, 0, []), (.getfield 15, 5, [19, 1, 3, 22, 9]), (.getfield 40, 3, [22, 7, 0, 0, 0]), (.iadd, 0, []), (.putfield 45, 5, [19, 6, 0, 0, 0]), (.aload_n 0, 0, []), (.dup, 0, []), (.getfield 49, 5, [19, 7, 0, 0, 0]), (.aload_n 0, 0, []), (.getfield 15, 5, [19, 1, 3, 22, 9]), (.getfield 46, 3, [22, 8, 0, 0, 0]), (.iadd, 0, []), (.putfield 49, 5, [19, 7, 0, 0, 0]), (.aload_n 0, 0, []), (.dup, 0, []), (.getfield 53, 5, [19, 8, 0, 0, 0]), (.aload_n 0, 0, []), (.getfield 15, 5, [19, 1, 3, 22, 9]), (.getfield 50, 3, [22, 9, 0, 0, 0]), (.iadd, 0, []), (.putfield 53, 5, [19, 8, 0, 0, 0]), (.return_, 0, [])]
  | _ => []
abbrev n_Life_behindEnd : Nat := 49
def b_Life_behindEnd : Nat → List Item
  | 0 => [(.aload_n 0, 0, []), (.getfield 19, 5, [19, 2, 3, 37, 5]), (.getfield 73, 1, [37, 5, 2, 43, 0]), (.iload_n 1, 0, []), (.iaload, 0, []), (.istore_n 2, 0, []), (.iload_n 2, 0, []), (.ifCond .lt 24, 35, []), (.aload_n 0, 0, []), (.getfield 19, 5, [19, 2, 3, 37, 5]), (.getfield 63, 1, [37, 0, 2, 38, 0]), (.iload_n 2, 0, []), (.iaload, 0, []), (.bipush 20, 0, []), (.if_icmp .ne 10, 35, []), (.iload_n 2, 0, []), (.iconst 1, 0, []), (.iadd, 0, []), (.iload_n 1, 0, []), (.if_icmp .ne 7, 39, []), (.nop, 35, [])]
  | 35 => [(.iload_n 1, 0, []), (.iconst 1, 0, []), (.iadd, 0, []), (.ireturn, 0, [])]
  | 39 => [(.aload_n 0, 0, []), (.getfield 9, 5, [19, 0, 2, 20, 0]), (.iload_n 2, 0, []), (.dup2, 0, []), (.iaload, 0, []), (.iconst 1, 0, []), (.isub, 0, []), (.iastore, 0, []), (.aload_n 0, 0, []), (.getfield 9, 5, [19, 0, 2, 20, 0]), (.iload_n 2, 0, []), (.iaload, 0, []), (.ifCond .le 9, 64, []), (.iload_n 2, 0, []), (.iconst 1, 0, []), (.iadd, 0, []), (.goto 6, 67, [])]
  | 64 => [(.iload_n 1, 0, []), (.iconst 1, 0, []), (.iadd, 0, []), (.nop, 67, [])]
  | 67 => [(.ireturn, 0, [])]
  | _ => []
abbrev n_Life_behindStep : Nat := 50
def b_Life_behindStep : Nat → List Item
  | 0 => [(.aload_n 0, 0, []), (.getfield 19, 5, [19, 2, 3, 37, 5]), (.getfield 76, 1, [37, 1, 2, 39, 0]), (.iload_n 1, 0, []), (.iaload, 0, []), (.istore_n 2, 0, []), (.aload_n 0, 0, []), (.getfield 19, 5, [19, 2, 3, 37, 5]), (.getfield 79, 1, [37, 2, 2, 40, 0]), (.iload_n 1, 0, []), (.iaload, 0, []), (.istore_n 3, 0, []), (.aload_n 0, 0, []), (.getfield 19, 5, [19, 2, 3, 37, 5]), (.getfield 63, 1, [37, 0, 2, 38, 0]), (.iload_n 1, 0, []), (.iaload, 0, []), (.tableswitch 264 11 20 #[55, 110, 141, 171, 209, 238, 264, 264, 264, 228], 293, [84, 139, 170, 200, 238, 267, 293, 293, 293, 257])]
  | 84 => [(.aload_n 0, 0, []), (.aload_n 0, 0, []), (.getfield 15, 5, [19, 1, 3, 22, 9]), (.getfield 40, 3, [22, 7, 0, 0, 0]), (.iload_n 3, 0, []), (.iadd, 0, []), (.sipush 9999, 0, []), (.if_icmp .le 7, 104, []), (.iconst 1, 0, []), (.goto 4, 105, [])]
  | 104 => [(.iconst 0, 0, []), (.nop, 105, [])]
  | 105 => [(.invokevirtual 82, 51, [2, 0, 19, 2]), (.aload_n 0, 0, []), (.getfield 15, 5, [19, 1, 3, 22, 9]), (.aload_n 0, 0, []), (.getfield 15, 5, [19, 1, 3, 22, 9]), (.getfield 40, 3, [22, 7, 0, 0, 0]), (.iload_n 3, 0, []), (.iadd, 0, []), (.sipush 9999, 0, []), (.if_icmp .le 7, 131, []), (.iconst 0, 0, []), (.goto 4, 132, [])]
  | 131 => [(.iload_n 3, 0, []), (.nop, 132, [])]
  | 132 => [(.invokevirtual 86, 34, [2, 1, 22, 4]), (.pop, 0, []), (.goto 165, 301, [])]
  | 139 => [(.aload_n 0, 0, []), (.aload_n 0, 0, []), (.getfield 15, 5, [19, 1, 3, 22, 9]), (.getfield 89, 3, [22, 10, 0, 0, 0]), (.iload_n 2, 0, []), (.if_icmp .ne 7, 155, []), (.iconst 1, 0, []), (.goto 4, 156, [])]
  | 155 => [(.iconst 0, 0, []), (.nop, 156, [])]
  | 156 => [(.invokevirtual 82, 51, [2, 0, 19, 2]), (.aload_n 0, 0, []), (.getfield 15, 5, [19, 1, 3, 22, 9]), (.iload_n 2, 0, []), (.putfield 89, 3, [22, 10, 0, 0, 0]), (.goto 134, 301, [])]
  | 170 => [(.aload_n 0, 0, []), (.aload_n 0, 0, []), (.getfield 15, 5, [19, 1, 3, 22, 9]), (.getfield 92, 3, [22, 1, 2, 27, 0]), (.iload_n 2, 0, []), (.invokevirtual 96, 60, [2, 1, 27, 2]), (.invokevirtual 82, 51, [2, 0, 19, 2]), (.aload_n 0, 0, []), (.getfield 15, 5, [19, 1, 3, 22, 9]), (.getfield 92, 3, [22, 1, 2, 27, 0]), (.iload_n 2, 0, []), (.iconst 1, 0, []), (.invokevirtual 102, 61, [3, 0, 27, 3]), (.goto 104, 301, [])]
  | 200 => [(.aload_n 0, 0, []), (.aload_n 0, 0, []), (.getfield 15, 5, [19, 1, 3, 22, 9]), (.getfield 92, 3, [22, 1, 2, 27, 0]), (.iload_n 2, 0, []), (.invokevirtual 96, 60, [2, 1, 27, 2]), (.ifCond .ne 7, 219, []), (.iconst 1, 0, []), (.goto 4, 220, [])]
  | 219 => [(.iconst 0, 0, []), (.nop, 220, [])]
  | 220 => [(.invokevirtual 82, 51, [2, 0, 19, 2]), (.aload_n 0, 0, []), (.getfield 15, 5, [19, 1, 3, 22, 9]), (.getfield 92, 3, [22, 1, 2, 27, 0]), (.iload_n 2, 0, []), (.iconst 0, 0, []), (.invokevirtual 102, 61, [3, 0, 27, 3]), (.goto 66, 301, [])]
  | 238 => [(.aload_n 0, 0, []), (.aload_n 0, 0, []), (.invokevirtual 106, 52, [1, 1, 19, 3]), (.ifCond .ne 7, 250, []), (.iconst 1, 0, []), (.goto 4, 251, [])]
  | 250 => [(.iconst 0, 0, []), (.nop, 251, [])]
  | 251 => [(.invokevirtual 82, 51, [2, 0, 19, 2]), (.goto 47, 301, [])]
  | 257 => [(.aload_n 0, 0, []), (.getfield 9, 5, [19, 0, 2, 20, 0]), (.iload_n 1, 0, []), (.iload_n 3, 0, []), (.iastore, 0, []), (.goto 37, 301, [])]
  | 267 => [(.aload_n 0, 0, []), (.iload_n 1, 0, []), (.invokevirtual 110, 54, [2, 1, 19, 3]), (.ifCond .eq 9, 281, []), (.iload_n 1, 0, []), (.iconst 1, 0, []), (.iadd, 0, []), (.goto 14, 292, [])]
  | 281 => [(.aload_n 0, 0, []), (.getfield 19, 5, [19, 2, 3, 37, 5]), (.getfield 73, 1, [37, 5, 2, 43, 0]), (.iload_n 1, 0, []), (.iaload, 0, []), (.iconst 1, 0, []), (.iadd, 0, []), (.nop, 292, [])]
  | 292 => [(.ireturn, 0, [])]
  | 293 => [(.aload_n 0, 0, []), (.getfield 19, 5, [19, 2, 3, 37, 5]), (.getfield 54, 1, [37, 6, 0, 0, 0]), (.ireturn, 0, [])]
  | 301 => [(.iload_n 1, 0, []), (.iconst 1, 0, []), (.iadd, 0, []), (.ireturn, 0, [])]
  | _ => []
abbrev n_Life_miss : Nat := 51
def b_Life_miss : Nat → List Item
  | 0 => [(.aload_n 0, 0, []), (.dup, 0, []), (.getfield 30, 5, [19, 5, 0, 0, 0]), (.iload_n 1, 0, []), (.invokestatic 113, 172, [1, 1, 0, 1]), (.iadd, 0, []), (.putfield 30, 5, [19, 5, 0, 0, 0]), (.return_, 0, [])]
  | _ => []
abbrev n_Life_coughed : Nat := 52
def b_Life_coughed : Nat → List Item
  | 0 => [(.aload_n 0, 0, []), (.getfield 15, 5, [19, 1, 3, 22, 9]), (.getfield 92, 3, [22, 1, 2, 27, 0]), (.getfield 117, 6, [27, 8, 0, 0, 0]), (.ifCond .gt 5, 15, []), (.iconst 0, 0, []), (.ireturn, 1, [])]
  | 15 => [(.aload_n 0, 0, []), (.aload_n 0, 0, []), (.getfield 15, 5, [19, 1, 3, 22, 9]), (.getfield 92, 3, [22, 1, 2, 27, 0]), (.getfield 117, 6, [27, 8, 0, 0, 0]), (.invokevirtual 120, 53, [2, 1, 19, 2]), (.istore_n 1, 0, []), (.aload_n 0, 0, []), (.bipush 8, 0, []), (.invokevirtual 120, 53, [2, 1, 19, 2]), (.istore_n 2, 0, []), (.aload_n 0, 0, []), (.getfield 15, 5, [19, 1, 3, 22, 9]), (.getfield 92, 3, [22, 1, 2, 27, 0]), (.getfield 123, 6, [27, 1, 2, 29, 0]), (.iload_n 1, 0, []), (.iconst 0, 0, []), (.aload_n 0, 0, []), (.getfield 15, 5, [19, 1, 3, 22, 9]), (.getfield 92, 3, [22, 1, 2, 27, 0]), (.getfield 123, 6, [27, 1, 2, 29, 0]), (.iload_n 1, 0, []), (.iaload, 0, []), (.iload_n 2, 0, []), (.isub, 0, []), (.invokestatic 126, 334, [2, 1, 0, 2]), (.iastore, 0, []), (.iconst 1, 0, []), (.ireturn, 1, [])]
  | _ => []
abbrev n_Life_draw : Nat := 53
def b_Life_draw : Nat → List Item
  | 0 => [(.aload_n 0, 0, []), (.aload_n 0, 0, []), (.getfield 23, 5, [19, 3, 0, 0, 0]), (.sipush 3119, 0, []), (.imul, 0, []), (.sipush 11329, 0, []), (.iadd, 0, []), (.ldc 132, 65536, []), (.irem, 0, []), (.putfield 23, 5, [19, 3, 0, 0, 0]), (.iload_n 1, 0, []), (.ifCond .le 15, 35, []), (.aload_n 0, 0, []), (.getfield 23, 5, [19, 3, 0, 0, 0]), (.bipush 8, 0, []), (.idiv, 0, []), (.iload_n 1, 0, []), (.irem, 0, []), (.goto 4, 36, [])]
  | 35 => [(.iconst 0, 0, []), (.nop, 36, [])]
  | 36 => [(.ireturn, 0, [])]
  | _ => []
abbrev n_Life_holds : Nat := 54
def b_Life_holds : Nat → List Item
  | 0 => [(.aload_n 0, 0, []), (.getfield 19, 5, [19, 2, 3, 37, 5]), (.getfield 76, 1, [37, 1, 2, 39, 0]), (.iload_n 1, 0, []), (.iaload, 0, []), (.istore_n 2, 0, []), (.aload_n 0, 0, []), (.getfield 19, 5, [19, 2, 3, 37, 5]), (.getfield 133, 1, [37, 3, 2, 41, 0]), (.iload_n 1, 0, []), (.iaload, 0, []), (.lookupswitch 101 #[(5, 67), (17, 33), (18, 50)], 120, [86, 52, 69])]
  | 52 => [(.aload_n 0, 0, []), (.getfield 15, 5, [19, 1, 3, 22, 9]), (.getfield 89, 3, [22, 10, 0, 0, 0]), (.iload_n 2, 0, []), (.if_icmp .ne 7, 67, []), (.iconst 1, 0, []), (.goto 4, 68, [])]
  | 67 => [(.iconst 0, 0, []), (.nop, 68, [])]
  | 68 => [(.ireturn, 1, [])]
  | 69 => [(.aload_n 0, 0, []), (.getfield 15, 5, [19, 1, 3, 22, 9]), (.getfield 136, 3, [22, 11, 0, 0, 0]), (.iload_n 2, 0, []), (.if_icmp .ne 7, 84, []), (.iconst 1, 0, []), (.goto 4, 85, [])]
  | 84 => [(.iconst 0, 0, []), (.nop, 85, [])]
  | 85 => [(.ireturn, 1, [])]
  | 86 => [(.aload_n 0, 0, []), (.getfield 15, 5, [19, 1, 3, 22, 9]), (.getfield 92, 3, [22, 1, 2, 27, 0]), (.getfield 123, 6, [27, 1, 2, 29, 0]), (.iload_n 2, 0, []), (.iaload, 0, []), (.aload_n 0, 0, []), (.getfield 19, 5, [19, 2, 3, 37, 5]), (.getfield 139, 1, [37, 4, 2, 42, 0]), (.iload_n 1, 0, []), (.iaload, 0, []), (.aload_n 0, 0, []), (.getfield 19, 5, [19, 2, 3, 37, 5]), (.getfield 79, 1, [37, 2, 2, 40, 0]), (.iload_n 1, 0, []), (.iaload, 0, []), (.invokestatic 142, 55, [3, 1, 0, 3]), (.ireturn, 1, [])]
  | 120 => [(.aload_n 0, 0, []), (.getfield 15, 5, [19, 1, 3, 22, 9]), (.getfield 46, 3, [22, 8, 0, 0, 0]), (.aload_n 0, 0, []), (.getfield 19, 5, [19, 2, 3, 37, 5]), (.getfield 139, 1, [37, 4, 2, 42, 0]), (.iload_n 1, 0, []), (.iaload, 0, []), (.aload_n 0, 0, []), (.getfield 19, 5, [19, 2, 3, 37, 5]), (.getfield 79, 1, [37, 2, 2, 40, 0]), (.iload_n 1, 0, []), (.iaload, 0, []), (.invokestatic 142, 55, [3, 1, 0, 3]), (.ireturn, 1, [])]
  | _ => []
abbrev n_Life_compares : Nat := 55
def b_Life_compares : Nat → List Item
  | 0 => [(.iload_n 1, 0, []), (.lookupswitch 49 #[(60, 27), (62, 38)], 50, [28, 39])]
  | 28 => [(.iload_n 0, 0, []), (.iload_n 2, 0, []), (.if_icmp .ge 7, 37, []), (.iconst 1, 0, []), (.goto 4, 38, [])]
  | 37 => [(.iconst 0, 0, []), (.nop, 38, [])]
  | 38 => [(.ireturn, 1, [])]
  | 39 => [(.iload_n 0, 0, []), (.iload_n 2, 0, []), (.if_icmp .le 7, 48, []), (.iconst 1, 0, []), (.goto 4, 49, [])]
  | 48 => [(.iconst 0, 0, []), (.nop, 49, [])]
  | 49 => [(.ireturn, 1, [])]
  | 50 => [(.iload_n 0, 0, []), (.iload_n 2, 0, []), (.if_icmp .ne 7, 59, []), (.iconst 1, 0, []), (.goto 4, 60, [])]
  | 59 => [(.iconst 0, 0, []), (.nop, 60, [])]
  | 60 => [(.ireturn, 1, [])]
  | _ => []
abbrev n_Monks_clear : Nat := 56
def b_Monks_clear : Nat → List Item
  | 0 => [(.aload_n 0, 0, []), (.iconst 0, 0, []), (.putfield 34, 6, [27, 8, 0, 0, 0]), (.aload_n 0, 0, []), (.iconst 0, 0, []), (.putfield 38, 6, [27, 7, 0, 0, 0]), (.return_, 0, [])]
  | _ => []
abbrev n_Monks_copy : Nat := 57
def b_Monks_copy : Nat → List Item
  | 0 => [(.aload_n 1, 0, []), (.getfield 9, 6, [27, 0, 2, 28, 0]), (.iconst 0, 0, []), (.aload_n 0, 0, []), (.getfield 9, 6, [27, 0, 2, 28, 0]), (.iconst 0, 0, []), (.bipush 7, 0, []), (.invokestatic 41, 0, [1000]), (.aload_n 1, 0, []), (.getfield 15, 6, [27, 1, 2, 29, 0]), (.iconst 0, 0, []), (.aload_n 0, 0, []), (.getfield 15, 6, [27, 1, 2, 29, 0]), (.iconst 0, 0, []), (.bipush 7, 0, []), (.invokestatic 41, 0, [1000]), (.aload_n 1, 0, []), (.getfield 19, 6, [27, 2, 2, 30, 0]), (.iconst 0, 0, []), (.aload_n 0, 0, []), (.getfield 19, 6, [27, 2, 2, 30, 0]), (.iconst 0, 0, []), (.bipush 7, 0, []), (.invokestatic 41, 0, [1000]), (.aload_n 1, 0, []), (.getfield 22, 6, [27, 3, 2, 31, 0]), (.iconst 0, 0, []), (.aload_n 0, 0, []), (.getfield 22, 6, [27, 3, 2, 31, 0]), (.iconst 0, 0, []), (.bipush 7, 0, []), (.invokestatic 41, 0, [1000]), (.aload_n 1, 0, []), (.getfield 25, 6, [27, 4, 2, 32, 0]), (.iconst 0, 0, []), (.aload_n 0, 0, []), (.getfield 25, 6, [27, 4, 2, 32, 0]), (.iconst 0, 0, []), (.bipush 7, 0, []), (.invokestatic 41, 0, [1000]), (.aload_n 1, 0, []), (.getfield 28, 6, [27, 5, 2, 33, 0]), (.iconst 0, 0, []), (.aload_n 0, 0, []), (.getfield 28, 6, [27, 5, 2, 33, 0]), (.iconst 0, 0, []), (.bipush 7, 0, []), (.invokestatic 41, 0, [1000]), (.aload_n 1, 0, []), (.getfield 31, 6, [27, 6, 2, 34, 0]), (.iconst 0, 0, []), (.aload_n 0, 0, []), (.getfield 31, 6, [27, 6, 2, 34, 0]), (.iconst 0, 0, []), (.bipush 7, 0, []), (.invokestatic 41, 0, [1000]), (.aload_n 0, 0, []), (.aload_n 1, 0, []), (.getfield 38, 6, [27, 7, 0, 0, 0]), (.putfield 38, 6, [27, 7, 0, 0, 0]), (.aload_n 0, 0, []), (.aload_n 1, 0, []), (.getfield 34, 6, [27, 8, 0, 0, 0]), (.putfield 34, 6, [27, 8, 0, 0, 0]), (.return_, 0, [])]
  | _ => []
abbrev n_Monks_add : Nat := 58
def b_Monks_add : Nat → List Item
  | 0 => [(.aload_n 0, 0, []), (.getfield 34, 6, [27, 8, 0, 0, 0]), (.bipush 7, 0, []), (.if_icmp .lt 4, 10, []), (.return_, 0, [])]
  | 10 => [(.aload_n 0, 0, []), (.getfield 9, 6, [27, 0, 2, 28, 0]), (.aload_n 0, 0, []), (.getfield 34, 6, [27, 8, 0, 0, 0]), (.lload_n 1, 0, []), (.lastore, 0, []), (.aload_n 0, 0, []), (.getfield 15, 6, [27, 1, 2, 29, 0]), (.aload_n 0, 0, []), (.getfield 34, 6, [27, 8, 0, 0, 0]), (.iload_n 3, 0, []), (.iastore, 0, []), (.aload_n 0, 0, []), (.getfield 19, 6, [27, 2, 2, 30, 0]), (.aload_n 0, 0, []), (.getfield 34, 6, [27, 8, 0, 0, 0]), (.iload_n 3, 0, []), (.iastore, 0, []), (.aload_n 0, 0, []), (.getfield 22, 6, [27, 3, 2, 31, 0]), (.aload_n 0, 0, []), (.getfield 34, 6, [27, 8, 0, 0, 0]), (.iload 4, 0, []), (.iastore, 0, []), (.aload_n 0, 0, []), (.getfield 25, 6, [27, 4, 2, 32, 0]), (.aload_n 0, 0, []), (.getfield 34, 6, [27, 8, 0, 0, 0]), (.iconst 0, 0, []), (.iastore, 0, []), (.aload_n 0, 0, []), (.getfield 28, 6, [27, 5, 2, 33, 0]), (.aload_n 0, 0, []), (.getfield 34, 6, [27, 8, 0, 0, 0]), (.iconst 0, 0, []), (.iastore, 0, []), (.aload_n 0, 0, []), (.getfield 31, 6, [27, 6, 2, 34, 0]), (.aload_n 0, 0, []), (.getfield 34, 6, [27, 8, 0, 0, 0]), (.iconst 0, 0, []), (.iastore, 0, []), (.aload_n 0, 0, []), (.aload_n 0, 0, []), (.getfield 34, 6, [27, 8, 0, 0, 0]), (.iload 5, 0, []), (.invokevirtual 47, 61, [3, 0, 27, 3]), (.aload_n 0, 0, []), (.dup, 0, []), (.getfield 34, 6, [27, 8, 0, 0, 0]), (.iconst 1, 0, []), (.iadd, 0, []), (.putfield 34, 6, [27, 8, 0, 0, 0]), (.return_, 0, [])]
  | _ => []
abbrev n_Monks_find : Nat := 59
def b_Monks_find : Nat → List Item
  | 0 => [(.iconst 0, 0, []), (.istore_n 3, 0, []), (.nop, 2, [])]
  | 2 => [(.iload_n 3, 0, []), (.aload_n 0, 0, []), (.getfield 34, 6, [27, 8, 0, 0, 0]), (.if_icmp .ge 22, 29, []), (.aload_n 0, 0, []), (.getfield 9, 6, [27, 0, 2, 28, 0]), (.iload_n 3, 0, []), (.laload, 0, []), (.lload_n 1, 0, []), (.lcmp, 0, []), (.ifCond .ne 5, 23, []), (.iload_n 3, 0, []), (.ireturn, 0, [])]
  | 23 => [(.iinc 3 1, 0, []), (.goto (-24), 2, [])]
  | 29 => [(.iconst (-1), 0, []), (.ireturn, 0, [])]
  | _ => []
abbrev n_Monks_isAwake : Nat := 60
def b_Monks_isAwake : Nat → List Item
  | 0 => [(.aload_n 0, 0, []), (.getfield 38, 6, [27, 7, 0, 0, 0]), (.iload_n 1, 0, []), (.invokestatic 51, 173, [2, 1, 0, 2]), (.ireturn, 1, [])]
  | _ => []
abbrev n_Monks_rouse : Nat := 61
def b_Monks_rouse : Nat → List Item
  | 0 => [(.aload_n 0, 0, []), (.aload_n 0, 0, []), (.getfield 38, 6, [27, 7, 0, 0, 0]), (.iload_n 1, 0, []), (.iload_n 2, 0, []), (.invokestatic 55, 174, [3, 1, 0, 3]), (.putfield 38, 6, [27, 7, 0, 0, 0]), (.return_, 0, [])]
  | _ => []
abbrev n_Monks_lend : Nat := 62
def b_Monks_lend : Nat → List Item
  | 0 => [(.aload_n 0, 0, []), (.getfield 31, 6, [27, 6, 2, 34, 0]), (.iload_n 1, 0, []), (.aload_n 0, 0, []), (.getfield 31, 6, [27, 6, 2, 34, 0]), (.iload_n 1, 0, []), (.iaload, 0, []), (.iload_n 2, 0, []), (.iload_n 3, 0, []), (.invokestatic 55, 174, [3, 1, 0, 3]), (.iastore, 0, []), (.aload_n 0, 0, []), (.getfield 31, 6, [27, 6, 2, 34, 0]), (.iload_n 2, 0, []), (.aload_n 0, 0, []), (.getfield 31, 6, [27, 6, 2, 34, 0]), (.iload_n 2, 0, []), (.iaload, 0, []), (.iload_n 1, 0, []), (.iload_n 3, 0, []), (.invokestatic 55, 174, [3, 1, 0, 3]), (.iastore, 0, []), (.return_, 0, [])]
  | _ => []
abbrev n_Monks_rested : Nat := 63
def b_Monks_rested : Nat → List Item
  | 0 => [(.aload_n 0, 0, []), (.getfield 15, 6, [27, 1, 2, 29, 0]), (.iload_n 1, 0, []), (.iaload, 0, []), (.aload_n 0, 0, []), (.getfield 22, 6, [27, 3, 2, 31, 0]), (.iload_n 1, 0, []), (.iaload, 0, []), (.iload_n 2, 0, []), (.imul, 0, []), (.iadd, 0, []), (.istore_n 3, 0, []), (.iload_n 3, 0, []), (.aload_n 0, 0, []), (.getfield 19, 6, [27, 2, 2, 30, 0]), (.iload_n 1, 0, []), (.iaload, 0, []), (.if_icmp .ge 7, 30, []), (.iload_n 3, 0, []), (.goto 9, 36, [])]
  | 30 => [(.aload_n 0, 0, []), (.getfield 19, 6, [27, 2, 2, 30, 0]), (.iload_n 1, 0, []), (.iaload, 0, []), (.nop, 36, [])]
  | 36 => [(.ireturn, 0, [])]
  | _ => []
abbrev n_Monks_leastRested : Nat := 64
def b_Monks_leastRested : Nat → List Item
  | 0 => [(.bipush 99, 0, []), (.istore_n 3, 0, []), (.iconst 0, 0, []), (.istore 4, 0, []), (.nop, 6, [])]
  | 6 => [(.iload 4, 0, []), (.aload_n 0, 0, []), (.getfield 34, 6, [27, 8, 0, 0, 0]), (.if_icmp .ge 27, 39, []), (.iload 4, 0, []), (.iload_n 1, 0, []), (.if_icmp .eq 15, 33, []), (.iload_n 3, 0, []), (.aload_n 0, 0, []), (.iload 4, 0, []), (.iload_n 2, 0, []), (.invokevirtual 59, 63, [3, 1, 27, 4]), (.invokestatic 63, 335, [2, 1, 0, 2]), (.istore_n 3, 0, []), (.nop, 33, [])]
  | 33 => [(.iinc 4 1, 0, []), (.goto (-30), 6, [])]
  | 39 => [(.iload_n 3, 0, []), (.ireturn, 0, [])]
  | _ => []
abbrev n_Monks_keptApart : Nat := 65
def b_Monks_keptApart : Nat → List Item
  | 0 => [(.aload_n 0, 0, []), (.getfield 34, 6, [27, 8, 0, 0, 0]), (.ifCond .ne 5, 9, []), (.iconst 0, 0, []), (.ireturn, 0, [])]
  | 9 => [(.aload_n 0, 0, []), (.getfield 28, 6, [27, 5, 2, 33, 0]), (.iconst 0, 0, []), (.iaload, 0, []), (.istore_n 1, 0, []), (.aload_n 0, 0, []), (.getfield 28, 6, [27, 5, 2, 33, 0]), (.iconst 0, 0, []), (.iaload, 0, []), (.istore_n 2, 0, []), (.iconst 1, 0, []), (.istore_n 3, 0, []), (.nop, 25, [])]
  | 25 => [(.iload_n 3, 0, []), (.aload_n 0, 0, []), (.getfield 34, 6, [27, 8, 0, 0, 0]), (.if_icmp .ge 31, 61, []), (.iload_n 1, 0, []), (.aload_n 0, 0, []), (.getfield 28, 6, [27, 5, 2, 33, 0]), (.iload_n 3, 0, []), (.iaload, 0, []), (.invokestatic 63, 335, [2, 1, 0, 2]), (.istore_n 1, 0, []), (.iload_n 2, 0, []), (.aload_n 0, 0, []), (.getfield 28, 6, [27, 5, 2, 33, 0]), (.iload_n 3, 0, []), (.iaload, 0, []), (.invokestatic 68, 334, [2, 1, 0, 2]), (.istore_n 2, 0, []), (.iinc 3 1, 0, []), (.goto (-33), 25, [])]
  | 61 => [(.iload_n 2, 0, []), (.iload_n 1, 0, []), (.isub, 0, []), (.ireturn, 0, [])]
  | _ => []
abbrev n_Monks_pairs : Nat := 66
def b_Monks_pairs : Nat → List Item
  | 0 => [(.iload_n 1, 0, []), (.invokestatic 71, 175, [1, 1, 0, 2]), (.istore_n 2, 0, []), (.iload_n 2, 0, []), (.iconst (-1), 0, []), (.if_icmp .ne 5, 12, []), (.iconst 0, 0, []), (.ireturn, 0, [])]
  | 12 => [(.iload_n 1, 0, []), (.iload_n 2, 0, []), (.iconst 0, 0, []), (.invokestatic 55, 174, [3, 1, 0, 3]), (.istore_n 3, 0, []), (.aload_n 0, 0, []), (.iload_n 3, 0, []), (.invokestatic 75, 66, [2, 1, 0, 6]), (.istore 4, 0, []), (.iload_n 2, 0, []), (.iconst 1, 0, []), (.iadd, 0, []), (.istore 5, 0, []), (.nop, 31, [])]
  | 31 => [(.iload 5, 0, []), (.bipush 7, 0, []), (.if_icmp .ge 42, 77, []), (.iload_n 3, 0, []), (.aload_n 0, 0, []), (.iload_n 2, 0, []), (.iaload, 0, []), (.iand, 0, []), (.iload 5, 0, []), (.invokestatic 51, 173, [2, 1, 0, 2]), (.ifCond .eq 23, 71, []), (.iload 4, 0, []), (.iconst 1, 0, []), (.aload_n 0, 0, []), (.iload_n 3, 0, []), (.iload 5, 0, []), (.iconst 0, 0, []), (.invokestatic 55, 174, [3, 1, 0, 3]), (.invokestatic 75, 66, [2, 1, 0, 6]), (.iadd, 0, []), (.invokestatic 68, 334, [2, 1, 0, 2]), (.istore 4, 0, []), (.nop, 71, [])]
  | 71 => [(.iinc 5 1, 0, []), (.goto (-43), 31, [])]
  | 77 => [(.iload 4, 0, []), (.ireturn, 0, [])]
  | _ => []
abbrev n_Talk_longest : Nat := 67
def b_Talk_longest : Nat → List Item
  | 0 => [(.aload_n 0, 0, []), (.iconst 0, 0, []), (.putfield 18, 7, [16, 2, 0, 0, 0]), (.aload_n 0, 0, []), (.aload_n 1, 0, []), (.iload_n 2, 0, []), (.iconst 0, 0, []), (.iconst 0, 0, []), (.invokevirtual 22, 68, [5, 0, 16, 8]), (.aload_n 0, 0, []), (.getfield 18, 7, [16, 2, 0, 0, 0]), (.ireturn, 0, [])]
  | _ => []
abbrev n_Talk_goOn : Nat := 68
def b_Talk_goOn : Nat → List Item
  | 0 => [(.iload_n 3, 0, []), (.bipush 6, 0, []), (.if_icmp .lt 4, 7, []), (.return_, 0, [])]
  | 7 => [(.aload_n 0, 0, []), (.getfield 9, 7, [16, 0, 2, 17, 0]), (.iload_n 3, 0, []), (.iload_n 2, 0, []), (.iastore, 0, []), (.iload_n 3, 0, []), (.aload_n 0, 0, []), (.getfield 18, 7, [16, 2, 0, 0, 0]), (.if_icmp .lt 27, 46, []), (.aload_n 0, 0, []), (.iload_n 3, 0, []), (.iconst 1, 0, []), (.iadd, 0, []), (.putfield 18, 7, [16, 2, 0, 0, 0]), (.aload_n 0, 0, []), (.getfield 9, 7, [16, 0, 2, 17, 0]), (.iconst 0, 0, []), (.aload_n 0, 0, []), (.getfield 15, 7, [16, 1, 2, 18, 0]), (.iconst 0, 0, []), (.aload_n 0, 0, []), (.getfield 18, 7, [16, 2, 0, 0, 0]), (.invokestatic 26, 0, [1000]), (.nop, 46, [])]
  | 46 => [(.iload 4, 0, []), (.iload_n 2, 0, []), (.iconst 1, 0, []), (.invokestatic 32, 174, [3, 1, 0, 3]), (.istore 5, 0, []), (.aload_n 1, 0, []), (.getfield 36, 9, [23, 2, 2, 26, 0]), (.iload_n 2, 0, []), (.iaload, 0, []), (.iload 5, 0, []), (.iconst (-1), 0, []), (.ixor, 0, []), (.iand, 0, []), (.istore 6, 0, []), (.iconst 0, 0, []), (.istore 7, 0, []), (.nop, 71, [])]
  | 71 => [(.iload 7, 0, []), (.aload_n 1, 0, []), (.getfield 41, 9, [23, 3, 0, 0, 0]), (.if_icmp .ge 31, 108, []), (.iload 6, 0, []), (.iload 7, 0, []), (.invokestatic 44, 173, [2, 1, 0, 2]), (.ifCond .eq 15, 102, []), (.aload_n 0, 0, []), (.aload_n 1, 0, []), (.iload 7, 0, []), (.iload_n 3, 0, []), (.iconst 1, 0, []), (.iadd, 0, []), (.iload 5, 0, []), (.invokevirtual 22, 68, [5, 0, 16, 8]), (.nop, 102, [])]
  | 102 => [(.iinc 7 1, 0, []), (.goto (-34), 71, [])]
  | 108 => [(.return_, 0, [])]
  | _ => []
abbrev n_Talk_shortestRing : Nat := 69
def b_Talk_shortestRing : Nat → List Item
  | 0 => [(.iconst 1, 0, []), (.istore_n 2, 0, []), (.nop, 2, [])]
  | 2 => [(.iload_n 2, 0, []), (.aload_n 1, 0, []), (.getfield 41, 9, [23, 3, 0, 0, 0]), (.if_icmp .gt 44, 51, []), (.iconst 0, 0, []), (.istore_n 3, 0, []), (.nop, 12, [])]
  | 12 => [(.iload_n 3, 0, []), (.aload_n 1, 0, []), (.getfield 41, 9, [23, 3, 0, 0, 0]), (.if_icmp .ge 28, 45, []), (.aload_n 0, 0, []), (.getfield 9, 7, [16, 0, 2, 17, 0]), (.iconst 0, 0, []), (.iload_n 3, 0, []), (.iastore, 0, []), (.aload_n 0, 0, []), (.aload_n 1, 0, []), (.iconst 1, 0, []), (.iload_n 2, 0, []), (.invokevirtual 48, 70, [4, 1, 16, 6]), (.ifCond .eq 5, 39, []), (.iload_n 2, 0, []), (.ireturn, 0, [])]
  | 39 => [(.iinc 3 1, 0, []), (.goto (-30), 12, [])]
  | 45 => [(.iinc 2 1, 0, []), (.goto (-46), 2, [])]
  | 51 => [(.iconst (-1), 0, []), (.ireturn, 0, [])]
  | _ => []
abbrev n_Talk_closes : Nat := 70
def b_Talk_closes : Nat → List Item
  | 0 => [(.iload_n 2, 0, []), (.iconst 1, 0, []), (.if_icmp .lt 9, 11, []), (.iload_n 2, 0, []), (.bipush 6, 0, []), (.if_icmp .le 5, 13, []), (.nop, 11, [])]
  | 11 => [(.iconst 0, 0, []), (.ireturn, 1, [])]
  | 13 => [(.aload_n 1, 0, []), (.getfield 36, 9, [23, 2, 2, 26, 0]), (.aload_n 0, 0, []), (.getfield 9, 7, [16, 0, 2, 17, 0]), (.iload_n 2, 0, []), (.iconst 1, 0, []), (.isub, 0, []), (.iaload, 0, []), (.iaload, 0, []), (.istore 4, 0, []), (.iload_n 2, 0, []), (.iload_n 3, 0, []), (.if_icmp .ne 15, 45, []), (.iload 4, 0, []), (.aload_n 0, 0, []), (.getfield 9, 7, [16, 0, 2, 17, 0]), (.iconst 0, 0, []), (.iaload, 0, []), (.invokestatic 44, 173, [2, 1, 0, 2]), (.ireturn, 1, [])]
  | 45 => [(.iconst 0, 0, []), (.istore 5, 0, []), (.nop, 48, [])]
  | 48 => [(.iload 5, 0, []), (.aload_n 1, 0, []), (.getfield 41, 9, [23, 3, 0, 0, 0]), (.if_icmp .ge 41, 95, []), (.iload 4, 0, []), (.iload 5, 0, []), (.invokestatic 44, 173, [2, 1, 0, 2]), (.ifCond .eq 25, 89, []), (.aload_n 0, 0, []), (.getfield 9, 7, [16, 0, 2, 17, 0]), (.iload_n 2, 0, []), (.iload 5, 0, []), (.iastore, 0, []), (.aload_n 0, 0, []), (.aload_n 1, 0, []), (.iload_n 2, 0, []), (.iconst 1, 0, []), (.iadd, 0, []), (.iload_n 3, 0, []), (.invokevirtual 48, 70, [4, 1, 16, 6]), (.ifCond .eq 5, 89, []), (.iconst 1, 0, []), (.ireturn, 1, [])]
  | 89 => [(.iinc 5 1, 0, []), (.goto (-44), 48, [])]
  | 95 => [(.iconst 0, 0, []), (.ireturn, 1, [])]
  | _ => []
abbrev n_Talk_behind : Nat := 71
def b_Talk_behind : Nat → List Item
  | 0 => [(.aload_n 0, 0, []), (.getfield 36, 9, [23, 2, 2, 26, 0]), (.iload_n 1, 0, []), (.iaload, 0, []), (.istore_n 2, 0, []), (.iconst 0, 0, []), (.istore_n 3, 0, []), (.nop, 9, [])]
  | 9 => [(.iload_n 3, 0, []), (.aload_n 0, 0, []), (.getfield 41, 9, [23, 3, 0, 0, 0]), (.if_icmp .ge 46, 60, []), (.iconst 0, 0, []), (.istore 4, 0, []), (.nop, 20, [])]
  | 20 => [(.iload 4, 0, []), (.aload_n 0, 0, []), (.getfield 41, 9, [23, 3, 0, 0, 0]), (.if_icmp .ge 28, 54, []), (.iload_n 2, 0, []), (.iload 4, 0, []), (.invokestatic 44, 173, [2, 1, 0, 2]), (.ifCond .eq 13, 48, []), (.iload_n 2, 0, []), (.aload_n 0, 0, []), (.getfield 36, 9, [23, 2, 2, 26, 0]), (.iload 4, 0, []), (.iaload, 0, []), (.ior, 0, []), (.istore_n 2, 0, []), (.nop, 48, [])]
  | 48 => [(.iinc 4 1, 0, []), (.goto (-31), 20, [])]
  | 54 => [(.iinc 3 1, 0, []), (.goto (-48), 9, [])]
  | 60 => [(.iload_n 2, 0, []), (.ireturn, 0, [])]
  | _ => []
abbrev n_Talk_winner : Nat := 72
def b_Talk_winner : Nat → List Item
  | 0 => [(.aload_n 0, 0, []), (.getfield 36, 9, [23, 2, 2, 26, 0]), (.iload_n 1, 0, []), (.iaload, 0, []), (.iload_n 2, 0, []), (.iconst (-1), 0, []), (.ixor, 0, []), (.iand, 0, []), (.istore_n 3, 0, []), (.iconst 0, 0, []), (.istore 4, 0, []), (.nop, 14, [])]
  | 14 => [(.iload 4, 0, []), (.aload_n 0, 0, []), (.getfield 41, 9, [23, 3, 0, 0, 0]), (.if_icmp .ge 38, 58, []), (.iload_n 3, 0, []), (.iload 4, 0, []), (.invokestatic 44, 173, [2, 1, 0, 2]), (.ifCond .eq 23, 52, []), (.aload_n 0, 0, []), (.iload 4, 0, []), (.iload_n 2, 0, []), (.iload 4, 0, []), (.iconst 1, 0, []), (.invokestatic 32, 174, [3, 1, 0, 3]), (.invokestatic 52, 72, [3, 1, 0, 5]), (.iconst (-1), 0, []), (.if_icmp .ne 6, 52, []), (.iload 4, 0, []), (.ireturn, 0, [])]
  | 52 => [(.iinc 4 1, 0, []), (.goto (-41), 14, [])]
  | 58 => [(.iconst (-1), 0, []), (.ireturn, 0, [])]
  | _ => []
abbrev n_Tape_put : Nat := 73
def b_Tape_put : Nat → List Item
  | 0 => [(.aload_n 0, 0, []), (.getfield 38, 8, [3, 2, 0, 0, 0]), (.iconst 4, 0, []), (.iadd, 0, []), (.sipush 900, 0, []), (.if_icmp .le 4, 13, []), (.return_, 0, [])]
  | 13 => [(.bipush 24, 0, []), (.istore_n 2, 0, []), (.nop, 16, [])]
  | 16 => [(.iload_n 2, 0, []), (.ifCond .lt 35, 52, []), (.aload_n 0, 0, []), (.getfield 9, 8, [3, 0, 2, 4, 0]), (.aload_n 0, 0, []), (.getfield 38, 8, [3, 2, 0, 0, 0]), (.iload_n 1, 0, []), (.iload_n 2, 0, []), (.iushr, 0, []), (.sipush 255, 0, []), (.iand, 0, []), (.iastore, 0, []), (.aload_n 0, 0, []), (.dup, 0, []), (.getfield 38, 8, [3, 2, 0, 0, 0]), (.iconst 1, 0, []), (.iadd, 0, []), (.putfield 38, 8, [3, 2, 0, 0, 0]), (.iinc 2 (-8), 0, []), (.goto (-33), 16, [])]
  | 52 => [(.return_, 0, [])]
  | _ => []
abbrev n_Tape_begin : Nat := 74
def b_Tape_begin : Nat → List Item
  | 0 => [(.aload_n 0, 0, []), (.iload_n 1, 0, []), (.putfield 41, 8, [3, 10, 0, 0, 0]), (.aload_n 0, 0, []), (.iconst 0, 0, []), (.putfield 43, 8, [3, 11, 0, 0, 0]), (.aload_n 0, 0, []), (.iconst 0, 0, []), (.putfield 38, 8, [3, 2, 0, 0, 0]), (.aload_n 0, 0, []), (.iconst 0, 0, []), (.putfield 19, 8, [3, 3, 0, 0, 0]), (.aload_n 0, 0, []), (.iconst (-1), 0, []), (.putfield 23, 8, [3, 4, 0, 0, 0]), (.aload_n 0, 0, []), (.invokevirtual 46, 75, [1, 0, 3, 1]), (.return_, 0, [])]
  | _ => []
abbrev n_Tape_advance : Nat := 75
def b_Tape_advance : Nat → List Item
  | 0 => [(.aload_n 0, 0, []), (.getfield 43, 8, [3, 11, 0, 0, 0]), (.aload_n 0, 0, []), (.getfield 41, 8, [3, 10, 0, 0, 0]), (.if_icmp .ge 44, 52, []), (.aload_n 0, 0, []), (.getfield 9, 8, [3, 0, 2, 4, 0]), (.aload_n 0, 0, []), (.getfield 43, 8, [3, 11, 0, 0, 0]), (.iaload, 0, []), (.bipush 10, 0, []), (.if_icmp .eq 17, 39, []), (.aload_n 0, 0, []), (.getfield 9, 8, [3, 0, 2, 4, 0]), (.aload_n 0, 0, []), (.getfield 43, 8, [3, 11, 0, 0, 0]), (.iaload, 0, []), (.bipush 32, 0, []), (.if_icmp .ne 16, 52, []), (.nop, 39, [])]
  | 39 => [(.aload_n 0, 0, []), (.dup, 0, []), (.getfield 43, 8, [3, 11, 0, 0, 0]), (.iconst 1, 0, []), (.iadd, 0, []), (.putfield 43, 8, [3, 11, 0, 0, 0]), (.goto (-49), 0, [])]
  | 52 => [(.aload_n 0, 0, []), (.aload_n 0, 0, []), (.getfield 43, 8, [3, 11, 0, 0, 0]), (.putfield 49, 8, [3, 6, 0, 0, 0]), (.aload_n 0, 0, []), (.iconst (-1), 0, []), (.putfield 52, 8, [3, 7, 0, 0, 0]), (.aload_n 0, 0, []), (.lconst 0, 0, []), (.putfield 55, 8, [3, 9, 1, 0, 0]), (.aload_n 0, 0, []), (.iconst 0, 0, []), (.putfield 59, 8, [3, 8, 0, 0, 0]), (.aload_n 0, 0, []), (.getfield 43, 8, [3, 11, 0, 0, 0]), (.aload_n 0, 0, []), (.getfield 41, 8, [3, 10, 0, 0, 0]), (.if_icmp .lt 11, 94, []), (.aload_n 0, 0, []), (.iconst 0, 0, []), (.putfield 62, 8, [3, 5, 0, 0, 0]), (.goto 77, 168, [])]
  | 94 => [(.aload_n 0, 0, []), (.getfield 9, 8, [3, 0, 2, 4, 0]), (.aload_n 0, 0, []), (.getfield 43, 8, [3, 11, 0, 0, 0]), (.iaload, 0, []), (.bipush 97, 0, []), (.if_icmp .lt 24, 129, []), (.aload_n 0, 0, []), (.getfield 9, 8, [3, 0, 2, 4, 0]), (.aload_n 0, 0, []), (.getfield 43, 8, [3, 11, 0, 0, 0]), (.iaload, 0, []), (.bipush 122, 0, []), (.if_icmp .gt 10, 129, []), (.aload_n 0, 0, []), (.invokevirtual 65, 76, [1, 0, 3, 4]), (.goto 42, 168, [])]
  | 129 => [(.aload_n 0, 0, []), (.getfield 9, 8, [3, 0, 2, 4, 0]), (.aload_n 0, 0, []), (.getfield 43, 8, [3, 11, 0, 0, 0]), (.iaload, 0, []), (.bipush 48, 0, []), (.if_icmp .lt 24, 164, []), (.aload_n 0, 0, []), (.getfield 9, 8, [3, 0, 2, 4, 0]), (.aload_n 0, 0, []), (.getfield 43, 8, [3, 11, 0, 0, 0]), (.iaload, 0, []), (.bipush 57, 0, []), (.if_icmp .gt 10, 164, []), (.aload_n 0, 0, []), (.invokevirtual 68, 77, [1, 0, 3, 1]), (.goto 7, 168, [])]
  | 164 => [(.aload_n 0, 0, []), (.invokevirtual 71, 78, [1, 0, 3, 3]), (.nop, 168, [])]
  | 168 => [(.return_, 0, [])]
  | _ => []
abbrev n_Tape_readWord : Nat := 76
def b_Tape_readWord : Nat → List Item
  | 0 => [(.aload_n 0, 0, []), (.iconst 1, 0, []), (.putfield 62, 8, [3, 5, 0, 0, 0]), (.lconst 0, 0, []), (.lstore_n 1, 0, []), (.nop, 7, [])]
  | 7 => [(.aload_n 0, 0, []), (.getfield 43, 8, [3, 11, 0, 0, 0]), (.aload_n 0, 0, []), (.getfield 41, 8, [3, 10, 0, 0, 0]), (.if_icmp .ge 64, 79, []), (.aload_n 0, 0, []), (.getfield 9, 8, [3, 0, 2, 4, 0]), (.aload_n 0, 0, []), (.getfield 43, 8, [3, 11, 0, 0, 0]), (.iaload, 0, []), (.bipush 97, 0, []), (.if_icmp .lt 50, 79, []), (.aload_n 0, 0, []), (.getfield 9, 8, [3, 0, 2, 4, 0]), (.aload_n 0, 0, []), (.getfield 43, 8, [3, 11, 0, 0, 0]), (.iaload, 0, []), (.bipush 122, 0, []), (.if_icmp .gt 36, 79, []), (.lload_n 1, 0, []), (.iconst 5, 0, []), (.lshl, 0, []), (.aload_n 0, 0, []), (.getfield 9, 8, [3, 0, 2, 4, 0]), (.aload_n 0, 0, []), (.getfield 43, 8, [3, 11, 0, 0, 0]), (.iaload, 0, []), (.bipush 97, 0, []), (.isub, 0, []), (.iconst 1, 0, []), (.iadd, 0, []), (.i2l, 0, []), (.lor, 0, []), (.lstore_n 1, 0, []), (.aload_n 0, 0, []), (.dup, 0, []), (.getfield 43, 8, [3, 11, 0, 0, 0]), (.iconst 1, 0, []), (.iadd, 0, []), (.putfield 43, 8, [3, 11, 0, 0, 0]), (.goto (-69), 7, [])]
  | 79 => [(.aload_n 0, 0, []), (.getfield 43, 8, [3, 11, 0, 0, 0]), (.aload_n 0, 0, []), (.getfield 49, 8, [3, 6, 0, 0, 0]), (.isub, 0, []), (.bipush 8, 0, []), (.if_icmp .le 4, 94, []), (.return_, 0, [])]
  | 94 => [(.aload_n 0, 0, []), (.lload_n 1, 0, []), (.putfield 55, 8, [3, 9, 1, 0, 0]), (.iconst 0, 0, []), (.istore_n 3, 0, []), (.nop, 101, [])]
  | 101 => [(.iload_n 3, 0, []), (.bipush 23, 0, []), (.if_icmp .ge 28, 132, []), (.aload_n 0, 0, []), (.getfield 15, 8, [3, 1, 2, 5, 0]), (.iload_n 3, 0, []), (.laload, 0, []), (.aload_n 0, 0, []), (.getfield 55, 8, [3, 9, 1, 0, 0]), (.lcmp, 0, []), (.ifCond .ne 8, 126, []), (.aload_n 0, 0, []), (.iload_n 3, 0, []), (.putfield 52, 8, [3, 7, 0, 0, 0]), (.nop, 126, [])]
  | 126 => [(.iinc 3 1, 0, []), (.goto (-28), 101, [])]
  | 132 => [(.return_, 0, [])]
  | _ => []
abbrev n_Tape_readNumber : Nat := 77
def b_Tape_readNumber : Nat → List Item
  | 0 => [(.aload_n 0, 0, []), (.getfield 43, 8, [3, 11, 0, 0, 0]), (.aload_n 0, 0, []), (.getfield 41, 8, [3, 10, 0, 0, 0]), (.if_icmp .ge 68, 76, []), (.aload_n 0, 0, []), (.getfield 9, 8, [3, 0, 2, 4, 0]), (.aload_n 0, 0, []), (.getfield 43, 8, [3, 11, 0, 0, 0]), (.iaload, 0, []), (.bipush 48, 0, []), (.if_icmp .lt 54, 76, []), (.aload_n 0, 0, []), (.getfield 9, 8, [3, 0, 2, 4, 0]), (.aload_n 0, 0, []), (.getfield 43, 8, [3, 11, 0, 0, 0]), (.iaload, 0, []), (.bipush 57, 0, []), (.if_icmp .gt 40, 76, []), (.aload_n 0, 0, []), (.aload_n 0, 0, []), (.getfield 59, 8, [3, 8, 0, 0, 0]), (.bipush 10, 0, []), (.imul, 0, []), (.aload_n 0, 0, []), (.getfield 9, 8, [3, 0, 2, 4, 0]), (.aload_n 0, 0, []), (.getfield 43, 8, [3, 11, 0, 0, 0]), (.iaload, 0, []), (.iadd, 0, []), (.bipush 48, 0, []), (.isub, 0, []), (.putfield 59, 8, [3, 8, 0, 0, 0]), (.aload_n 0, 0, []), (.dup, 0, []), (.getfield 43, 8, [3, 11, 0, 0, 0]), (.iconst 1, 0, []), (.iadd, 0, []), (.putfield 43, 8, [3, 11, 0, 0, 0]), (.goto (-73), 0, [])]
  | 76 => [(.aload_n 0, 0, []), (.aload_n 0, 0, []), (.getfield 43, 8, [3, 11, 0, 0, 0]), (.aload_n 0, 0, []), (.getfield 49, 8, [3, 6, 0, 0, 0]), (.isub, 0, []), (.iconst 4, 0, []), (.if_icmp .le 7, 94, []), (.iconst 4, 0, []), (.goto 4, 95, [])]
  | 94 => [(.iconst 2, 0, []), (.nop, 95, [])]
  | 95 => [(.putfield 62, 8, [3, 5, 0, 0, 0]), (.return_, 0, [])]
  | _ => []
abbrev n_Tape_readSign : Nat := 78
def b_Tape_readSign : Nat → List Item
  | 0 => [(.aload_n 0, 0, []), (.getfield 9, 8, [3, 0, 2, 4, 0]), (.aload_n 0, 0, []), (.getfield 43, 8, [3, 11, 0, 0, 0]), (.iaload, 0, []), (.istore_n 1, 0, []), (.iload_n 1, 0, []), (.bipush 59, 0, []), (.if_icmp .eq 21, 34, []), (.iload_n 1, 0, []), (.bipush 60, 0, []), (.if_icmp .eq 15, 34, []), (.iload_n 1, 0, []), (.bipush 62, 0, []), (.if_icmp .eq 9, 34, []), (.iload_n 1, 0, []), (.bipush 61, 0, []), (.if_icmp .ne 7, 38, []), (.nop, 34, [])]
  | 34 => [(.iconst 1, 0, []), (.goto 4, 39, [])]
  | 38 => [(.iconst 0, 0, []), (.nop, 39, [])]
  | 39 => [(.istore_n 2, 0, []), (.aload_n 0, 0, []), (.iload_n 2, 0, []), (.ifCond .eq 7, 49, []), (.iconst 3, 0, []), (.goto 4, 50, [])]
  | 49 => [(.iconst 4, 0, []), (.nop, 50, [])]
  | 50 => [(.putfield 62, 8, [3, 5, 0, 0, 0]), (.aload_n 0, 0, []), (.iload_n 1, 0, []), (.putfield 59, 8, [3, 8, 0, 0, 0]), (.aload_n 0, 0, []), (.dup, 0, []), (.getfield 43, 8, [3, 11, 0, 0, 0]), (.iconst 1, 0, []), (.iadd, 0, []), (.putfield 43, 8, [3, 11, 0, 0, 0]), (.return_, 0, [])]
  | _ => []
abbrev n_Tape_fail : Nat := 79
def b_Tape_fail : Nat → List Item
  | 0 => [(.aload_n 0, 0, []), (.aload_n 0, 0, []), (.getfield 62, 8, [3, 5, 0, 0, 0]), (.iconst 4, 0, []), (.if_icmp .ne 7, 13, []), (.iconst 1, 0, []), (.goto 4, 14, [])]
  | 13 => [(.iload_n 1, 0, []), (.nop, 14, [])]
  | 14 => [(.putfield 19, 8, [3, 3, 0, 0, 0]), (.aload_n 0, 0, []), (.aload_n 0, 0, []), (.getfield 49, 8, [3, 6, 0, 0, 0]), (.putfield 23, 8, [3, 4, 0, 0, 0]), (.iconst 0, 0, []), (.ireturn, 1, [])]
  | _ => []
abbrev n_Tape_isName : Nat := 80
def b_Tape_isName : Nat → List Item
  | 0 => [(.aload_n 0, 0, []), (.getfield 62, 8, [3, 5, 0, 0, 0]), (.iconst 1, 0, []), (.if_icmp .ne 24, 29, []), (.aload_n 0, 0, []), (.getfield 55, 8, [3, 9, 1, 0, 0]), (.lconst 0, 0, []), (.lcmp, 0, []), (.ifCond .eq 15, 29, []), (.aload_n 0, 0, []), (.getfield 52, 8, [3, 7, 0, 0, 0]), (.iconst (-1), 0, []), (.if_icmp .ne 7, 29, []), (.iconst 1, 0, []), (.goto 4, 30, [])]
  | 29 => [(.iconst 0, 0, []), (.nop, 30, [])]
  | 30 => [(.ireturn, 1, [])]
  | _ => []
abbrev n_Tape_skipWord : Nat := 81
def b_Tape_skipWord : Nat → List Item
  | 0 => [(.aload_n 0, 0, []), (.getfield 52, 8, [3, 7, 0, 0, 0]), (.iload_n 1, 0, []), (.if_icmp .eq 9, 14, []), (.aload_n 0, 0, []), (.iconst 2, 0, []), (.invokevirtual 74, 79, [2, 1, 3, 2]), (.ireturn, 1, [])]
  | 14 => [(.aload_n 0, 0, []), (.invokevirtual 46, 75, [1, 0, 3, 1]), (.iconst 1, 0, []), (.ireturn, 1, [])]
  | _ => []
abbrev n_Tape_skipSemicolon : Nat := 82
def b_Tape_skipSemicolon : Nat → List Item
  | 0 => [(.aload_n 0, 0, []), (.getfield 62, 8, [3, 5, 0, 0, 0]), (.iconst 3, 0, []), (.if_icmp .ne 12, 17, []), (.aload_n 0, 0, []), (.getfield 59, 8, [3, 8, 0, 0, 0]), (.bipush 59, 0, []), (.if_icmp .eq 9, 23, []), (.nop, 17, [])]
  | 17 => [(.aload_n 0, 0, []), (.iconst 2, 0, []), (.invokevirtual 74, 79, [2, 1, 3, 2]), (.ireturn, 1, [])]
  | 23 => [(.aload_n 0, 0, []), (.invokevirtual 46, 75, [1, 0, 3, 1]), (.iconst 1, 0, []), (.ireturn, 1, [])]
  | _ => []
abbrev n_Tape_skipName : Nat := 83
def b_Tape_skipName : Nat → List Item
  | 0 => [(.aload_n 0, 0, []), (.invokevirtual 78, 80, [1, 1, 3, 1]), (.ifCond .ne 9, 13, []), (.aload_n 0, 0, []), (.iconst 2, 0, []), (.invokevirtual 74, 79, [2, 1, 3, 2]), (.ireturn, 1, [])]
  | 13 => [(.iload_n 1, 0, []), (.iconst (-1), 0, []), (.if_icmp .ne 9, 24, []), (.aload_n 0, 0, []), (.iconst 3, 0, []), (.invokevirtual 74, 79, [2, 1, 3, 2]), (.ireturn, 1, [])]
  | 24 => [(.aload_n 0, 0, []), (.invokevirtual 46, 75, [1, 0, 3, 1]), (.iconst 1, 0, []), (.ireturn, 1, [])]
  | _ => []
abbrev n_Tape_takeCompare : Nat := 84
def b_Tape_takeCompare : Nat → List Item
  | 0 => [(.aload_n 0, 0, []), (.getfield 62, 8, [3, 5, 0, 0, 0]), (.iconst 3, 0, []), (.if_icmp .ne 12, 17, []), (.aload_n 0, 0, []), (.getfield 59, 8, [3, 8, 0, 0, 0]), (.bipush 59, 0, []), (.if_icmp .ne 11, 25, []), (.nop, 17, [])]
  | 17 => [(.aload_n 0, 0, []), (.iconst 2, 0, []), (.invokevirtual 74, 79, [2, 1, 3, 2]), (.pop, 0, []), (.iconst (-1), 0, []), (.ireturn, 0, [])]
  | 25 => [(.aload_n 0, 0, []), (.getfield 59, 8, [3, 8, 0, 0, 0]), (.istore_n 1, 0, []), (.aload_n 0, 0, []), (.invokevirtual 46, 75, [1, 0, 3, 1]), (.iload_n 1, 0, []), (.ireturn, 0, [])]
  | _ => []
abbrev n_Tape_takeNumber : Nat := 85
def b_Tape_takeNumber : Nat → List Item
  | 0 => [(.aload_n 0, 0, []), (.getfield 62, 8, [3, 5, 0, 0, 0]), (.iconst 2, 0, []), (.if_icmp .ne 15, 20, []), (.aload_n 0, 0, []), (.getfield 59, 8, [3, 8, 0, 0, 0]), (.iload_n 1, 0, []), (.iload_n 2, 0, []), (.invokestatic 82, 171, [3, 1, 0, 3]), (.ifCond .ne 23, 40, []), (.nop, 20, [])]
  | 20 => [(.aload_n 0, 0, []), (.aload_n 0, 0, []), (.getfield 62, 8, [3, 5, 0, 0, 0]), (.iconst 2, 0, []), (.if_icmp .ne 7, 33, []), (.iconst 4, 0, []), (.goto 4, 34, [])]
  | 33 => [(.iconst 2, 0, []), (.nop, 34, [])]
  | 34 => [(.invokevirtual 74, 79, [2, 1, 3, 2]), (.pop, 0, []), (.iconst (-1), 0, []), (.ireturn, 0, [])]
  | 40 => [(.aload_n 0, 0, []), (.getfield 59, 8, [3, 8, 0, 0, 0]), (.istore_n 3, 0, []), (.aload_n 0, 0, []), (.invokevirtual 46, 75, [1, 0, 3, 1]), (.iload_n 3, 0, []), (.ireturn, 0, [])]
  | _ => []
abbrev n_Topics_copy : Nat := 86
def b_Topics_copy : Nat → List Item
  | 0 => [(.aload_n 1, 0, []), (.getfield 9, 9, [23, 0, 2, 24, 0]), (.iconst 0, 0, []), (.aload_n 0, 0, []), (.getfield 9, 9, [23, 0, 2, 24, 0]), (.iconst 0, 0, []), (.bipush 6, 0, []), (.invokestatic 22, 0, [1000]), (.aload_n 1, 0, []), (.getfield 15, 9, [23, 1, 2, 25, 0]), (.iconst 0, 0, []), (.aload_n 0, 0, []), (.getfield 15, 9, [23, 1, 2, 25, 0]), (.iconst 0, 0, []), (.bipush 6, 0, []), (.invokestatic 22, 0, [1000]), (.aload_n 1, 0, []), (.getfield 19, 9, [23, 2, 2, 26, 0]), (.iconst 0, 0, []), (.aload_n 0, 0, []), (.getfield 19, 9, [23, 2, 2, 26, 0]), (.iconst 0, 0, []), (.bipush 6, 0, []), (.invokestatic 22, 0, [1000]), (.aload_n 0, 0, []), (.aload_n 1, 0, []), (.getfield 28, 9, [23, 3, 0, 0, 0]), (.putfield 28, 9, [23, 3, 0, 0, 0]), (.return_, 0, [])]
  | _ => []
abbrev n_Topics_add : Nat := 87
def b_Topics_add : Nat → List Item
  | 0 => [(.aload_n 0, 0, []), (.getfield 28, 9, [23, 3, 0, 0, 0]), (.bipush 6, 0, []), (.if_icmp .lt 4, 10, []), (.return_, 0, [])]
  | 10 => [(.aload_n 0, 0, []), (.getfield 9, 9, [23, 0, 2, 24, 0]), (.aload_n 0, 0, []), (.getfield 28, 9, [23, 3, 0, 0, 0]), (.lload_n 1, 0, []), (.lastore, 0, []), (.aload_n 0, 0, []), (.getfield 15, 9, [23, 1, 2, 25, 0]), (.aload_n 0, 0, []), (.getfield 28, 9, [23, 3, 0, 0, 0]), (.iload_n 3, 0, []), (.iastore, 0, []), (.aload_n 0, 0, []), (.getfield 19, 9, [23, 2, 2, 26, 0]), (.aload_n 0, 0, []), (.getfield 28, 9, [23, 3, 0, 0, 0]), (.iconst 0, 0, []), (.iastore, 0, []), (.aload_n 0, 0, []), (.dup, 0, []), (.getfield 28, 9, [23, 3, 0, 0, 0]), (.iconst 1, 0, []), (.iadd, 0, []), (.putfield 28, 9, [23, 3, 0, 0, 0]), (.return_, 0, [])]
  | _ => []
abbrev n_Topics_find : Nat := 88
def b_Topics_find : Nat → List Item
  | 0 => [(.iconst 0, 0, []), (.istore_n 3, 0, []), (.nop, 2, [])]
  | 2 => [(.iload_n 3, 0, []), (.aload_n 0, 0, []), (.getfield 28, 9, [23, 3, 0, 0, 0]), (.if_icmp .ge 22, 29, []), (.aload_n 0, 0, []), (.getfield 9, 9, [23, 0, 2, 24, 0]), (.iload_n 3, 0, []), (.laload, 0, []), (.lload_n 1, 0, []), (.lcmp, 0, []), (.ifCond .ne 5, 23, []), (.iload_n 3, 0, []), (.ireturn, 0, [])]
  | 23 => [(.iinc 3 1, 0, []), (.goto (-24), 2, [])]
  | 29 => [(.iconst (-1), 0, []), (.ireturn, 0, [])]
  | _ => []
abbrev n_Topics_before : Nat := 89
def b_Topics_before : Nat → List Item
  | 0 => [(.iconst 0, 0, []), (.istore_n 2, 0, []), (.iconst 0, 0, []), (.istore_n 3, 0, []), (.nop, 4, [])]
  | 4 => [(.iload_n 3, 0, []), (.aload_n 0, 0, []), (.getfield 28, 9, [23, 3, 0, 0, 0]), (.if_icmp .ge 25, 34, []), (.iload_n 2, 0, []), (.iload_n 3, 0, []), (.aload_n 0, 0, []), (.getfield 19, 9, [23, 2, 2, 26, 0]), (.iload_n 3, 0, []), (.iaload, 0, []), (.iload_n 1, 0, []), (.invokestatic 32, 173, [2, 1, 0, 2]), (.invokestatic 36, 174, [3, 1, 0, 3]), (.istore_n 2, 0, []), (.iinc 3 1, 0, []), (.goto (-27), 4, [])]
  | 34 => [(.iload_n 2, 0, []), (.ireturn, 0, [])]
  | _ => []
abbrev n_Topics_costingAtMost : Nat := 90
def b_Topics_costingAtMost : Nat → List Item
  | 0 => [(.iconst 0, 0, []), (.istore_n 3, 0, []), (.iconst 0, 0, []), (.istore 4, 0, []), (.nop, 5, [])]
  | 5 => [(.iload 4, 0, []), (.aload_n 0, 0, []), (.getfield 28, 9, [23, 3, 0, 0, 0]), (.if_icmp .ge 29, 40, []), (.aload_n 0, 0, []), (.getfield 15, 9, [23, 1, 2, 25, 0]), (.iload 4, 0, []), (.iaload, 0, []), (.iload_n 2, 0, []), (.if_icmp .gt 12, 34, []), (.iload_n 3, 0, []), (.iload_n 1, 0, []), (.iconst 1, 0, []), (.iload 4, 0, []), (.ishl, 0, []), (.iand, 0, []), (.ior, 0, []), (.istore_n 3, 0, []), (.nop, 34, [])]
  | 34 => [(.iinc 4 1, 0, []), (.goto (-32), 5, [])]
  | 40 => [(.iload_n 3, 0, []), (.ireturn, 0, [])]
  | _ => []
abbrev n_Topics_firstCosting : Nat := 91
def b_Topics_firstCosting : Nat → List Item
  | 0 => [(.iconst 0, 0, []), (.istore_n 3, 0, []), (.nop, 2, [])]
  | 2 => [(.iload_n 3, 0, []), (.aload_n 0, 0, []), (.getfield 28, 9, [23, 3, 0, 0, 0]), (.if_icmp .ge 29, 36, []), (.aload_n 0, 0, []), (.getfield 15, 9, [23, 1, 2, 25, 0]), (.iload_n 3, 0, []), (.iaload, 0, []), (.iload_n 2, 0, []), (.if_icmp .gt 13, 30, []), (.iload_n 1, 0, []), (.iload_n 3, 0, []), (.invokestatic 32, 173, [2, 1, 0, 2]), (.ifCond .eq 5, 30, []), (.iload_n 3, 0, []), (.ireturn, 0, [])]
  | 30 => [(.iinc 3 1, 0, []), (.goto (-31), 2, [])]
  | 36 => [(.iconst (-1), 0, []), (.ireturn, 0, [])]
  | _ => []
abbrev n_Tray_lay : Nat := 92
def b_Tray_lay : Nat → List Item
  | 0 => [(.aload_n 0, 0, []), (.getfield 9, 10, [44, 0, 2, 45, 0]), (.lconst 0, 0, []), (.invokestatic 15, 336, [2, 0, 0, 5]), (.aload_n 0, 0, []), (.iload_n 1, 0, []), (.putfield 21, 10, [44, 2, 0, 0, 0]), (.aload_n 0, 0, []), (.iload_n 2, 0, []), (.putfield 25, 10, [44, 3, 0, 0, 0]), (.aload_n 0, 0, []), (.iconst 1, 0, []), (.putfield 28, 10, [44, 1, 5, 0, 0]), (.return_, 0, [])]
  | _ => []
abbrev n_Tray_holds : Nat := 93
def b_Tray_holds : Nat → List Item
  | 0 => [(.iload_n 1, 0, []), (.aload_n 0, 0, []), (.getfield 25, 10, [44, 3, 0, 0, 0]), (.if_icmp .gt 17, 22, []), (.iload_n 2, 0, []), (.aload_n 0, 0, []), (.getfield 25, 10, [44, 3, 0, 0, 0]), (.iload_n 1, 0, []), (.isub, 0, []), (.if_icmp .gt 7, 22, []), (.iconst 1, 0, []), (.goto 4, 23, [])]
  | 22 => [(.iconst 0, 0, []), (.nop, 23, [])]
  | 23 => [(.ireturn, 1, [])]
  | _ => []
abbrev n_Tray_put : Nat := 94
def b_Tray_put : Nat → List Item
  | 0 => [(.aload_n 0, 0, []), (.getfield 9, 10, [44, 0, 2, 45, 0]), (.iload_n 1, 0, []), (.aload_n 0, 0, []), (.lload_n 2, 0, []), (.invokevirtual 32, 95, [2, 1, 44, 3]), (.lastore, 0, []), (.return_, 0, [])]
  | _ => []
abbrev n_Tray_cut : Nat := 95
def b_Tray_cut : Nat → List Item
  | 0 => [(.aload_n 0, 0, []), (.getfield 21, 10, [44, 2, 0, 0, 0]), (.tableswitch 42 0 2 #[28, 33, 38], 46, [32, 37, 42])]
  | 32 => [(.lload_n 1, 0, []), (.l2i, 0, []), (.i2b, 0, []), (.i2l, 0, []), (.lreturn, 0, [])]
  | 37 => [(.lload_n 1, 0, []), (.l2i, 0, []), (.i2s, 0, []), (.i2l, 0, []), (.lreturn, 0, [])]
  | 42 => [(.lload_n 1, 0, []), (.l2i, 0, []), (.i2l, 0, []), (.lreturn, 0, [])]
  | 46 => [(.lload_n 1, 0, []), (.lreturn, 0, [])]
  | _ => []
abbrev n_x_status : Nat := 96
def b_x_status : Nat → List Item
  | 0 => [(.aload_n 0, 0, []), (.getfield 99, 11, [1, 16, 0, 0, 0]), (.ireturn, 0, [])]
  | _ => []
abbrev n_x_top : Nat := 97
def b_x_top : Nat → List Item
  | 0 => [(.aload_n 0, 0, []), (.getfield 103, 11, [1, 17, 1, 0, 0]), (.lreturn, 0, [])]
  | _ => []
abbrev n_x_bottom : Nat := 98
def b_x_bottom : Nat → List Item
  | 0 => [(.aload_n 0, 0, []), (.getfield 94, 11, [1, 18, 1, 0, 0]), (.lreturn, 0, [])]
  | _ => []
abbrev n_x_tray : Nat := 99
def b_x_tray : Nat → List Item
  | 0 => [(.aload_n 0, 0, []), (.iload_n 1, 0, []), (.invokevirtual 106, 162, [2, 1, 1, 2]), (.ifCond .eq 22, 27, []), (.iload_n 2, 0, []), (.iconst 0, 0, []), (.iconst 3, 0, []), (.invokestatic 110, 171, [3, 1, 0, 3]), (.ifCond .eq 13, 27, []), (.iload_n 3, 0, []), (.iconst 0, 0, []), (.bipush 60, 0, []), (.invokestatic 110, 171, [3, 1, 0, 3]), (.ifCond .ne 9, 33, []), (.nop, 27, [])]
  | 27 => [(.aload_n 0, 0, []), (.iconst 1, 0, []), (.invokevirtual 114, 161, [2, 1, 1, 2]), (.ireturn, 1, [])]
  | 33 => [(.aload_n 0, 0, []), (.getfield 11, 11, [1, 0, 2, 2, 0]), (.iload_n 1, 0, []), (.aaload, 0, []), (.iload_n 2, 0, []), (.iload_n 3, 0, []), (.invokevirtual 117, 92, [3, 0, 44, 3]), (.aload_n 0, 0, []), (.invokevirtual 121, 160, [1, 1, 1, 1]), (.ireturn, 1, [])]
  | _ => []
abbrev n_x_write : Nat := 100
def b_x_write : Nat → List Item
  | 0 => [(.aload_n 0, 0, []), (.iload_n 1, 0, []), (.iload_n 2, 0, []), (.invokevirtual 125, 166, [3, 1, 1, 3]), (.istore 5, 0, []), (.iload 5, 0, []), (.ifCond .eq 10, 20, []), (.aload_n 0, 0, []), (.iload 5, 0, []), (.invokevirtual 114, 161, [2, 1, 1, 2]), (.ireturn, 1, [])]
  | 20 => [(.aload_n 0, 0, []), (.getfield 11, 11, [1, 0, 2, 2, 0]), (.iload_n 1, 0, []), (.aaload, 0, []), (.iload_n 2, 0, []), (.lload_n 3, 0, []), (.invokevirtual 129, 94, [3, 0, 44, 4]), (.aload_n 0, 0, []), (.invokevirtual 121, 160, [1, 1, 1, 1]), (.ireturn, 1, [])]
  | _ => []
abbrev n_x_read : Nat := 101
def b_x_read : Nat → List Item
  | 0 => [(.aload_n 0, 0, []), (.iload_n 1, 0, []), (.iload_n 2, 0, []), (.invokevirtual 125, 166, [3, 1, 1, 3]), (.istore_n 3, 0, []), (.iload_n 3, 0, []), (.ifCond .eq 10, 18, []), (.aload_n 0, 0, []), (.iload_n 3, 0, []), (.invokevirtual 133, 159, [2, 1, 1, 2]), (.i2l, 0, []), (.lreturn, 0, [])]
  | 18 => [(.aload_n 0, 0, []), (.iconst 0, 0, []), (.putfield 99, 11, [1, 16, 0, 0, 0]), (.aload_n 0, 0, []), (.getfield 11, 11, [1, 0, 2, 2, 0]), (.iload_n 1, 0, []), (.aaload, 0, []), (.getfield 137, 10, [44, 0, 2, 45, 0]), (.iload_n 2, 0, []), (.laload, 0, []), (.lreturn, 0, [])]
  | _ => []
abbrev n_x_pour : Nat := 102
def b_x_pour : Nat → List Item
  | 0 => [(.aload_n 0, 0, []), (.iload_n 1, 0, []), (.invokevirtual 106, 162, [2, 1, 1, 2]), (.ifCond .eq 25, 30, []), (.aload_n 0, 0, []), (.iload_n 3, 0, []), (.invokevirtual 106, 162, [2, 1, 1, 2]), (.ifCond .eq 17, 30, []), (.iload_n 2, 0, []), (.ifCond .lt 13, 30, []), (.iload 4, 0, []), (.ifCond .lt 8, 30, []), (.iload 5, 0, []), (.ifCond .ge 9, 36, []), (.nop, 30, [])]
  | 30 => [(.aload_n 0, 0, []), (.iconst 1, 0, []), (.invokevirtual 114, 161, [2, 1, 1, 2]), (.ireturn, 1, [])]
  | 36 => [(.aload_n 0, 0, []), (.getfield 11, 11, [1, 0, 2, 2, 0]), (.iload_n 1, 0, []), (.aaload, 0, []), (.astore 6, 0, []), (.aload_n 0, 0, []), (.getfield 11, 11, [1, 0, 2, 2, 0]), (.iload_n 3, 0, []), (.aaload, 0, []), (.astore 7, 0, []), (.aload 6, 0, []), (.getfield 140, 10, [44, 1, 5, 0, 0]), (.ifCond .eq 11, 68, []), (.aload 7, 0, []), (.getfield 140, 10, [44, 1, 5, 0, 0]), (.ifCond .ne 9, 74, []), (.nop, 68, [])]
  | 68 => [(.aload_n 0, 0, []), (.iconst 2, 0, []), (.invokevirtual 114, 161, [2, 1, 1, 2]), (.ireturn, 1, [])]
  | 74 => [(.aload 6, 0, []), (.getfield 144, 10, [44, 2, 0, 0, 0]), (.aload 7, 0, []), (.getfield 144, 10, [44, 2, 0, 0, 0]), (.if_icmp .eq 10, 94, []), (.aload_n 0, 0, []), (.bipush 8, 0, []), (.invokevirtual 114, 161, [2, 1, 1, 2]), (.ireturn, 1, [])]
  | 94 => [(.aload 6, 0, []), (.iload_n 2, 0, []), (.iload 5, 0, []), (.invokevirtual 147, 93, [3, 1, 44, 3]), (.ifCond .eq 15, 117, []), (.aload 7, 0, []), (.iload 4, 0, []), (.iload 5, 0, []), (.invokevirtual 147, 93, [3, 1, 44, 3]), (.ifCond .ne 9, 123, []), (.nop, 117, [])]
  | 117 => [(.aload_n 0, 0, []), (.iconst 3, 0, []), (.invokevirtual 114, 161, [2, 1, 1, 2]), (.ireturn, 1, [])]
  | 123 => [(.aload 6, 0, []), (.getfield 137, 10, [44, 0, 2, 45, 0]), (.iload_n 2, 0, []), (.aload 7, 0, []), (.getfield 137, 10, [44, 0, 2, 45, 0]), (.iload 4, 0, []), (.iload 5, 0, []), (.invokestatic 151, 0, [1000]), (.aload_n 0, 0, []), (.invokevirtual 121, 160, [1, 1, 1, 1]), (.ireturn, 1, [])]
  | _ => []
abbrev n_x_feed : Nat := 103
def b_x_feed : Nat → List Item
  | 0 => [(.aload_n 0, 0, []), (.getfield 18, 11, [1, 1, 2, 3, 0]), (.getfield 157, 8, [3, 2, 0, 0, 0]), (.bipush 20, 0, []), (.iadd, 0, []), (.sipush 900, 0, []), (.if_icmp .le 5, 18, []), (.iconst (-1), 0, []), (.ireturn, 0, [])]
  | 18 => [(.aload_n 0, 0, []), (.getfield 18, 11, [1, 1, 2, 3, 0]), (.iload_n 1, 0, []), (.invokevirtual 160, 73, [2, 0, 3, 3]), (.aload_n 0, 0, []), (.getfield 18, 11, [1, 1, 2, 3, 0]), (.iload_n 2, 0, []), (.invokevirtual 160, 73, [2, 0, 3, 3]), (.aload_n 0, 0, []), (.getfield 18, 11, [1, 1, 2, 3, 0]), (.iload_n 3, 0, []), (.invokevirtual 160, 73, [2, 0, 3, 3]), (.aload_n 0, 0, []), (.getfield 18, 11, [1, 1, 2, 3, 0]), (.iload 4, 0, []), (.invokevirtual 160, 73, [2, 0, 3, 3]), (.aload_n 0, 0, []), (.getfield 18, 11, [1, 1, 2, 3, 0]), (.iload 5, 0, []), (.invokevirtual 160, 73, [2, 0, 3, 3]), (.aload_n 0, 0, []), (.getfield 18, 11, [1, 1, 2, 3, 0]), (.getfield 157, 8, [3, 2, 0, 0, 0]), (.ireturn, 0, [])]
  | _ => []
abbrev n_x_house : Nat := 104
def b_x_house : Nat → List Item
  | 0 => [(.iload_n 1, 0, []), (.iconst 0, 0, []), (.aload_n 0, 0, []), (.getfield 18, 11, [1, 1, 2, 3, 0]), (.getfield 157, 8, [3, 2, 0, 0, 0]), (.invokestatic 110, 171, [3, 1, 0, 3]), (.ifCond .ne 9, 21, []), (.aload_n 0, 0, []), (.iconst 1, 0, []), (.invokevirtual 133, 159, [2, 1, 1, 2]), (.ireturn, 0, [])]
  | 21 => [(.aload_n 0, 0, []), (.getfield 18, 11, [1, 1, 2, 3, 0]), (.iload_n 1, 0, []), (.invokevirtual 163, 74, [2, 0, 3, 2]), (.aload_n 0, 0, []), (.getfield 27, 11, [1, 2, 2, 6, 0]), (.aload_n 0, 0, []), (.getfield 83, 11, [1, 12, 3, 22, 9]), (.invokevirtual 166, 38, [2, 1, 6, 3]), (.ifCond .ne 10, 50, []), (.aload_n 0, 0, []), (.bipush 9, 0, []), (.invokevirtual 133, 159, [2, 1, 1, 2]), (.ireturn, 0, [])]
  | 50 => [(.aload_n 0, 0, []), (.getfield 79, 11, [1, 11, 3, 22, 9]), (.astore_n 2, 0, []), (.aload_n 0, 0, []), (.aload_n 0, 0, []), (.getfield 83, 11, [1, 12, 3, 22, 9]), (.putfield 79, 11, [1, 11, 3, 22, 9]), (.aload_n 0, 0, []), (.aload_n 2, 0, []), (.putfield 83, 11, [1, 12, 3, 22, 9]), (.aload_n 0, 0, []), (.getfield 87, 11, [1, 13, 3, 37, 5]), (.invokevirtual 170, 12, [1, 0, 37, 1]), (.aload_n 0, 0, []), (.aload_n 0, 0, []), (.getfield 79, 11, [1, 11, 3, 22, 9]), (.getfield 173, 3, [22, 1, 2, 27, 0]), (.getfield 177, 6, [27, 8, 0, 0, 0]), (.invokevirtual 182, 157, [2, 1, 1, 2]), (.ireturn, 0, [])]
  | _ => []
abbrev n_x_days : Nat := 105
def b_x_days : Nat → List Item
  | 0 => [(.iload_n 1, 0, []), (.iconst 0, 0, []), (.aload_n 0, 0, []), (.getfield 18, 11, [1, 1, 2, 3, 0]), (.getfield 157, 8, [3, 2, 0, 0, 0]), (.invokestatic 110, 171, [3, 1, 0, 3]), (.ifCond .eq 10, 22, []), (.iload_n 1, 0, []), (.sipush 300, 0, []), (.if_icmp .le 9, 28, []), (.nop, 22, [])]
  | 22 => [(.aload_n 0, 0, []), (.iconst 1, 0, []), (.invokevirtual 133, 159, [2, 1, 1, 2]), (.ireturn, 0, [])]
  | 28 => [(.aload_n 0, 0, []), (.getfield 18, 11, [1, 1, 2, 3, 0]), (.iload_n 1, 0, []), (.invokevirtual 163, 74, [2, 0, 3, 2]), (.aload_n 0, 0, []), (.getfield 34, 11, [1, 3, 2, 7, 0]), (.aload_n 0, 0, []), (.getfield 91, 11, [1, 14, 3, 37, 5]), (.aload_n 0, 0, []), (.getfield 79, 11, [1, 11, 3, 22, 9]), (.invokevirtual 185, 15, [3, 1, 7, 4]), (.ifCond .ne 10, 61, []), (.aload_n 0, 0, []), (.bipush 9, 0, []), (.invokevirtual 133, 159, [2, 1, 1, 2]), (.ireturn, 0, [])]
  | 61 => [(.aload_n 0, 0, []), (.getfield 87, 11, [1, 13, 3, 37, 5]), (.astore_n 2, 0, []), (.aload_n 0, 0, []), (.aload_n 0, 0, []), (.getfield 91, 11, [1, 14, 3, 37, 5]), (.putfield 87, 11, [1, 13, 3, 37, 5]), (.aload_n 0, 0, []), (.aload_n 2, 0, []), (.putfield 91, 11, [1, 14, 3, 37, 5]), (.aload_n 0, 0, []), (.aload_n 0, 0, []), (.getfield 87, 11, [1, 13, 3, 37, 5]), (.getfield 188, 1, [37, 7, 0, 0, 0]), (.invokevirtual 182, 157, [2, 1, 1, 2]), (.ireturn, 0, [])]
  | _ => []
abbrev n_x_fault : Nat := 106
def b_x_fault : Nat → List Item
  | 0 => [(.iload_n 1, 0, []), (.ifCond .ne 11, 12, []), (.aload_n 0, 0, []), (.getfield 18, 11, [1, 1, 2, 3, 0]), (.getfield 191, 8, [3, 3, 0, 0, 0]), (.ireturn, 0, [])]
  | 12 => [(.iload_n 1, 0, []), (.iconst 1, 0, []), (.if_icmp .ne 13, 27, []), (.aload_n 0, 0, []), (.getfield 18, 11, [1, 1, 2, 3, 0]), (.getfield 194, 8, [3, 4, 0, 0, 0]), (.goto 4, 28, [])]
  | 27 => [(.iconst (-1), 0, []), (.nop, 28, [])]
  | 28 => [(.ireturn, 0, [])]
  | _ => []
abbrev n_x_told : Nat := 107
def b_x_told : Nat → List Item
  | 0 => [(.iload_n 1, 0, []), (.tableswitch 168 0 8 #[51, 66, 81, 93, 105, 117, 129, 141, 153], 169, [52, 67, 82, 94, 106, 118, 130, 142, 154])]
  | 52 => [(.aload_n 0, 0, []), (.aload_n 0, 0, []), (.getfield 79, 11, [1, 11, 3, 22, 9]), (.getfield 197, 3, [22, 0, 2, 23, 0]), (.getfield 201, 9, [23, 3, 0, 0, 0]), (.invokevirtual 182, 157, [2, 1, 1, 2]), (.ireturn, 0, [])]
  | 67 => [(.aload_n 0, 0, []), (.aload_n 0, 0, []), (.getfield 79, 11, [1, 11, 3, 22, 9]), (.getfield 173, 3, [22, 1, 2, 27, 0]), (.getfield 177, 6, [27, 8, 0, 0, 0]), (.invokevirtual 182, 157, [2, 1, 1, 2]), (.ireturn, 0, [])]
  | 82 => [(.aload_n 0, 0, []), (.aload_n 0, 0, []), (.getfield 79, 11, [1, 11, 3, 22, 9]), (.getfield 204, 3, [22, 4, 0, 0, 0]), (.invokevirtual 182, 157, [2, 1, 1, 2]), (.ireturn, 0, [])]
  | 94 => [(.aload_n 0, 0, []), (.aload_n 0, 0, []), (.getfield 79, 11, [1, 11, 3, 22, 9]), (.getfield 207, 3, [22, 5, 0, 0, 0]), (.invokevirtual 182, 157, [2, 1, 1, 2]), (.ireturn, 0, [])]
  | 106 => [(.aload_n 0, 0, []), (.aload_n 0, 0, []), (.getfield 79, 11, [1, 11, 3, 22, 9]), (.getfield 210, 3, [22, 6, 0, 0, 0]), (.invokevirtual 182, 157, [2, 1, 1, 2]), (.ireturn, 0, [])]
  | 118 => [(.aload_n 0, 0, []), (.aload_n 0, 0, []), (.getfield 79, 11, [1, 11, 3, 22, 9]), (.getfield 213, 3, [22, 7, 0, 0, 0]), (.invokevirtual 182, 157, [2, 1, 1, 2]), (.ireturn, 0, [])]
  | 130 => [(.aload_n 0, 0, []), (.aload_n 0, 0, []), (.getfield 79, 11, [1, 11, 3, 22, 9]), (.getfield 216, 3, [22, 8, 0, 0, 0]), (.invokevirtual 182, 157, [2, 1, 1, 2]), (.ireturn, 0, [])]
  | 142 => [(.aload_n 0, 0, []), (.aload_n 0, 0, []), (.getfield 79, 11, [1, 11, 3, 22, 9]), (.getfield 219, 3, [22, 9, 0, 0, 0]), (.invokevirtual 182, 157, [2, 1, 1, 2]), (.ireturn, 0, [])]
  | 154 => [(.aload_n 0, 0, []), (.aload_n 0, 0, []), (.getfield 79, 11, [1, 11, 3, 22, 9]), (.getfield 173, 3, [22, 1, 2, 27, 0]), (.getfield 222, 6, [27, 7, 0, 0, 0]), (.invokevirtual 182, 157, [2, 1, 1, 2]), (.ireturn, 0, [])]
  | 169 => [(.aload_n 0, 0, []), (.iconst 1, 0, []), (.invokevirtual 133, 159, [2, 1, 1, 2]), (.ireturn, 0, [])]
  | _ => []
abbrev n_x_topic : Nat := 108
def b_x_topic : Nat → List Item
  | 0 => [(.aload_n 0, 0, []), (.iload_n 1, 0, []), (.invokevirtual 225, 163, [2, 1, 1, 2]), (.ifCond .ne 9, 14, []), (.aload_n 0, 0, []), (.iconst 1, 0, []), (.invokevirtual 133, 159, [2, 1, 1, 2]), (.ireturn, 0, [])]
  | 14 => [(.iload_n 2, 0, []), (.tableswitch 75 0 2 #[25, 42, 59], 90, [40, 57, 74])]
  | 40 => [(.aload_n 0, 0, []), (.aload_n 0, 0, []), (.getfield 79, 11, [1, 11, 3, 22, 9]), (.getfield 197, 3, [22, 0, 2, 23, 0]), (.getfield 228, 9, [23, 1, 2, 25, 0]), (.iload_n 1, 0, []), (.iaload, 0, []), (.invokevirtual 182, 157, [2, 1, 1, 2]), (.ireturn, 0, [])]
  | 57 => [(.aload_n 0, 0, []), (.aload_n 0, 0, []), (.getfield 79, 11, [1, 11, 3, 22, 9]), (.getfield 197, 3, [22, 0, 2, 23, 0]), (.getfield 232, 9, [23, 2, 2, 26, 0]), (.iload_n 1, 0, []), (.iaload, 0, []), (.invokevirtual 182, 157, [2, 1, 1, 2]), (.ireturn, 0, [])]
  | 74 => [(.aload_n 0, 0, []), (.aload_n 0, 0, []), (.getfield 79, 11, [1, 11, 3, 22, 9]), (.getfield 197, 3, [22, 0, 2, 23, 0]), (.iload_n 1, 0, []), (.invokevirtual 235, 89, [2, 1, 23, 4]), (.invokevirtual 182, 157, [2, 1, 1, 2]), (.ireturn, 0, [])]
  | 90 => [(.aload_n 0, 0, []), (.iconst 1, 0, []), (.invokevirtual 133, 159, [2, 1, 1, 2]), (.ireturn, 0, [])]
  | _ => []
abbrev n_x_monk : Nat := 109
def b_x_monk : Nat → List Item
  | 0 => [(.aload_n 0, 0, []), (.iload_n 1, 0, []), (.invokevirtual 238, 164, [2, 1, 1, 2]), (.ifCond .ne 9, 14, []), (.aload_n 0, 0, []), (.iconst 1, 0, []), (.invokevirtual 133, 159, [2, 1, 1, 2]), (.ireturn, 0, [])]
  | 14 => [(.iload_n 2, 0, []), (.tableswitch 162 0 6 #[41, 58, 75, 92, 111, 128, 145], 177, [56, 73, 90, 107, 126, 143, 160])]
  | 56 => [(.aload_n 0, 0, []), (.aload_n 0, 0, []), (.getfield 79, 11, [1, 11, 3, 22, 9]), (.getfield 173, 3, [22, 1, 2, 27, 0]), (.getfield 241, 6, [27, 1, 2, 29, 0]), (.iload_n 1, 0, []), (.iaload, 0, []), (.invokevirtual 182, 157, [2, 1, 1, 2]), (.ireturn, 0, [])]
  | 73 => [(.aload_n 0, 0, []), (.aload_n 0, 0, []), (.getfield 79, 11, [1, 11, 3, 22, 9]), (.getfield 173, 3, [22, 1, 2, 27, 0]), (.getfield 244, 6, [27, 2, 2, 30, 0]), (.iload_n 1, 0, []), (.iaload, 0, []), (.invokevirtual 182, 157, [2, 1, 1, 2]), (.ireturn, 0, [])]
  | 90 => [(.aload_n 0, 0, []), (.aload_n 0, 0, []), (.getfield 79, 11, [1, 11, 3, 22, 9]), (.getfield 173, 3, [22, 1, 2, 27, 0]), (.getfield 247, 6, [27, 3, 2, 31, 0]), (.iload_n 1, 0, []), (.iaload, 0, []), (.invokevirtual 182, 157, [2, 1, 1, 2]), (.ireturn, 0, [])]
  | 107 => [(.aload_n 0, 0, []), (.aload_n 0, 0, []), (.getfield 79, 11, [1, 11, 3, 22, 9]), (.getfield 173, 3, [22, 1, 2, 27, 0]), (.iload_n 1, 0, []), (.invokevirtual 250, 60, [2, 1, 27, 2]), (.invokestatic 253, 172, [1, 1, 0, 1]), (.invokevirtual 182, 157, [2, 1, 1, 2]), (.ireturn, 0, [])]
  | 126 => [(.aload_n 0, 0, []), (.aload_n 0, 0, []), (.getfield 79, 11, [1, 11, 3, 22, 9]), (.getfield 173, 3, [22, 1, 2, 27, 0]), (.getfield 257, 6, [27, 4, 2, 32, 0]), (.iload_n 1, 0, []), (.iaload, 0, []), (.invokevirtual 182, 157, [2, 1, 1, 2]), (.ireturn, 0, [])]
  | 143 => [(.aload_n 0, 0, []), (.aload_n 0, 0, []), (.getfield 79, 11, [1, 11, 3, 22, 9]), (.getfield 173, 3, [22, 1, 2, 27, 0]), (.getfield 260, 6, [27, 5, 2, 33, 0]), (.iload_n 1, 0, []), (.iaload, 0, []), (.invokevirtual 182, 157, [2, 1, 1, 2]), (.ireturn, 0, [])]
  | 160 => [(.aload_n 0, 0, []), (.aload_n 0, 0, []), (.getfield 79, 11, [1, 11, 3, 22, 9]), (.getfield 173, 3, [22, 1, 2, 27, 0]), (.getfield 263, 6, [27, 6, 2, 34, 0]), (.iload_n 1, 0, []), (.iaload, 0, []), (.invokevirtual 182, 157, [2, 1, 1, 2]), (.ireturn, 0, [])]
  | 177 => [(.aload_n 0, 0, []), (.iconst 1, 0, []), (.invokevirtual 133, 159, [2, 1, 1, 2]), (.ireturn, 0, [])]
  | _ => []
abbrev n_x_entry : Nat := 110
def b_x_entry : Nat → List Item
  | 0 => [(.iload_n 1, 0, []), (.iconst 0, 0, []), (.aload_n 0, 0, []), (.getfield 79, 11, [1, 11, 3, 22, 9]), (.getfield 204, 3, [22, 4, 0, 0, 0]), (.iconst 1, 0, []), (.isub, 0, []), (.invokestatic 110, 171, [3, 1, 0, 3]), (.ifCond .eq 12, 26, []), (.iload_n 2, 0, []), (.iconst 0, 0, []), (.iconst 1, 0, []), (.invokestatic 110, 171, [3, 1, 0, 3]), (.ifCond .ne 9, 32, []), (.nop, 26, [])]
  | 26 => [(.aload_n 0, 0, []), (.iconst 1, 0, []), (.invokevirtual 133, 159, [2, 1, 1, 2]), (.ireturn, 0, [])]
  | 32 => [(.aload_n 0, 0, []), (.iload_n 2, 0, []), (.ifCond .ne 15, 49, []), (.aload_n 0, 0, []), (.getfield 79, 11, [1, 11, 3, 22, 9]), (.getfield 266, 3, [22, 2, 2, 35, 0]), (.iload_n 1, 0, []), (.iaload, 0, []), (.goto 12, 58, [])]
  | 49 => [(.aload_n 0, 0, []), (.getfield 79, 11, [1, 11, 3, 22, 9]), (.getfield 269, 3, [22, 3, 2, 36, 0]), (.iload_n 1, 0, []), (.iaload, 0, []), (.nop, 58, [])]
  | 58 => [(.invokevirtual 182, 157, [2, 1, 1, 2]), (.ireturn, 0, [])]
  | _ => []
abbrev n_x_silent : Nat := 111
def b_x_silent : Nat → List Item
  | 0 => [(.aload_n 0, 0, []), (.getfield 79, 11, [1, 11, 3, 22, 9]), (.getfield 173, 3, [22, 1, 2, 27, 0]), (.getfield 177, 6, [27, 8, 0, 0, 0]), (.ifCond .ne 12, 22, []), (.aload_n 0, 0, []), (.bipush 6, 0, []), (.invokevirtual 133, 159, [2, 1, 1, 2]), (.goto 14, 33, [])]
  | 22 => [(.aload_n 0, 0, []), (.aload_n 0, 0, []), (.getfield 79, 11, [1, 11, 3, 22, 9]), (.getfield 272, 3, [22, 10, 0, 0, 0]), (.invokevirtual 182, 157, [2, 1, 1, 2]), (.nop, 33, [])]
  | 33 => [(.ireturn, 0, [])]
  | _ => []
abbrev n_x_last : Nat := 112
def b_x_last : Nat → List Item
  | 0 => [(.aload_n 0, 0, []), (.aload_n 0, 0, []), (.getfield 79, 11, [1, 11, 3, 22, 9]), (.getfield 275, 3, [22, 11, 0, 0, 0]), (.invokevirtual 278, 158, [2, 1, 1, 2]), (.ireturn, 0, [])]
  | _ => []
abbrev n_x_minute : Nat := 113
def b_x_minute : Nat → List Item
  | 0 => [(.iload_n 1, 0, []), (.iconst 1, 0, []), (.bipush 99, 0, []), (.invokestatic 110, 171, [3, 1, 0, 3]), (.ifCond .ne 9, 16, []), (.aload_n 0, 0, []), (.iconst 1, 0, []), (.invokevirtual 133, 159, [2, 1, 1, 2]), (.ireturn, 0, [])]
  | 16 => [(.aload_n 0, 0, []), (.getfield 79, 11, [1, 11, 3, 22, 9]), (.getfield 213, 3, [22, 7, 0, 0, 0]), (.iload_n 1, 0, []), (.iadd, 0, []), (.sipush 9999, 0, []), (.if_icmp .le 9, 37, []), (.aload_n 0, 0, []), (.iconst 4, 0, []), (.invokevirtual 133, 159, [2, 1, 1, 2]), (.ireturn, 0, [])]
  | 37 => [(.aload_n 0, 0, []), (.aload_n 0, 0, []), (.getfield 79, 11, [1, 11, 3, 22, 9]), (.iload_n 1, 0, []), (.invokevirtual 281, 34, [2, 1, 22, 4]), (.invokevirtual 182, 157, [2, 1, 1, 2]), (.ireturn, 0, [])]
  | _ => []
abbrev n_x_change : Nat := 114
def b_x_change : Nat → List Item
  | 0 => [(.aload_n 0, 0, []), (.iload_n 1, 0, []), (.invokevirtual 238, 164, [2, 1, 1, 2]), (.ifCond .ne 9, 14, []), (.aload_n 0, 0, []), (.iconst 1, 0, []), (.invokevirtual 133, 159, [2, 1, 1, 2]), (.ireturn, 0, [])]
  | 14 => [(.aload_n 0, 0, []), (.getfield 79, 11, [1, 11, 3, 22, 9]), (.getfield 272, 3, [22, 10, 0, 0, 0]), (.iload_n 1, 0, []), (.if_icmp .ne 10, 32, []), (.aload_n 0, 0, []), (.bipush 7, 0, []), (.invokevirtual 133, 159, [2, 1, 1, 2]), (.ireturn, 0, [])]
  | 32 => [(.aload_n 0, 0, []), (.getfield 79, 11, [1, 11, 3, 22, 9]), (.getfield 272, 3, [22, 10, 0, 0, 0]), (.istore_n 2, 0, []), (.aload_n 0, 0, []), (.getfield 79, 11, [1, 11, 3, 22, 9]), (.iload_n 1, 0, []), (.putfield 272, 3, [22, 10, 0, 0, 0]), (.aload_n 0, 0, []), (.iload_n 2, 0, []), (.invokevirtual 182, 157, [2, 1, 1, 2]), (.ireturn, 0, [])]
  | _ => []
abbrev n_x_wake : Nat := 115
def b_x_wake : Nat → List Item
  | 0 => [(.aload_n 0, 0, []), (.iload_n 1, 0, []), (.invokevirtual 238, 164, [2, 1, 1, 2]), (.ifCond .ne 9, 14, []), (.aload_n 0, 0, []), (.iconst 1, 0, []), (.invokevirtual 114, 161, [2, 1, 1, 2]), (.ireturn, 1, [])]
  | 14 => [(.aload_n 0, 0, []), (.getfield 79, 11, [1, 11, 3, 22, 9]), (.getfield 173, 3, [22, 1, 2, 27, 0]), (.iload_n 1, 0, []), (.invokevirtual 250, 60, [2, 1, 27, 2]), (.iload_n 2, 0, []), (.if_icmp .ne 10, 36, []), (.aload_n 0, 0, []), (.bipush 7, 0, []), (.invokevirtual 114, 161, [2, 1, 1, 2]), (.ireturn, 1, [])]
  | 36 => [(.aload_n 0, 0, []), (.getfield 79, 11, [1, 11, 3, 22, 9]), (.getfield 173, 3, [22, 1, 2, 27, 0]), (.iload_n 1, 0, []), (.iload_n 2, 0, []), (.invokevirtual 284, 61, [3, 0, 27, 3]), (.aload_n 0, 0, []), (.invokevirtual 121, 160, [1, 1, 1, 1]), (.ireturn, 1, [])]
  | _ => []
abbrev n_x_follow : Nat := 116
def b_x_follow : Nat → List Item
  | 0 => [(.aload_n 0, 0, []), (.iload_n 1, 0, []), (.invokevirtual 225, 163, [2, 1, 1, 2]), (.ifCond .eq 11, 16, []), (.aload_n 0, 0, []), (.iload_n 2, 0, []), (.invokevirtual 225, 163, [2, 1, 1, 2]), (.ifCond .ne 9, 22, []), (.nop, 16, [])]
  | 16 => [(.aload_n 0, 0, []), (.iconst 1, 0, []), (.invokevirtual 114, 161, [2, 1, 1, 2]), (.ireturn, 1, [])]
  | 22 => [(.aload_n 0, 0, []), (.getfield 79, 11, [1, 11, 3, 22, 9]), (.getfield 197, 3, [22, 0, 2, 23, 0]), (.getfield 232, 9, [23, 2, 2, 26, 0]), (.iload_n 1, 0, []), (.iaload, 0, []), (.iload_n 2, 0, []), (.invokestatic 288, 173, [2, 1, 0, 2]), (.iload_n 3, 0, []), (.if_icmp .ne 10, 49, []), (.aload_n 0, 0, []), (.bipush 7, 0, []), (.invokevirtual 114, 161, [2, 1, 1, 2]), (.ireturn, 1, [])]
  | 49 => [(.aload_n 0, 0, []), (.getfield 79, 11, [1, 11, 3, 22, 9]), (.getfield 197, 3, [22, 0, 2, 23, 0]), (.getfield 232, 9, [23, 2, 2, 26, 0]), (.iload_n 1, 0, []), (.aload_n 0, 0, []), (.getfield 79, 11, [1, 11, 3, 22, 9]), (.getfield 197, 3, [22, 0, 2, 23, 0]), (.getfield 232, 9, [23, 2, 2, 26, 0]), (.iload_n 1, 0, []), (.iaload, 0, []), (.iload_n 2, 0, []), (.iload_n 3, 0, []), (.invokestatic 291, 174, [3, 1, 0, 3]), (.iastore, 0, []), (.aload_n 0, 0, []), (.invokevirtual 121, 160, [1, 1, 1, 1]), (.ireturn, 1, [])]
  | _ => []
abbrev n_x_hear : Nat := 117
def b_x_hear : Nat → List Item
  | 0 => [(.aload_n 0, 0, []), (.iload_n 1, 0, []), (.invokevirtual 238, 164, [2, 1, 1, 2]), (.ifCond .eq 16, 21, []), (.aload_n 0, 0, []), (.iload_n 2, 0, []), (.invokevirtual 238, 164, [2, 1, 1, 2]), (.ifCond .eq 8, 21, []), (.iload_n 1, 0, []), (.iload_n 2, 0, []), (.if_icmp .ne 9, 27, []), (.nop, 21, [])]
  | 21 => [(.aload_n 0, 0, []), (.iconst 1, 0, []), (.invokevirtual 114, 161, [2, 1, 1, 2]), (.ireturn, 1, [])]
  | 27 => [(.aload_n 0, 0, []), (.getfield 79, 11, [1, 11, 3, 22, 9]), (.getfield 173, 3, [22, 1, 2, 27, 0]), (.getfield 263, 6, [27, 6, 2, 34, 0]), (.iload_n 1, 0, []), (.iaload, 0, []), (.iload_n 2, 0, []), (.invokestatic 288, 173, [2, 1, 0, 2]), (.iload_n 3, 0, []), (.if_icmp .ne 10, 54, []), (.aload_n 0, 0, []), (.bipush 7, 0, []), (.invokevirtual 114, 161, [2, 1, 1, 2]), (.ireturn, 1, [])]
  | 54 => [(.aload_n 0, 0, []), (.getfield 79, 11, [1, 11, 3, 22, 9]), (.getfield 173, 3, [22, 1, 2, 27, 0]), (.iload_n 1, 0, []), (.iload_n 2, 0, []), (.iload_n 3, 0, []), (.invokevirtual 295, 62, [4, 0, 27, 4]), (.aload_n 0, 0, []), (.invokevirtual 121, 160, [1, 1, 1, 1]), (.ireturn, 1, [])]
  | _ => []
abbrev n_x_enter : Nat := 118
def b_x_enter : Nat → List Item
  | 0 => [(.aload_n 0, 0, []), (.iload_n 1, 0, []), (.invokevirtual 238, 164, [2, 1, 1, 2]), (.ifCond .eq 11, 16, []), (.aload_n 0, 0, []), (.iload_n 2, 0, []), (.invokevirtual 225, 163, [2, 1, 1, 2]), (.ifCond .ne 9, 22, []), (.nop, 16, [])]
  | 16 => [(.aload_n 0, 0, []), (.iconst 1, 0, []), (.invokevirtual 133, 159, [2, 1, 1, 2]), (.ireturn, 0, [])]
  | 22 => [(.aload_n 0, 0, []), (.getfield 79, 11, [1, 11, 3, 22, 9]), (.getfield 204, 3, [22, 4, 0, 0, 0]), (.bipush 12, 0, []), (.if_icmp .lt 9, 40, []), (.aload_n 0, 0, []), (.iconst 4, 0, []), (.invokevirtual 133, 159, [2, 1, 1, 2]), (.ireturn, 0, [])]
  | 40 => [(.aload_n 0, 0, []), (.getfield 79, 11, [1, 11, 3, 22, 9]), (.iload_n 1, 0, []), (.iload_n 2, 0, []), (.invokevirtual 299, 25, [3, 0, 22, 3]), (.aload_n 0, 0, []), (.aload_n 0, 0, []), (.getfield 79, 11, [1, 11, 3, 22, 9]), (.getfield 204, 3, [22, 4, 0, 0, 0]), (.invokevirtual 182, 157, [2, 1, 1, 2]), (.ireturn, 0, [])]
  | _ => []
abbrev n_x_strike : Nat := 119
def b_x_strike : Nat → List Item
  | 0 => [(.iload_n 1, 0, []), (.iconst 0, 0, []), (.aload_n 0, 0, []), (.getfield 79, 11, [1, 11, 3, 22, 9]), (.getfield 204, 3, [22, 4, 0, 0, 0]), (.iconst 1, 0, []), (.isub, 0, []), (.invokestatic 110, 171, [3, 1, 0, 3]), (.ifCond .ne 9, 23, []), (.aload_n 0, 0, []), (.iconst 1, 0, []), (.invokevirtual 133, 159, [2, 1, 1, 2]), (.ireturn, 0, [])]
  | 23 => [(.aload_n 0, 0, []), (.getfield 79, 11, [1, 11, 3, 22, 9]), (.iload_n 1, 0, []), (.invokevirtual 302, 26, [2, 0, 22, 3]), (.aload_n 0, 0, []), (.aload_n 0, 0, []), (.getfield 79, 11, [1, 11, 3, 22, 9]), (.getfield 204, 3, [22, 4, 0, 0, 0]), (.invokevirtual 182, 157, [2, 1, 1, 2]), (.ireturn, 0, [])]
  | _ => []
abbrev n_x_breathe : Nat := 120
def b_x_breathe : Nat → List Item
  | 0 => [(.aload_n 0, 0, []), (.iload_n 1, 0, []), (.invokevirtual 238, 164, [2, 1, 1, 2]), (.ifCond .eq 23, 28, []), (.iload_n 2, 0, []), (.iconst 0, 0, []), (.aload_n 0, 0, []), (.getfield 79, 11, [1, 11, 3, 22, 9]), (.getfield 173, 3, [22, 1, 2, 27, 0]), (.getfield 244, 6, [27, 2, 2, 30, 0]), (.iload_n 1, 0, []), (.iaload, 0, []), (.invokestatic 110, 171, [3, 1, 0, 3]), (.ifCond .ne 9, 34, []), (.nop, 28, [])]
  | 28 => [(.aload_n 0, 0, []), (.iconst 1, 0, []), (.invokevirtual 114, 161, [2, 1, 1, 2]), (.ireturn, 1, [])]
  | 34 => [(.aload_n 0, 0, []), (.getfield 79, 11, [1, 11, 3, 22, 9]), (.getfield 173, 3, [22, 1, 2, 27, 0]), (.getfield 241, 6, [27, 1, 2, 29, 0]), (.iload_n 1, 0, []), (.iload_n 2, 0, []), (.iastore, 0, []), (.aload_n 0, 0, []), (.invokevirtual 121, 160, [1, 1, 1, 1]), (.ireturn, 1, [])]
  | _ => []
abbrev n_x_price : Nat := 121
def b_x_price : Nat → List Item
  | 0 => [(.aload_n 0, 0, []), (.iload_n 1, 0, []), (.invokevirtual 225, 163, [2, 1, 1, 2]), (.ifCond .eq 13, 18, []), (.iload_n 2, 0, []), (.iconst 0, 0, []), (.bipush 20, 0, []), (.invokestatic 110, 171, [3, 1, 0, 3]), (.ifCond .ne 9, 24, []), (.nop, 18, [])]
  | 18 => [(.aload_n 0, 0, []), (.iconst 1, 0, []), (.invokevirtual 114, 161, [2, 1, 1, 2]), (.ireturn, 1, [])]
  | 24 => [(.aload_n 0, 0, []), (.getfield 79, 11, [1, 11, 3, 22, 9]), (.getfield 197, 3, [22, 0, 2, 23, 0]), (.getfield 228, 9, [23, 1, 2, 25, 0]), (.iload_n 1, 0, []), (.iload_n 2, 0, []), (.iastore, 0, []), (.aload_n 0, 0, []), (.invokevirtual 121, 160, [1, 1, 1, 1]), (.ireturn, 1, [])]
  | _ => []
abbrev n_x_rule : Nat := 122
def b_x_rule : Nat → List Item
  | 0 => [(.iload_n 1, 0, []), (.iconst 3, 0, []), (.if_icmp .ne 26, 28, []), (.iload_n 2, 0, []), (.iconst 1, 0, []), (.bipush 99, 0, []), (.invokestatic 110, 171, [3, 1, 0, 3]), (.ifCond .eq 16, 28, []), (.aload_n 0, 0, []), (.getfield 79, 11, [1, 11, 3, 22, 9]), (.iload_n 2, 0, []), (.putfield 207, 3, [22, 5, 0, 0, 0]), (.aload_n 0, 0, []), (.invokevirtual 121, 160, [1, 1, 1, 1]), (.ireturn, 1, [])]
  | 28 => [(.iload_n 1, 0, []), (.iconst 4, 0, []), (.if_icmp .ne 26, 56, []), (.iload_n 2, 0, []), (.iconst 0, 0, []), (.bipush 16, 0, []), (.invokestatic 110, 171, [3, 1, 0, 3]), (.ifCond .eq 16, 56, []), (.aload_n 0, 0, []), (.getfield 79, 11, [1, 11, 3, 22, 9]), (.iload_n 2, 0, []), (.putfield 210, 3, [22, 6, 0, 0, 0]), (.aload_n 0, 0, []), (.invokevirtual 121, 160, [1, 1, 1, 1]), (.ireturn, 1, [])]
  | 56 => [(.aload_n 0, 0, []), (.iconst 1, 0, []), (.invokevirtual 114, 161, [2, 1, 1, 2]), (.ireturn, 1, [])]
  | _ => []
abbrev n_x_can : Nat := 123
def b_x_can : Nat → List Item
  | 0 => [(.aload_n 0, 0, []), (.iload_n 1, 0, []), (.invokevirtual 238, 164, [2, 1, 1, 2]), (.ifCond .eq 11, 16, []), (.aload_n 0, 0, []), (.iload_n 2, 0, []), (.invokevirtual 225, 163, [2, 1, 1, 2]), (.ifCond .ne 9, 22, []), (.nop, 16, [])]
  | 16 => [(.aload_n 0, 0, []), (.iconst 1, 0, []), (.invokevirtual 133, 159, [2, 1, 1, 2]), (.ireturn, 0, [])]
  | 22 => [(.aload_n 0, 0, []), (.aload_n 0, 0, []), (.getfield 79, 11, [1, 11, 3, 22, 9]), (.iload_n 1, 0, []), (.iload_n 2, 0, []), (.invokevirtual 305, 29, [3, 1, 22, 3]), (.invokestatic 253, 172, [1, 1, 0, 1]), (.invokevirtual 182, 157, [2, 1, 1, 2]), (.ireturn, 0, [])]
  | _ => []
abbrev n_x_topics : Nat := 124
def b_x_topics : Nat → List Item
  | 0 => [(.aload_n 0, 0, []), (.iload_n 1, 0, []), (.invokevirtual 238, 164, [2, 1, 1, 2]), (.ifCond .eq 18, 23, []), (.aload_n 0, 0, []), (.aload_n 0, 0, []), (.getfield 79, 11, [1, 11, 3, 22, 9]), (.iload_n 1, 0, []), (.invokevirtual 308, 30, [2, 1, 22, 2]), (.invokevirtual 182, 157, [2, 1, 1, 2]), (.goto 8, 28, [])]
  | 23 => [(.aload_n 0, 0, []), (.iconst 1, 0, []), (.invokevirtual 133, 159, [2, 1, 1, 2]), (.nop, 28, [])]
  | 28 => [(.ireturn, 0, [])]
  | _ => []
abbrev n_x_speakers : Nat := 125
def b_x_speakers : Nat → List Item
  | 0 => [(.aload_n 0, 0, []), (.iload_n 1, 0, []), (.invokevirtual 225, 163, [2, 1, 1, 2]), (.ifCond .ne 9, 14, []), (.aload_n 0, 0, []), (.iconst 1, 0, []), (.invokevirtual 133, 159, [2, 1, 1, 2]), (.ireturn, 0, [])]
  | 14 => [(.iconst 0, 0, []), (.istore_n 2, 0, []), (.iconst 0, 0, []), (.istore_n 3, 0, []), (.nop, 18, [])]
  | 18 => [(.iload_n 3, 0, []), (.aload_n 0, 0, []), (.getfield 79, 11, [1, 11, 3, 22, 9]), (.getfield 173, 3, [22, 1, 2, 27, 0]), (.getfield 177, 6, [27, 8, 0, 0, 0]), (.if_icmp .ge 24, 53, []), (.iload_n 2, 0, []), (.iload_n 3, 0, []), (.aload_n 0, 0, []), (.getfield 79, 11, [1, 11, 3, 22, 9]), (.iload_n 3, 0, []), (.iload_n 1, 0, []), (.invokevirtual 305, 29, [3, 1, 22, 3]), (.invokestatic 291, 174, [3, 1, 0, 3]), (.istore_n 2, 0, []), (.iinc 3 1, 0, []), (.goto (-32), 18, [])]
  | 53 => [(.aload_n 0, 0, []), (.iload_n 2, 0, []), (.invokevirtual 182, 157, [2, 1, 1, 2]), (.ireturn, 0, [])]
  | _ => []
abbrev n_x_speaker : Nat := 126
def b_x_speaker : Nat → List Item
  | 0 => [(.aload_n 0, 0, []), (.aload_n 0, 0, []), (.getfield 79, 11, [1, 11, 3, 22, 9]), (.invokevirtual 311, 31, [1, 1, 22, 2]), (.invokestatic 315, 178, [1, 1, 0, 1]), (.invokevirtual 278, 158, [2, 1, 1, 2]), (.ireturn, 0, [])]
  | _ => []
abbrev n_x_spoken : Nat := 127
def b_x_spoken : Nat → List Item
  | 0 => [(.aload_n 0, 0, []), (.aload_n 0, 0, []), (.getfield 79, 11, [1, 11, 3, 22, 9]), (.invokevirtual 311, 31, [1, 1, 22, 2]), (.invokestatic 318, 179, [1, 1, 0, 1]), (.invokevirtual 278, 158, [2, 1, 1, 2]), (.ireturn, 0, [])]
  | _ => []
abbrev n_x_speakerIn : Nat := 128
def b_x_speakerIn : Nat → List Item
  | 0 => [(.iload_n 1, 0, []), (.iconst 0, 0, []), (.sipush 300, 0, []), (.invokestatic 110, 171, [3, 1, 0, 3]), (.ifCond .ne 9, 17, []), (.aload_n 0, 0, []), (.iconst 1, 0, []), (.invokevirtual 133, 159, [2, 1, 1, 2]), (.ireturn, 0, [])]
  | 17 => [(.aload_n 0, 0, []), (.aload_n 0, 0, []), (.getfield 53, 11, [1, 6, 2, 11, 0]), (.aload_n 0, 0, []), (.getfield 79, 11, [1, 11, 3, 22, 9]), (.iload_n 1, 0, []), (.invokevirtual 321, 1, [3, 1, 11, 3]), (.invokevirtual 311, 31, [1, 1, 22, 2]), (.invokestatic 315, 178, [1, 1, 0, 1]), (.invokevirtual 278, 158, [2, 1, 1, 2]), (.ireturn, 0, [])]
  | _ => []
abbrev n_x_breathIn : Nat := 129
def b_x_breathIn : Nat → List Item
  | 0 => [(.aload_n 0, 0, []), (.iload_n 1, 0, []), (.invokevirtual 238, 164, [2, 1, 1, 2]), (.ifCond .eq 14, 19, []), (.iload_n 2, 0, []), (.iconst 0, 0, []), (.sipush 300, 0, []), (.invokestatic 110, 171, [3, 1, 0, 3]), (.ifCond .ne 9, 25, []), (.nop, 19, [])]
  | 19 => [(.aload_n 0, 0, []), (.iconst 1, 0, []), (.invokevirtual 133, 159, [2, 1, 1, 2]), (.ireturn, 0, [])]
  | 25 => [(.aload_n 0, 0, []), (.aload_n 0, 0, []), (.getfield 53, 11, [1, 6, 2, 11, 0]), (.aload_n 0, 0, []), (.getfield 79, 11, [1, 11, 3, 22, 9]), (.iload_n 2, 0, []), (.invokevirtual 321, 1, [3, 1, 11, 3]), (.getfield 173, 3, [22, 1, 2, 27, 0]), (.getfield 241, 6, [27, 1, 2, 29, 0]), (.iload_n 1, 0, []), (.iaload, 0, []), (.invokevirtual 182, 157, [2, 1, 1, 2]), (.ireturn, 0, [])]
  | _ => []
abbrev n_x_pauseIn : Nat := 130
def b_x_pauseIn : Nat → List Item
  | 0 => [(.aload_n 0, 0, []), (.aload_n 0, 0, []), (.getfield 53, 11, [1, 6, 2, 11, 0]), (.aload_n 0, 0, []), (.getfield 79, 11, [1, 11, 3, 22, 9]), (.sipush 301, 0, []), (.invokevirtual 325, 2, [3, 1, 11, 3]), (.invokevirtual 278, 158, [2, 1, 1, 2]), (.ireturn, 0, [])]
  | _ => []
abbrev n_x_pausesIn : Nat := 131
def b_x_pausesIn : Nat → List Item
  | 0 => [(.iload_n 1, 0, []), (.iconst 0, 0, []), (.sipush 300, 0, []), (.invokestatic 110, 171, [3, 1, 0, 3]), (.ifCond .ne 9, 17, []), (.aload_n 0, 0, []), (.iconst 1, 0, []), (.invokevirtual 133, 159, [2, 1, 1, 2]), (.ireturn, 0, [])]
  | 17 => [(.aload_n 0, 0, []), (.aload_n 0, 0, []), (.getfield 53, 11, [1, 6, 2, 11, 0]), (.aload_n 0, 0, []), (.getfield 79, 11, [1, 11, 3, 22, 9]), (.iload_n 1, 0, []), (.invokevirtual 321, 1, [3, 1, 11, 3]), (.getfield 216, 3, [22, 8, 0, 0, 0]), (.aload_n 0, 0, []), (.getfield 79, 11, [1, 11, 3, 22, 9]), (.getfield 216, 3, [22, 8, 0, 0, 0]), (.isub, 0, []), (.invokevirtual 182, 157, [2, 1, 1, 2]), (.ireturn, 0, [])]
  | _ => []
abbrev n_x_turnIn : Nat := 132
def b_x_turnIn : Nat → List Item
  | 0 => [(.aload_n 0, 0, []), (.iload_n 1, 0, []), (.invokevirtual 238, 164, [2, 1, 1, 2]), (.ifCond .eq 18, 23, []), (.aload_n 0, 0, []), (.aload_n 0, 0, []), (.getfield 79, 11, [1, 11, 3, 22, 9]), (.iload_n 1, 0, []), (.invokevirtual 329, 37, [2, 1, 22, 3]), (.invokevirtual 182, 157, [2, 1, 1, 2]), (.goto 8, 28, [])]
  | 23 => [(.aload_n 0, 0, []), (.iconst 1, 0, []), (.invokevirtual 133, 159, [2, 1, 1, 2]), (.nop, 28, [])]
  | 28 => [(.ireturn, 0, [])]
  | _ => []
abbrev n_x_unfair : Nat := 133
def b_x_unfair : Nat → List Item
  | 0 => [(.aload_n 0, 0, []), (.aload_n 0, 0, []), (.getfield 79, 11, [1, 11, 3, 22, 9]), (.getfield 173, 3, [22, 1, 2, 27, 0]), (.invokevirtual 332, 65, [1, 1, 27, 4]), (.invokevirtual 182, 157, [2, 1, 1, 2]), (.ireturn, 0, [])]
  | _ => []
abbrev n_x_enough : Nat := 134
def b_x_enough : Nat → List Item
  | 0 => [(.aload_n 0, 0, []), (.iload_n 1, 0, []), (.invokevirtual 335, 165, [2, 1, 1, 2]), (.ifCond .eq 13, 18, []), (.iload_n 2, 0, []), (.iconst 0, 0, []), (.bipush 60, 0, []), (.invokestatic 110, 171, [3, 1, 0, 3]), (.ifCond .ne 9, 24, []), (.nop, 18, [])]
  | 18 => [(.aload_n 0, 0, []), (.iconst 1, 0, []), (.invokevirtual 133, 159, [2, 1, 1, 2]), (.ireturn, 0, [])]
  | 24 => [(.aload_n 0, 0, []), (.aload_n 0, 0, []), (.getfield 53, 11, [1, 6, 2, 11, 0]), (.aload_n 0, 0, []), (.getfield 79, 11, [1, 11, 3, 22, 9]), (.iload_n 1, 0, []), (.iload_n 2, 0, []), (.invokevirtual 338, 4, [4, 1, 11, 5]), (.invokestatic 253, 172, [1, 1, 0, 1]), (.invokevirtual 182, 157, [2, 1, 1, 2]), (.ireturn, 0, [])]
  | _ => []
abbrev n_x_fewest : Nat := 135
def b_x_fewest : Nat → List Item
  | 0 => [(.iload_n 1, 0, []), (.iconst 0, 0, []), (.bipush 60, 0, []), (.invokestatic 110, 171, [3, 1, 0, 3]), (.ifCond .ne 9, 16, []), (.aload_n 0, 0, []), (.iconst 1, 0, []), (.invokevirtual 133, 159, [2, 1, 1, 2]), (.ireturn, 0, [])]
  | 16 => [(.aload_n 0, 0, []), (.getfield 53, 11, [1, 6, 2, 11, 0]), (.aload_n 0, 0, []), (.getfield 79, 11, [1, 11, 3, 22, 9]), (.iload_n 1, 0, []), (.invokevirtual 342, 5, [3, 1, 11, 6]), (.istore_n 2, 0, []), (.iload_n 2, 0, []), (.iconst (-1), 0, []), (.if_icmp .ne 12, 43, []), (.aload_n 0, 0, []), (.bipush 6, 0, []), (.invokevirtual 133, 159, [2, 1, 1, 2]), (.goto 11, 51, [])]
  | 43 => [(.aload_n 0, 0, []), (.iload_n 2, 0, []), (.invokestatic 345, 332, [1, 1, 0, 1]), (.invokevirtual 182, 157, [2, 1, 1, 2]), (.nop, 51, [])]
  | 51 => [(.ireturn, 0, [])]
  | _ => []
abbrev n_x_fewestSet : Nat := 136
def b_x_fewestSet : Nat → List Item
  | 0 => [(.iload_n 1, 0, []), (.iconst 0, 0, []), (.bipush 60, 0, []), (.invokestatic 110, 171, [3, 1, 0, 3]), (.ifCond .ne 9, 16, []), (.aload_n 0, 0, []), (.iconst 1, 0, []), (.invokevirtual 133, 159, [2, 1, 1, 2]), (.ireturn, 0, [])]
  | 16 => [(.aload_n 0, 0, []), (.aload_n 0, 0, []), (.getfield 53, 11, [1, 6, 2, 11, 0]), (.aload_n 0, 0, []), (.getfield 79, 11, [1, 11, 3, 22, 9]), (.iload_n 1, 0, []), (.invokevirtual 342, 5, [3, 1, 11, 6]), (.invokevirtual 278, 158, [2, 1, 1, 2]), (.ireturn, 0, [])]
  | _ => []
abbrev n_x_shift : Nat := 137
def b_x_shift : Nat → List Item
  | 0 => [(.iload_n 1, 0, []), (.iconst 1, 0, []), (.iconst 3, 0, []), (.invokestatic 110, 171, [3, 1, 0, 3]), (.ifCond .ne 9, 15, []), (.aload_n 0, 0, []), (.iconst 1, 0, []), (.invokevirtual 133, 159, [2, 1, 1, 2]), (.ireturn, 0, [])]
  | 15 => [(.aload_n 0, 0, []), (.aload_n 0, 0, []), (.getfield 53, 11, [1, 6, 2, 11, 0]), (.aload_n 0, 0, []), (.getfield 79, 11, [1, 11, 3, 22, 9]), (.iload_n 1, 0, []), (.invokevirtual 350, 6, [3, 1, 11, 3]), (.invokevirtual 278, 158, [2, 1, 1, 2]), (.ireturn, 0, [])]
  | _ => []
abbrev n_x_shiftAt : Nat := 138
def b_x_shiftAt : Nat → List Item
  | 0 => [(.iload_n 1, 0, []), (.iconst 1, 0, []), (.iconst 3, 0, []), (.invokestatic 110, 171, [3, 1, 0, 3]), (.ifCond .eq 23, 29, []), (.iload_n 2, 0, []), (.iconst 0, 0, []), (.iload_n 1, 0, []), (.iconst 1, 0, []), (.isub, 0, []), (.invokestatic 110, 171, [3, 1, 0, 3]), (.ifCond .eq 12, 29, []), (.iload_n 3, 0, []), (.iconst 0, 0, []), (.iconst 1, 0, []), (.invokestatic 110, 171, [3, 1, 0, 3]), (.ifCond .ne 9, 35, []), (.nop, 29, [])]
  | 29 => [(.aload_n 0, 0, []), (.iconst 1, 0, []), (.invokevirtual 133, 159, [2, 1, 1, 2]), (.ireturn, 0, [])]
  | 35 => [(.aload_n 0, 0, []), (.getfield 53, 11, [1, 6, 2, 11, 0]), (.aload_n 0, 0, []), (.getfield 79, 11, [1, 11, 3, 22, 9]), (.iload_n 1, 0, []), (.invokevirtual 350, 6, [3, 1, 11, 3]), (.iconst (-1), 0, []), (.if_icmp .ne 10, 58, []), (.aload_n 0, 0, []), (.bipush 6, 0, []), (.invokevirtual 133, 159, [2, 1, 1, 2]), (.ireturn, 0, [])]
  | 58 => [(.aload_n 0, 0, []), (.getfield 53, 11, [1, 6, 2, 11, 0]), (.getfield 353, 0, [11, 6, 2, 15, 0]), (.iload_n 2, 0, []), (.iaload, 0, []), (.istore 4, 0, []), (.aload_n 0, 0, []), (.iload_n 3, 0, []), (.ifCond .ne 11, 82, []), (.iload 4, 0, []), (.invokestatic 315, 178, [1, 1, 0, 1]), (.goto 8, 87, [])]
  | 82 => [(.iload 4, 0, []), (.invokestatic 318, 179, [1, 1, 0, 1]), (.nop, 87, [])]
  | 87 => [(.invokevirtual 182, 157, [2, 1, 1, 2]), (.ireturn, 0, [])]
  | _ => []
abbrev n_x_talk : Nat := 139
def b_x_talk : Nat → List Item
  | 0 => [(.aload_n 0, 0, []), (.iload_n 1, 0, []), (.invokevirtual 225, 163, [2, 1, 1, 2]), (.ifCond .eq 25, 30, []), (.aload_n 0, 0, []), (.aload_n 0, 0, []), (.getfield 60, 11, [1, 7, 2, 16, 0]), (.aload_n 0, 0, []), (.getfield 79, 11, [1, 11, 3, 22, 9]), (.getfield 197, 3, [22, 0, 2, 23, 0]), (.iload_n 1, 0, []), (.invokevirtual 356, 67, [3, 1, 16, 3]), (.invokevirtual 182, 157, [2, 1, 1, 2]), (.goto 8, 35, [])]
  | 30 => [(.aload_n 0, 0, []), (.iconst 1, 0, []), (.invokevirtual 133, 159, [2, 1, 1, 2]), (.nop, 35, [])]
  | 35 => [(.ireturn, 0, [])]
  | _ => []
abbrev n_x_talkAt : Nat := 140
def b_x_talkAt : Nat → List Item
  | 0 => [(.aload_n 0, 0, []), (.iload_n 1, 0, []), (.invokevirtual 225, 163, [2, 1, 1, 2]), (.ifCond .eq 7, 12, []), (.iload_n 2, 0, []), (.ifCond .ge 9, 18, []), (.nop, 12, [])]
  | 12 => [(.aload_n 0, 0, []), (.iconst 1, 0, []), (.invokevirtual 133, 159, [2, 1, 1, 2]), (.ireturn, 0, [])]
  | 18 => [(.iload_n 2, 0, []), (.aload_n 0, 0, []), (.getfield 60, 11, [1, 7, 2, 16, 0]), (.aload_n 0, 0, []), (.getfield 79, 11, [1, 11, 3, 22, 9]), (.getfield 197, 3, [22, 0, 2, 23, 0]), (.iload_n 1, 0, []), (.invokevirtual 356, 67, [3, 1, 16, 3]), (.if_icmp .ge 19, 53, []), (.aload_n 0, 0, []), (.aload_n 0, 0, []), (.getfield 60, 11, [1, 7, 2, 16, 0]), (.getfield 360, 7, [16, 1, 2, 18, 0]), (.iload_n 2, 0, []), (.iaload, 0, []), (.invokevirtual 182, 157, [2, 1, 1, 2]), (.goto 9, 59, [])]
  | 53 => [(.aload_n 0, 0, []), (.bipush 6, 0, []), (.invokevirtual 133, 159, [2, 1, 1, 2]), (.nop, 59, [])]
  | 59 => [(.ireturn, 0, [])]
  | _ => []
abbrev n_x_ring : Nat := 141
def b_x_ring : Nat → List Item
  | 0 => [(.aload_n 0, 0, []), (.aload_n 0, 0, []), (.getfield 60, 11, [1, 7, 2, 16, 0]), (.aload_n 0, 0, []), (.getfield 79, 11, [1, 11, 3, 22, 9]), (.getfield 197, 3, [22, 0, 2, 23, 0]), (.invokevirtual 363, 69, [2, 1, 16, 4]), (.invokevirtual 278, 158, [2, 1, 1, 2]), (.ireturn, 0, [])]
  | _ => []
abbrev n_x_ringAt : Nat := 142
def b_x_ringAt : Nat → List Item
  | 0 => [(.iload_n 1, 0, []), (.ifCond .ge 9, 10, []), (.aload_n 0, 0, []), (.iconst 1, 0, []), (.invokevirtual 133, 159, [2, 1, 1, 2]), (.ireturn, 0, [])]
  | 10 => [(.iload_n 1, 0, []), (.aload_n 0, 0, []), (.getfield 60, 11, [1, 7, 2, 16, 0]), (.aload_n 0, 0, []), (.getfield 79, 11, [1, 11, 3, 22, 9]), (.getfield 197, 3, [22, 0, 2, 23, 0]), (.invokevirtual 363, 69, [2, 1, 16, 4]), (.if_icmp .ge 19, 44, []), (.aload_n 0, 0, []), (.aload_n 0, 0, []), (.getfield 60, 11, [1, 7, 2, 16, 0]), (.getfield 367, 7, [16, 0, 2, 17, 0]), (.iload_n 1, 0, []), (.iaload, 0, []), (.invokevirtual 182, 157, [2, 1, 1, 2]), (.goto 9, 50, [])]
  | 44 => [(.aload_n 0, 0, []), (.bipush 6, 0, []), (.invokevirtual 133, 159, [2, 1, 1, 2]), (.nop, 50, [])]
  | 50 => [(.ireturn, 0, [])]
  | _ => []
abbrev n_x_reach : Nat := 143
def b_x_reach : Nat → List Item
  | 0 => [(.aload_n 0, 0, []), (.iload_n 1, 0, []), (.invokevirtual 225, 163, [2, 1, 1, 2]), (.ifCond .eq 21, 26, []), (.aload_n 0, 0, []), (.aload_n 0, 0, []), (.getfield 79, 11, [1, 11, 3, 22, 9]), (.getfield 197, 3, [22, 0, 2, 23, 0]), (.iload_n 1, 0, []), (.invokestatic 369, 71, [2, 1, 0, 5]), (.invokevirtual 182, 157, [2, 1, 1, 2]), (.goto 8, 31, [])]
  | 26 => [(.aload_n 0, 0, []), (.iconst 1, 0, []), (.invokevirtual 133, 159, [2, 1, 1, 2]), (.nop, 31, [])]
  | 31 => [(.ireturn, 0, [])]
  | _ => []
abbrev n_x_wins : Nat := 144
def b_x_wins : Nat → List Item
  | 0 => [(.aload_n 0, 0, []), (.iload_n 1, 0, []), (.invokevirtual 225, 163, [2, 1, 1, 2]), (.ifCond .ne 9, 14, []), (.aload_n 0, 0, []), (.iconst 1, 0, []), (.invokevirtual 133, 159, [2, 1, 1, 2]), (.ireturn, 0, [])]
  | 14 => [(.aload_n 0, 0, []), (.aload_n 0, 0, []), (.getfield 79, 11, [1, 11, 3, 22, 9]), (.getfield 197, 3, [22, 0, 2, 23, 0]), (.iload_n 1, 0, []), (.iconst 1, 0, []), (.iload_n 1, 0, []), (.ishl, 0, []), (.invokestatic 372, 72, [3, 1, 0, 5]), (.iconst (-1), 0, []), (.if_icmp .eq 7, 37, []), (.iconst 1, 0, []), (.goto 4, 38, [])]
  | 37 => [(.iconst 0, 0, []), (.nop, 38, [])]
  | 38 => [(.invokestatic 253, 172, [1, 1, 0, 1]), (.invokevirtual 182, 157, [2, 1, 1, 2]), (.ireturn, 0, [])]
  | _ => []
abbrev n_x_best : Nat := 145
def b_x_best : Nat → List Item
  | 0 => [(.aload_n 0, 0, []), (.iload_n 1, 0, []), (.invokevirtual 225, 163, [2, 1, 1, 2]), (.ifCond .eq 24, 29, []), (.aload_n 0, 0, []), (.aload_n 0, 0, []), (.getfield 79, 11, [1, 11, 3, 22, 9]), (.getfield 197, 3, [22, 0, 2, 23, 0]), (.iload_n 1, 0, []), (.iconst 1, 0, []), (.iload_n 1, 0, []), (.ishl, 0, []), (.invokestatic 372, 72, [3, 1, 0, 5]), (.invokevirtual 278, 158, [2, 1, 1, 2]), (.goto 8, 34, [])]
  | 29 => [(.aload_n 0, 0, []), (.iconst 1, 0, []), (.invokevirtual 133, 159, [2, 1, 1, 2]), (.nop, 34, [])]
  | 34 => [(.ireturn, 0, [])]
  | _ => []
abbrev n_x_heard : Nat := 146
def b_x_heard : Nat → List Item
  | 0 => [(.iload_n 2, 0, []), (.iconst 0, 0, []), (.iconst 4, 0, []), (.invokestatic 110, 171, [3, 1, 0, 3]), (.ifCond .ne 9, 15, []), (.aload_n 0, 0, []), (.iconst 1, 0, []), (.invokevirtual 133, 159, [2, 1, 1, 2]), (.ireturn, 0, [])]
  | 15 => [(.aload_n 0, 0, []), (.iload_n 1, 0, []), (.iload_n 2, 0, []), (.invokevirtual 376, 167, [3, 1, 1, 6]), (.istore_n 3, 0, []), (.iload_n 3, 0, []), (.ifCond .ne 29, 52, []), (.aload_n 0, 0, []), (.aload_n 0, 0, []), (.getfield 53, 11, [1, 6, 2, 11, 0]), (.aload_n 0, 0, []), (.getfield 79, 11, [1, 11, 3, 22, 9]), (.aload_n 0, 0, []), (.getfield 11, 11, [1, 0, 2, 2, 0]), (.iload_n 1, 0, []), (.aaload, 0, []), (.iload_n 2, 0, []), (.iconst (-1), 0, []), (.invokevirtual 379, 10, [5, 1, 11, 6]), (.invokevirtual 182, 157, [2, 1, 1, 2]), (.goto 8, 57, [])]
  | 52 => [(.aload_n 0, 0, []), (.iload_n 3, 0, []), (.invokevirtual 133, 159, [2, 1, 1, 2]), (.nop, 57, [])]
  | 57 => [(.ireturn, 0, [])]
  | _ => []
abbrev n_x_sure : Nat := 147
def b_x_sure : Nat → List Item
  | 0 => [(.iload_n 2, 0, []), (.iconst 0, 0, []), (.iconst 4, 0, []), (.invokestatic 110, 171, [3, 1, 0, 3]), (.ifCond .eq 14, 20, []), (.iload_n 3, 0, []), (.iconst 0, 0, []), (.iload_n 2, 0, []), (.iconst 1, 0, []), (.isub, 0, []), (.invokestatic 110, 171, [3, 1, 0, 3]), (.ifCond .ne 9, 26, []), (.nop, 20, [])]
  | 20 => [(.aload_n 0, 0, []), (.iconst 1, 0, []), (.invokevirtual 133, 159, [2, 1, 1, 2]), (.ireturn, 0, [])]
  | 26 => [(.aload_n 0, 0, []), (.iload_n 1, 0, []), (.iload_n 2, 0, []), (.invokevirtual 376, 167, [3, 1, 1, 6]), (.istore 4, 0, []), (.iload 4, 0, []), (.ifCond .eq 10, 46, []), (.aload_n 0, 0, []), (.iload 4, 0, []), (.invokevirtual 133, 159, [2, 1, 1, 2]), (.ireturn, 0, [])]
  | 46 => [(.aload_n 0, 0, []), (.getfield 53, 11, [1, 6, 2, 11, 0]), (.aload_n 0, 0, []), (.getfield 79, 11, [1, 11, 3, 22, 9]), (.aload_n 0, 0, []), (.getfield 11, 11, [1, 0, 2, 2, 0]), (.iload_n 1, 0, []), (.aaload, 0, []), (.iload_n 2, 0, []), (.iload_n 3, 0, []), (.invokevirtual 379, 10, [5, 1, 11, 6]), (.pop, 0, []), (.aload_n 0, 0, []), (.aload_n 0, 0, []), (.getfield 53, 11, [1, 6, 2, 11, 0]), (.getfield 383, 0, [11, 7, 0, 0, 0]), (.invokestatic 386, 176, [1, 1, 0, 1]), (.invokevirtual 278, 158, [2, 1, 1, 2]), (.ireturn, 0, [])]
  | _ => []
abbrev n_x_couples : Nat := 148
def b_x_couples : Nat → List Item
  | 0 => [(.aload_n 0, 0, []), (.iload_n 1, 0, []), (.invokevirtual 335, 165, [2, 1, 1, 2]), (.ifCond .eq 24, 29, []), (.aload_n 0, 0, []), (.aload_n 0, 0, []), (.getfield 79, 11, [1, 11, 3, 22, 9]), (.getfield 173, 3, [22, 1, 2, 27, 0]), (.getfield 263, 6, [27, 6, 2, 34, 0]), (.iload_n 1, 0, []), (.invokestatic 389, 66, [2, 1, 0, 6]), (.invokevirtual 182, 157, [2, 1, 1, 2]), (.goto 8, 34, [])]
  | 29 => [(.aload_n 0, 0, []), (.iconst 1, 0, []), (.invokevirtual 133, 159, [2, 1, 1, 2]), (.nop, 34, [])]
  | 34 => [(.ireturn, 0, [])]
  | _ => []
abbrev n_x_allRead : Nat := 149
def b_x_allRead : Nat → List Item
  | 0 => [(.aload_n 0, 0, []), (.iload_n 1, 0, []), (.invokevirtual 335, 165, [2, 1, 1, 2]), (.ifCond .ne 9, 14, []), (.aload_n 0, 0, []), (.iconst 1, 0, []), (.invokevirtual 133, 159, [2, 1, 1, 2]), (.ireturn, 0, [])]
  | 14 => [(.aload_n 0, 0, []), (.iconst 2, 0, []), (.aload_n 0, 0, []), (.getfield 79, 11, [1, 11, 3, 22, 9]), (.getfield 173, 3, [22, 1, 2, 27, 0]), (.getfield 263, 6, [27, 6, 2, 34, 0]), (.iload_n 1, 0, []), (.invokestatic 389, 66, [2, 1, 0, 6]), (.imul, 0, []), (.iload_n 1, 0, []), (.invokestatic 345, 332, [1, 1, 0, 1]), (.if_icmp .ne 7, 42, []), (.iconst 1, 0, []), (.goto 4, 43, [])]
  | 42 => [(.iconst 0, 0, []), (.nop, 43, [])]
  | 43 => [(.invokestatic 253, 172, [1, 1, 0, 1]), (.invokevirtual 182, 157, [2, 1, 1, 2]), (.ireturn, 0, [])]
  | _ => []
abbrev n_x_coughs : Nat := 150
def b_x_coughs : Nat → List Item
  | 0 => [(.iload_n 1, 0, []), (.iconst 0, 0, []), (.bipush 7, 0, []), (.invokestatic 110, 171, [3, 1, 0, 3]), (.ifCond .ne 9, 16, []), (.aload_n 0, 0, []), (.iconst 1, 0, []), (.invokevirtual 114, 161, [2, 1, 1, 2]), (.ireturn, 1, [])]
  | 16 => [(.aload_n 0, 0, []), (.invokevirtual 393, 168, [1, 0, 1, 3]), (.lconst 0, 0, []), (.lstore_n 2, 0, []), (.lconst 0, 0, []), (.lstore 4, 0, []), (.iconst 0, 0, []), (.istore 6, 0, []), (.nop, 28, [])]
  | 28 => [(.iload 6, 0, []), (.bipush 7, 0, []), (.if_icmp .gt 41, 73, []), (.lload_n 2, 0, []), (.aload_n 0, 0, []), (.getfield 74, 11, [1, 10, 2, 21, 0]), (.iload 6, 0, []), (.laload, 0, []), (.ladd, 0, []), (.lstore_n 2, 0, []), (.lload 4, 0, []), (.iload 6, 0, []), (.iload_n 1, 0, []), (.if_icmp .lt 13, 63, []), (.aload_n 0, 0, []), (.getfield 74, 11, [1, 10, 2, 21, 0]), (.iload 6, 0, []), (.laload, 0, []), (.goto 4, 64, [])]
  | 63 => [(.lconst 0, 0, []), (.nop, 64, [])]
  | 64 => [(.ladd, 0, []), (.lstore 4, 0, []), (.iinc 6 1, 0, []), (.goto (-42), 28, [])]
  | 73 => [(.aload_n 0, 0, []), (.lload 4, 0, []), (.lload_n 2, 0, []), (.invokevirtual 396, 169, [3, 0, 1, 7]), (.aload_n 0, 0, []), (.invokevirtual 121, 160, [1, 1, 1, 1]), (.ireturn, 1, [])]
  | _ => []
abbrev n_x_copyBreath : Nat := 151
def b_x_copyBreath : Nat → List Item
  | 0 => [(.aload_n 0, 0, []), (.iload_n 1, 0, []), (.invokevirtual 106, 162, [2, 1, 1, 2]), (.ifCond .ne 9, 14, []), (.aload_n 0, 0, []), (.iconst 1, 0, []), (.invokevirtual 133, 159, [2, 1, 1, 2]), (.ireturn, 0, [])]
  | 14 => [(.aload_n 0, 0, []), (.getfield 11, 11, [1, 0, 2, 2, 0]), (.iload_n 1, 0, []), (.aaload, 0, []), (.getfield 140, 10, [44, 1, 5, 0, 0]), (.ifCond .ne 9, 32, []), (.aload_n 0, 0, []), (.iconst 2, 0, []), (.invokevirtual 133, 159, [2, 1, 1, 2]), (.ireturn, 0, [])]
  | 32 => [(.aload_n 0, 0, []), (.getfield 11, 11, [1, 0, 2, 2, 0]), (.iload_n 1, 0, []), (.aaload, 0, []), (.iconst 0, 0, []), (.aload_n 0, 0, []), (.getfield 79, 11, [1, 11, 3, 22, 9]), (.getfield 173, 3, [22, 1, 2, 27, 0]), (.getfield 177, 6, [27, 8, 0, 0, 0]), (.invokevirtual 147, 93, [3, 1, 44, 3]), (.ifCond .ne 9, 61, []), (.aload_n 0, 0, []), (.iconst 3, 0, []), (.invokevirtual 133, 159, [2, 1, 1, 2]), (.ireturn, 0, [])]
  | 61 => [(.iconst 0, 0, []), (.istore_n 2, 0, []), (.nop, 63, [])]
  | 63 => [(.iload_n 2, 0, []), (.aload_n 0, 0, []), (.getfield 79, 11, [1, 11, 3, 22, 9]), (.getfield 173, 3, [22, 1, 2, 27, 0]), (.getfield 177, 6, [27, 8, 0, 0, 0]), (.if_icmp .ge 32, 106, []), (.aload_n 0, 0, []), (.getfield 11, 11, [1, 0, 2, 2, 0]), (.iload_n 1, 0, []), (.aaload, 0, []), (.iload_n 2, 0, []), (.aload_n 0, 0, []), (.getfield 79, 11, [1, 11, 3, 22, 9]), (.getfield 173, 3, [22, 1, 2, 27, 0]), (.getfield 241, 6, [27, 1, 2, 29, 0]), (.iload_n 2, 0, []), (.iaload, 0, []), (.i2l, 0, []), (.invokevirtual 129, 94, [3, 0, 44, 4]), (.iinc 2 1, 0, []), (.goto (-40), 63, [])]
  | 106 => [(.aload_n 0, 0, []), (.aload_n 0, 0, []), (.getfield 79, 11, [1, 11, 3, 22, 9]), (.getfield 173, 3, [22, 1, 2, 27, 0]), (.getfield 177, 6, [27, 8, 0, 0, 0]), (.invokevirtual 182, 157, [2, 1, 1, 2]), (.ireturn, 0, [])]
  | _ => []
abbrev n_x_live : Nat := 152
def b_x_live : Nat → List Item
  | 0 => [(.iload_n 1, 0, []), (.iconst 0, 0, []), (.sipush 9999, 0, []), (.invokestatic 110, 171, [3, 1, 0, 3]), (.ifCond .ne 9, 17, []), (.aload_n 0, 0, []), (.iconst 1, 0, []), (.invokevirtual 133, 159, [2, 1, 1, 2]), (.ireturn, 0, [])]
  | 17 => [(.aload_n 0, 0, []), (.getfield 87, 11, [1, 13, 3, 37, 5]), (.getfield 400, 1, [37, 8, 5, 0, 0]), (.ifCond .ne 10, 34, []), (.aload_n 0, 0, []), (.bipush 6, 0, []), (.invokevirtual 133, 159, [2, 1, 1, 2]), (.ireturn, 0, [])]
  | 34 => [(.aload_n 0, 0, []), (.getfield 67, 11, [1, 8, 2, 19, 0]), (.aload_n 0, 0, []), (.getfield 79, 11, [1, 11, 3, 22, 9]), (.aload_n 0, 0, []), (.getfield 87, 11, [1, 13, 3, 37, 5]), (.iload_n 1, 0, []), (.invokevirtual 401, 48, [4, 0, 19, 6]), (.aload_n 0, 0, []), (.aload_n 0, 0, []), (.getfield 67, 11, [1, 8, 2, 19, 0]), (.getfield 405, 5, [19, 4, 0, 0, 0]), (.invokevirtual 182, 157, [2, 1, 1, 2]), (.ireturn, 0, [])]
  | _ => []
abbrev n_x_lived : Nat := 153
def b_x_lived : Nat → List Item
  | 0 => [(.iload_n 1, 0, []), (.iconst 0, 0, []), (.iconst 4, 0, []), (.invokestatic 110, 171, [3, 1, 0, 3]), (.ifCond .ne 9, 15, []), (.aload_n 0, 0, []), (.iconst 1, 0, []), (.invokevirtual 133, 159, [2, 1, 1, 2]), (.ireturn, 0, [])]
  | 15 => [(.aload_n 0, 0, []), (.getfield 67, 11, [1, 8, 2, 19, 0]), (.getfield 406, 5, [19, 10, 5, 0, 0]), (.ifCond .ne 10, 32, []), (.aload_n 0, 0, []), (.bipush 6, 0, []), (.invokevirtual 133, 159, [2, 1, 1, 2]), (.ireturn, 0, [])]
  | 32 => [(.iload_n 1, 0, []), (.tableswitch 79 0 3 #[31, 43, 55, 67], 112, [64, 76, 88, 100])]
  | 64 => [(.aload_n 0, 0, []), (.aload_n 0, 0, []), (.getfield 67, 11, [1, 8, 2, 19, 0]), (.getfield 407, 5, [19, 5, 0, 0, 0]), (.invokevirtual 182, 157, [2, 1, 1, 2]), (.ireturn, 0, [])]
  | 76 => [(.aload_n 0, 0, []), (.aload_n 0, 0, []), (.getfield 67, 11, [1, 8, 2, 19, 0]), (.getfield 410, 5, [19, 6, 0, 0, 0]), (.invokevirtual 182, 157, [2, 1, 1, 2]), (.ireturn, 0, [])]
  | 88 => [(.aload_n 0, 0, []), (.aload_n 0, 0, []), (.getfield 67, 11, [1, 8, 2, 19, 0]), (.getfield 411, 5, [19, 7, 0, 0, 0]), (.invokevirtual 182, 157, [2, 1, 1, 2]), (.ireturn, 0, [])]
  | 100 => [(.aload_n 0, 0, []), (.aload_n 0, 0, []), (.getfield 67, 11, [1, 8, 2, 19, 0]), (.getfield 412, 5, [19, 8, 0, 0, 0]), (.invokevirtual 182, 157, [2, 1, 1, 2]), (.ireturn, 0, [])]
  | 112 => [(.aload_n 0, 0, []), (.aload_n 0, 0, []), (.getfield 67, 11, [1, 8, 2, 19, 0]), (.getfield 413, 5, [19, 9, 5, 0, 0]), (.invokestatic 253, 172, [1, 1, 0, 1]), (.invokevirtual 182, 157, [2, 1, 1, 2]), (.ireturn, 0, [])]
  | _ => []
abbrev n_x_mean : Nat := 154
def b_x_mean : Nat → List Item
  | 0 => [(.iload_n 1, 0, []), (.iconst 0, 0, []), (.sipush 9999, 0, []), (.invokestatic 110, 171, [3, 1, 0, 3]), (.ifCond .eq 24, 32, []), (.iload_n 2, 0, []), (.iconst 1, 0, []), (.bipush 20, 0, []), (.invokestatic 110, 171, [3, 1, 0, 3]), (.ifCond .eq 14, 32, []), (.iload_n 1, 0, []), (.iload_n 2, 0, []), (.iadd, 0, []), (.iconst 1, 0, []), (.isub, 0, []), (.sipush 9999, 0, []), (.if_icmp .le 9, 38, []), (.nop, 32, [])]
  | 32 => [(.aload_n 0, 0, []), (.iconst 1, 0, []), (.invokevirtual 114, 161, [2, 1, 1, 2]), (.ireturn, 1, [])]
  | 38 => [(.aload_n 0, 0, []), (.getfield 87, 11, [1, 13, 3, 37, 5]), (.getfield 400, 1, [37, 8, 5, 0, 0]), (.ifCond .ne 10, 55, []), (.aload_n 0, 0, []), (.bipush 6, 0, []), (.invokevirtual 114, 161, [2, 1, 1, 2]), (.ireturn, 1, [])]
  | 55 => [(.lconst 0, 0, []), (.lstore_n 3, 0, []), (.iconst 0, 0, []), (.istore 5, 0, []), (.nop, 60, [])]
  | 60 => [(.iload 5, 0, []), (.iload_n 2, 0, []), (.if_icmp .ge 49, 112, []), (.aload_n 0, 0, []), (.getfield 53, 11, [1, 6, 2, 11, 0]), (.aload_n 0, 0, []), (.getfield 79, 11, [1, 11, 3, 22, 9]), (.iconst 0, 0, []), (.invokevirtual 321, 1, [3, 1, 11, 3]), (.astore 6, 0, []), (.aload_n 0, 0, []), (.getfield 71, 11, [1, 9, 4, 19, 1]), (.aload 6, 0, []), (.aload_n 0, 0, []), (.getfield 87, 11, [1, 13, 3, 37, 5]), (.iload_n 1, 0, []), (.iload 5, 0, []), (.iadd, 0, []), (.invokevirtual 401, 48, [4, 0, 19, 6]), (.lload_n 3, 0, []), (.aload 6, 0, []), (.getfield 216, 3, [22, 8, 0, 0, 0]), (.i2l, 0, []), (.ladd, 0, []), (.lstore_n 3, 0, []), (.iinc 5 1, 0, []), (.goto (-49), 60, [])]
  | 112 => [(.aload_n 0, 0, []), (.lload_n 3, 0, []), (.iload_n 2, 0, []), (.i2l, 0, []), (.invokevirtual 396, 169, [3, 0, 1, 7]), (.aload_n 0, 0, []), (.invokevirtual 121, 160, [1, 1, 1, 1]), (.ireturn, 1, [])]
  | _ => []
abbrev n_x_mark : Nat := 155
def b_x_mark : Nat → List Item
  | 0 => [(.aload_n 0, 0, []), (.getfield 416, 11, [1, 15, 0, 0, 0]), (.iconst 3, 0, []), (.if_icmp .lt 9, 14, []), (.aload_n 0, 0, []), (.iconst 4, 0, []), (.invokevirtual 133, 159, [2, 1, 1, 2]), (.ireturn, 0, [])]
  | 14 => [(.aload_n 0, 0, []), (.getfield 40, 11, [1, 4, 2, 9, 0]), (.aload_n 0, 0, []), (.getfield 416, 11, [1, 15, 0, 0, 0]), (.aaload, 0, []), (.aload_n 0, 0, []), (.getfield 79, 11, [1, 11, 3, 22, 9]), (.invokevirtual 419, 24, [2, 0, 22, 2]), (.aload_n 0, 0, []), (.getfield 46, 11, [1, 5, 2, 10, 0]), (.aload_n 0, 0, []), (.getfield 416, 11, [1, 15, 0, 0, 0]), (.aaload, 0, []), (.aload_n 0, 0, []), (.getfield 87, 11, [1, 13, 3, 37, 5]), (.invokevirtual 423, 13, [2, 0, 37, 2]), (.aload_n 0, 0, []), (.dup, 0, []), (.getfield 416, 11, [1, 15, 0, 0, 0]), (.iconst 1, 0, []), (.iadd, 0, []), (.putfield 416, 11, [1, 15, 0, 0, 0]), (.aload_n 0, 0, []), (.aload_n 0, 0, []), (.getfield 416, 11, [1, 15, 0, 0, 0]), (.invokevirtual 182, 157, [2, 1, 1, 2]), (.ireturn, 0, [])]
  | _ => []
abbrev n_x_undo : Nat := 156
def b_x_undo : Nat → List Item
  | 0 => [(.aload_n 0, 0, []), (.getfield 416, 11, [1, 15, 0, 0, 0]), (.ifCond .gt 10, 14, []), (.aload_n 0, 0, []), (.bipush 6, 0, []), (.invokevirtual 133, 159, [2, 1, 1, 2]), (.ireturn, 0, [])]
  | 14 => [(.aload_n 0, 0, []), (.dup, 0, []), (.getfield 416, 11, [1, 15, 0, 0, 0]), (.iconst 1, 0, []), (.isub, 0, []), (.putfield 416, 11, [1, 15, 0, 0, 0]), (.aload_n 0, 0, []), (.getfield 79, 11, [1, 11, 3, 22, 9]), (.aload_n 0, 0, []), (.getfield 40, 11, [1, 4, 2, 9, 0]), (.aload_n 0, 0, []), (.getfield 416, 11, [1, 15, 0, 0, 0]), (.aaload, 0, []), (.invokevirtual 419, 24, [2, 0, 22, 2]), (.aload_n 0, 0, []), (.getfield 87, 11, [1, 13, 3, 37, 5]), (.aload_n 0, 0, []), (.getfield 46, 11, [1, 5, 2, 10, 0]), (.aload_n 0, 0, []), (.getfield 416, 11, [1, 15, 0, 0, 0]), (.aaload, 0, []), (.invokevirtual 423, 13, [2, 0, 37, 2]), (.aload_n 0, 0, []), (.aload_n 0, 0, []), (.getfield 416, 11, [1, 15, 0, 0, 0]), (.invokevirtual 182, 157, [2, 1, 1, 2]), (.ireturn, 0, [])]
  | _ => []
abbrev n_x_give : Nat := 157
def b_x_give : Nat → List Item
  | 0 => [(.aload_n 0, 0, []), (.iconst 0, 0, []), (.putfield 99, 11, [1, 16, 0, 0, 0]), (.iload_n 1, 0, []), (.ireturn, 0, [])]
  | _ => []
abbrev n_x_giveOrNone : Nat := 158
def b_x_giveOrNone : Nat → List Item
  | 0 => [(.iload_n 1, 0, []), (.iconst (-1), 0, []), (.if_icmp .ne 12, 14, []), (.aload_n 0, 0, []), (.bipush 6, 0, []), (.invokevirtual 133, 159, [2, 1, 1, 2]), (.goto 8, 19, [])]
  | 14 => [(.aload_n 0, 0, []), (.iload_n 1, 0, []), (.invokevirtual 182, 157, [2, 1, 1, 2]), (.nop, 19, [])]
  | 19 => [(.ireturn, 0, [])]
  | _ => []
abbrev n_x_none : Nat := 159
def b_x_none : Nat → List Item
  | 0 => [(.aload_n 0, 0, []), (.iload_n 1, 0, []), (.putfield 99, 11, [1, 16, 0, 0, 0]), (.iconst (-1), 0, []), (.ireturn, 0, [])]
  | _ => []
abbrev n_x_agree : Nat := 160
def b_x_agree : Nat → List Item
  | 0 => [(.aload_n 0, 0, []), (.iconst 0, 0, []), (.putfield 99, 11, [1, 16, 0, 0, 0]), (.iconst 1, 0, []), (.ireturn, 1, [])]
  | _ => []
abbrev n_x_refuse : Nat := 161
def b_x_refuse : Nat → List Item
  | 0 => [(.aload_n 0, 0, []), (.iload_n 1, 0, []), (.putfield 99, 11, [1, 16, 0, 0, 0]), (.iconst 0, 0, []), (.ireturn, 1, [])]
  | _ => []
abbrev n_x_isTray : Nat := 162
def b_x_isTray : Nat → List Item
  | 0 => [(.iload_n 1, 0, []), (.iconst 0, 0, []), (.iconst 3, 0, []), (.invokestatic 110, 171, [3, 1, 0, 3]), (.ireturn, 1, [])]
  | _ => []
abbrev n_x_isTopic : Nat := 163
def b_x_isTopic : Nat → List Item
  | 0 => [(.iload_n 1, 0, []), (.iconst 0, 0, []), (.aload_n 0, 0, []), (.getfield 79, 11, [1, 11, 3, 22, 9]), (.getfield 197, 3, [22, 0, 2, 23, 0]), (.getfield 201, 9, [23, 3, 0, 0, 0]), (.iconst 1, 0, []), (.isub, 0, []), (.invokestatic 110, 171, [3, 1, 0, 3]), (.ireturn, 1, [])]
  | _ => []
abbrev n_x_isMonk : Nat := 164
def b_x_isMonk : Nat → List Item
  | 0 => [(.iload_n 1, 0, []), (.iconst 0, 0, []), (.aload_n 0, 0, []), (.getfield 79, 11, [1, 11, 3, 22, 9]), (.getfield 173, 3, [22, 1, 2, 27, 0]), (.getfield 177, 6, [27, 8, 0, 0, 0]), (.iconst 1, 0, []), (.isub, 0, []), (.invokestatic 110, 171, [3, 1, 0, 3]), (.ireturn, 1, [])]
  | _ => []
abbrev n_x_isSet : Nat := 165
def b_x_isSet : Nat → List Item
  | 0 => [(.iload_n 1, 0, []), (.iconst 0, 0, []), (.iconst 1, 0, []), (.aload_n 0, 0, []), (.getfield 79, 11, [1, 11, 3, 22, 9]), (.getfield 173, 3, [22, 1, 2, 27, 0]), (.getfield 177, 6, [27, 8, 0, 0, 0]), (.ishl, 0, []), (.iconst 1, 0, []), (.isub, 0, []), (.invokestatic 110, 171, [3, 1, 0, 3]), (.ireturn, 1, [])]
  | _ => []
abbrev n_x_placeStatus : Nat := 166
def b_x_placeStatus : Nat → List Item
  | 0 => [(.aload_n 0, 0, []), (.iload_n 1, 0, []), (.invokevirtual 106, 162, [2, 1, 1, 2]), (.ifCond .ne 5, 10, []), (.iconst 1, 0, []), (.ireturn, 0, [])]
  | 10 => [(.aload_n 0, 0, []), (.getfield 11, 11, [1, 0, 2, 2, 0]), (.iload_n 1, 0, []), (.aaload, 0, []), (.getfield 140, 10, [44, 1, 5, 0, 0]), (.ifCond .ne 5, 24, []), (.iconst 2, 0, []), (.ireturn, 0, [])]
  | 24 => [(.iload_n 2, 0, []), (.iconst 0, 0, []), (.aload_n 0, 0, []), (.getfield 11, 11, [1, 0, 2, 2, 0]), (.iload_n 1, 0, []), (.aaload, 0, []), (.getfield 426, 10, [44, 3, 0, 0, 0]), (.iconst 1, 0, []), (.isub, 0, []), (.invokestatic 110, 171, [3, 1, 0, 3]), (.ifCond .eq 7, 47, []), (.iconst 0, 0, []), (.goto 4, 48, [])]
  | 47 => [(.iconst 3, 0, []), (.nop, 48, [])]
  | 48 => [(.ireturn, 0, [])]
  | _ => []
abbrev n_x_heardStatus : Nat := 167
def b_x_heardStatus : Nat → List Item
  | 0 => [(.aload_n 0, 0, []), (.iload_n 1, 0, []), (.invokevirtual 106, 162, [2, 1, 1, 2]), (.ifCond .ne 5, 10, []), (.iconst 1, 0, []), (.ireturn, 0, [])]
  | 10 => [(.aload_n 0, 0, []), (.getfield 11, 11, [1, 0, 2, 2, 0]), (.iload_n 1, 0, []), (.aaload, 0, []), (.getfield 140, 10, [44, 1, 5, 0, 0]), (.ifCond .ne 5, 24, []), (.iconst 2, 0, []), (.ireturn, 0, [])]
  | 24 => [(.aload_n 0, 0, []), (.getfield 11, 11, [1, 0, 2, 2, 0]), (.iload_n 1, 0, []), (.aaload, 0, []), (.iconst 0, 0, []), (.iload_n 2, 0, []), (.invokevirtual 147, 93, [3, 1, 44, 3]), (.ifCond .ne 5, 40, []), (.iconst 3, 0, []), (.ireturn, 0, [])]
  | 40 => [(.iconst 0, 0, []), (.istore_n 3, 0, []), (.nop, 42, [])]
  | 42 => [(.iload_n 3, 0, []), (.iload_n 2, 0, []), (.if_icmp .ge 48, 92, []), (.aload_n 0, 0, []), (.getfield 11, 11, [1, 0, 2, 2, 0]), (.iload_n 1, 0, []), (.aaload, 0, []), (.getfield 137, 10, [44, 0, 2, 45, 0]), (.iload_n 3, 0, []), (.laload, 0, []), (.lstore 4, 0, []), (.lload 4, 0, []), (.lconst 0, 0, []), (.lcmp, 0, []), (.ifCond .lt 20, 84, []), (.lload 4, 0, []), (.aload_n 0, 0, []), (.getfield 79, 11, [1, 11, 3, 22, 9]), (.getfield 197, 3, [22, 0, 2, 23, 0]), (.getfield 201, 9, [23, 3, 0, 0, 0]), (.i2l, 0, []), (.lcmp, 0, []), (.ifCond .lt 5, 86, []), (.nop, 84, [])]
  | 84 => [(.iconst 5, 0, []), (.ireturn, 0, [])]
  | 86 => [(.iinc 3 1, 0, []), (.goto (-47), 42, [])]
  | 92 => [(.iconst 0, 0, []), (.ireturn, 0, [])]
  | _ => []
abbrev n_x_weighCoughs : Nat := 168
def b_x_weighCoughs : Nat → List Item
  | 0 => [(.aload_n 0, 0, []), (.getfield 74, 11, [1, 10, 2, 21, 0]), (.lconst 0, 0, []), (.invokestatic 429, 336, [2, 0, 0, 5]), (.aload_n 0, 0, []), (.getfield 74, 11, [1, 10, 2, 21, 0]), (.iconst 0, 0, []), (.lconst 1, 0, []), (.lastore, 0, []), (.iconst 0, 0, []), (.istore_n 1, 0, []), (.nop, 17, [])]
  | 17 => [(.iload_n 1, 0, []), (.aload_n 0, 0, []), (.getfield 79, 11, [1, 11, 3, 22, 9]), (.getfield 173, 3, [22, 1, 2, 27, 0]), (.getfield 177, 6, [27, 8, 0, 0, 0]), (.if_icmp .ge 112, 140, []), (.aload_n 0, 0, []), (.getfield 79, 11, [1, 11, 3, 22, 9]), (.getfield 173, 3, [22, 1, 2, 27, 0]), (.iload_n 1, 0, []), (.invokevirtual 250, 60, [2, 1, 27, 2]), (.ifCond .eq 92, 134, []), (.iload_n 1, 0, []), (.aload_n 0, 0, []), (.getfield 79, 11, [1, 11, 3, 22, 9]), (.getfield 272, 3, [22, 10, 0, 0, 0]), (.if_icmp .ne 6, 59, []), (.goto 78, 134, [])]
  | 59 => [(.bipush 7, 0, []), (.istore_n 2, 0, []), (.nop, 62, [])]
  | 62 => [(.iload_n 2, 0, []), (.ifCond .le 51, 114, []), (.aload_n 0, 0, []), (.getfield 74, 11, [1, 10, 2, 21, 0]), (.iload_n 2, 0, []), (.aload_n 0, 0, []), (.getfield 74, 11, [1, 10, 2, 21, 0]), (.iload_n 2, 0, []), (.laload, 0, []), (.bipush 16, 0, []), (.aload_n 0, 0, []), (.getfield 79, 11, [1, 11, 3, 22, 9]), (.getfield 210, 3, [22, 6, 0, 0, 0]), (.isub, 0, []), (.i2l, 0, []), (.lmul, 0, []), (.aload_n 0, 0, []), (.getfield 74, 11, [1, 10, 2, 21, 0]), (.iload_n 2, 0, []), (.iconst 1, 0, []), (.isub, 0, []), (.laload, 0, []), (.aload_n 0, 0, []), (.getfield 79, 11, [1, 11, 3, 22, 9]), (.getfield 210, 3, [22, 6, 0, 0, 0]), (.i2l, 0, []), (.lmul, 0, []), (.ladd, 0, []), (.lastore, 0, []), (.iinc 2 (-1), 0, []), (.goto (-49), 62, [])]
  | 114 => [(.aload_n 0, 0, []), (.getfield 74, 11, [1, 10, 2, 21, 0]), (.iconst 0, 0, []), (.dup2, 0, []), (.laload, 0, []), (.bipush 16, 0, []), (.aload_n 0, 0, []), (.getfield 79, 11, [1, 11, 3, 22, 9]), (.getfield 210, 3, [22, 6, 0, 0, 0]), (.isub, 0, []), (.i2l, 0, []), (.lmul, 0, []), (.lastore, 0, []), (.nop, 134, [])]
  | 134 => [(.iinc 1 1, 0, []), (.goto (-120), 17, [])]
  | 140 => [(.return_, 0, [])]
  | _ => []
abbrev n_x_tellFraction : Nat := 169
def b_x_tellFraction : Nat → List Item
  | 0 => [(.lload_n 1, 0, []), (.lload_n 3, 0, []), (.invokestatic 435, 170, [2, 1, 0, 11]), (.lstore 5, 0, []), (.lload 5, 0, []), (.lconst 0, 0, []), (.lcmp, 0, []), (.ifCond .le 19, 30, []), (.aload_n 0, 0, []), (.lload_n 1, 0, []), (.lload 5, 0, []), (.ldiv, 0, []), (.putfield 103, 11, [1, 17, 1, 0, 0]), (.aload_n 0, 0, []), (.lload_n 3, 0, []), (.lload 5, 0, []), (.ldiv, 0, []), (.putfield 94, 11, [1, 18, 1, 0, 0]), (.nop, 30, [])]
  | 30 => [(.return_, 0, [])]
  | _ => []
abbrev n_x_commonDivisor : Nat := 170
def b_x_commonDivisor : Nat → List Item
  | 0 => [(.lload_n 0, 0, []), (.lstore 4, 0, []), (.lload_n 2, 0, []), (.lstore 6, 0, []), (.iconst 0, 0, []), (.istore 8, 0, []), (.nop, 9, [])]
  | 9 => [(.iload 8, 0, []), (.sipush 200, 0, []), (.if_icmp .ge 31, 45, []), (.lload 6, 0, []), (.lconst 0, 0, []), (.lcmp, 0, []), (.ifCond .eq 24, 45, []), (.lload 4, 0, []), (.lload 6, 0, []), (.lrem, 0, []), (.lstore 9, 0, []), (.lload 6, 0, []), (.lstore 4, 0, []), (.lload 9, 0, []), (.lstore 6, 0, []), (.iinc 8 1, 0, []), (.goto (-33), 9, [])]
  | 45 => [(.lload 4, 0, []), (.lreturn, 0, [])]
  | _ => []
abbrev n_x_within : Nat := 171
def b_x_within : Nat → List Item
  | 0 => [(.iload_n 0, 0, []), (.iload_n 1, 0, []), (.if_icmp .lt 12, 14, []), (.iload_n 0, 0, []), (.iload_n 2, 0, []), (.if_icmp .gt 7, 14, []), (.iconst 1, 0, []), (.goto 4, 15, [])]
  | 14 => [(.iconst 0, 0, []), (.nop, 15, [])]
  | 15 => [(.ireturn, 1, [])]
  | _ => []
abbrev n_x_truth : Nat := 172
def b_x_truth : Nat → List Item
  | 0 => [(.iload_n 0, 0, []), (.ifCond .eq 7, 8, []), (.iconst 1, 0, []), (.goto 4, 9, [])]
  | 8 => [(.iconst 0, 0, []), (.nop, 9, [])]
  | 9 => [(.ireturn, 0, [])]
  | _ => []
abbrev n_x_has : Nat := 173
def b_x_has : Nat → List Item
  | 0 => [(.iload_n 0, 0, []), (.iload_n 1, 0, []), (.ishr, 0, []), (.iconst 1, 0, []), (.iand, 0, []), (.iconst 1, 0, []), (.if_icmp .ne 7, 13, []), (.iconst 1, 0, []), (.goto 4, 14, [])]
  | 13 => [(.iconst 0, 0, []), (.nop, 14, [])]
  | 14 => [(.ireturn, 1, [])]
  | _ => []
abbrev n_x_with : Nat := 174
def b_x_with : Nat → List Item
  | 0 => [(.iload_n 2, 0, []), (.ifCond .eq 11, 12, []), (.iload_n 0, 0, []), (.iconst 1, 0, []), (.iload_n 1, 0, []), (.ishl, 0, []), (.ior, 0, []), (.goto 10, 19, [])]
  | 12 => [(.iload_n 0, 0, []), (.iconst 1, 0, []), (.iload_n 1, 0, []), (.ishl, 0, []), (.iconst (-1), 0, []), (.ixor, 0, []), (.iand, 0, []), (.nop, 19, [])]
  | 19 => [(.ireturn, 0, [])]
  | _ => []
abbrev n_x_leastOf : Nat := 175
def b_x_leastOf : Nat → List Item
  | 0 => [(.iconst 0, 0, []), (.istore_n 1, 0, []), (.nop, 2, [])]
  | 2 => [(.iload_n 1, 0, []), (.bipush 7, 0, []), (.if_icmp .ge 19, 24, []), (.iload_n 0, 0, []), (.iload_n 1, 0, []), (.invokestatic 288, 173, [2, 1, 0, 2]), (.ifCond .eq 5, 18, []), (.iload_n 1, 0, []), (.ireturn, 0, [])]
  | 18 => [(.iinc 1 1, 0, []), (.goto (-19), 2, [])]
  | 24 => [(.iconst (-1), 0, []), (.ireturn, 0, [])]
  | _ => []
abbrev n_x_onlyOneOf : Nat := 176
def b_x_onlyOneOf : Nat → List Item
  | 0 => [(.iload_n 0, 0, []), (.invokestatic 345, 332, [1, 1, 0, 1]), (.iconst 1, 0, []), (.if_icmp .ne 10, 15, []), (.iload_n 0, 0, []), (.invokestatic 439, 175, [1, 1, 0, 2]), (.goto 4, 16, [])]
  | 15 => [(.iconst (-1), 0, []), (.nop, 16, [])]
  | 16 => [(.ireturn, 0, [])]
  | _ => []
abbrev n_x_speechOf : Nat := 177
def b_x_speechOf : Nat → List Item
  | 0 => [(.iload_n 0, 0, []), (.bipush 6, 0, []), (.imul, 0, []), (.iload_n 1, 0, []), (.iadd, 0, []), (.ireturn, 0, [])]
  | _ => []
abbrev n_x_monkOf : Nat := 178
def b_x_monkOf : Nat → List Item
  | 0 => [(.iload_n 0, 0, []), (.ifCond .ge 7, 8, []), (.iconst (-1), 0, []), (.goto 7, 12, [])]
  | 8 => [(.iload_n 0, 0, []), (.bipush 6, 0, []), (.idiv, 0, []), (.nop, 12, [])]
  | 12 => [(.ireturn, 0, [])]
  | _ => []
abbrev n_x_topicOf : Nat := 179
def b_x_topicOf : Nat → List Item
  | 0 => [(.iload_n 0, 0, []), (.ifCond .ge 7, 8, []), (.iconst (-1), 0, []), (.goto 7, 12, [])]
  | 8 => [(.iload_n 0, 0, []), (.bipush 6, 0, []), (.irem, 0, []), (.nop, 12, [])]
  | 12 => [(.ireturn, 0, [])]
  | _ => []
abbrev n_m_plain : Nat := 180
def b_m_plain : Nat → List Item
  | 0 => [(.iconst 0, 0, []), (.istore_n 2, 0, []), (.nop, 2, [])]
  | 2 => [(.iload_n 2, 0, []), (.sipush 465, 0, []), (.if_icmp .ge 18, 24, []), (.aload_n 0, 0, []), (.getfield 7, 12, [46, 0, 2, 47, 0]), (.iload_n 1, 0, []), (.iload_n 2, 0, []), (.iadd, 0, []), (.iconst 0, 0, []), (.iastore, 0, []), (.iinc 2 1, 0, []), (.goto (-19), 2, [])]
  | 24 => [(.aload_n 0, 0, []), (.getfield 7, 12, [46, 0, 2, 47, 0]), (.iload_n 1, 0, []), (.iconst 3, 0, []), (.iadd, 0, []), (.bipush 10, 0, []), (.iastore, 0, []), (.aload_n 0, 0, []), (.getfield 7, 12, [46, 0, 2, 47, 0]), (.iload_n 1, 0, []), (.iconst 4, 0, []), (.iadd, 0, []), (.iconst 1, 0, []), (.iastore, 0, []), (.aload_n 0, 0, []), (.getfield 7, 12, [46, 0, 2, 47, 0]), (.iload_n 1, 0, []), (.bipush 9, 0, []), (.iadd, 0, []), (.iconst (-1), 0, []), (.iastore, 0, []), (.aload_n 0, 0, []), (.getfield 7, 12, [46, 0, 2, 47, 0]), (.iload_n 1, 0, []), (.bipush 10, 0, []), (.iadd, 0, []), (.iconst (-1), 0, []), (.iastore, 0, []), (.return_, 0, [])]
  | _ => []
abbrev n_m_status : Nat := 181
def b_m_status : Nat → List Item
  | 0 => [(.aload_n 0, 0, []), (.getfield 88, 12, [46, 2, 0, 0, 0]), (.ireturn, 0, [])]
  | _ => []
abbrev n_m_top : Nat := 182
def b_m_top : Nat → List Item
  | 0 => [(.aload_n 0, 0, []), (.getfield 91, 12, [46, 3, 1, 0, 0]), (.lreturn, 0, [])]
  | _ => []
abbrev n_m_bottom : Nat := 183
def b_m_bottom : Nat → List Item
  | 0 => [(.aload_n 0, 0, []), (.getfield 17, 12, [46, 4, 1, 0, 0]), (.lreturn, 0, [])]
  | _ => []
abbrev n_m_is : Nat := 184
def b_m_is : Nat → List Item
  | 0 => [(.aload_n 0, 0, []), (.iload_n 1, 0, []), (.putfield 88, 12, [46, 2, 0, 0, 0]), (.iload_n 1, 0, []), (.ifCond .ne 7, 13, []), (.iconst 1, 0, []), (.goto 4, 14, [])]
  | 13 => [(.iconst 0, 0, []), (.nop, 14, [])]
  | 14 => [(.ireturn, 1, [])]
  | _ => []
abbrev n_m_refuse : Nat := 185
def b_m_refuse : Nat → List Item
  | 0 => [(.aload_n 0, 0, []), (.iload_n 1, 0, []), (.putfield 88, 12, [46, 2, 0, 0, 0]), (.iconst (-1), 0, []), (.ireturn, 0, [])]
  | _ => []
abbrev n_m_gives : Nat := 186
def b_m_gives : Nat → List Item
  | 0 => [(.aload_n 0, 0, []), (.iconst 0, 0, []), (.putfield 88, 12, [46, 2, 0, 0, 0]), (.iload_n 1, 0, []), (.ireturn, 0, [])]
  | _ => []
abbrev n_m_orNone : Nat := 187
def b_m_orNone : Nat → List Item
  | 0 => [(.iload_n 1, 0, []), (.iconst (-1), 0, []), (.if_icmp .ne 12, 14, []), (.aload_n 0, 0, []), (.bipush 6, 0, []), (.invokevirtual 94, 185, [2, 1, 46, 2]), (.goto 8, 19, [])]
  | 14 => [(.aload_n 0, 0, []), (.iload_n 1, 0, []), (.invokevirtual 98, 186, [2, 1, 46, 2]), (.nop, 19, [])]
  | 19 => [(.ireturn, 0, [])]
  | _ => []
abbrev n_m_tellsBy : Nat := 188
def b_m_tellsBy : Nat → List Item
  | 0 => [(.lload_n 1, 0, []), (.lstore 5, 0, []), (.lload_n 3, 0, []), (.lstore 7, 0, []), (.nop, 6, [])]
  | 6 => [(.lload 7, 0, []), (.lconst 0, 0, []), (.lcmp, 0, []), (.ifCond .eq 21, 31, []), (.lload 5, 0, []), (.lload 7, 0, []), (.lrem, 0, []), (.lstore 9, 0, []), (.lload 7, 0, []), (.lstore 5, 0, []), (.lload 9, 0, []), (.lstore 7, 0, []), (.goto (-22), 6, [])]
  | 31 => [(.aload_n 0, 0, []), (.lload_n 1, 0, []), (.lload 5, 0, []), (.ldiv, 0, []), (.putfield 91, 12, [46, 3, 1, 0, 0]), (.aload_n 0, 0, []), (.lload_n 3, 0, []), (.lload 5, 0, []), (.ldiv, 0, []), (.putfield 17, 12, [46, 4, 1, 0, 0]), (.aload_n 0, 0, []), (.iconst 0, 0, []), (.invokevirtual 101, 184, [2, 1, 46, 2]), (.ireturn, 1, [])]
  | _ => []
abbrev n_m_isTray : Nat := 189
def b_m_isTray : Nat → List Item
  | 0 => [(.iload_n 0, 0, []), (.ifCond .lt 12, 13, []), (.iload_n 0, 0, []), (.iconst 4, 0, []), (.if_icmp .ge 7, 13, []), (.iconst 1, 0, []), (.goto 4, 14, [])]
  | 13 => [(.iconst 0, 0, []), (.nop, 14, [])]
  | 14 => [(.ireturn, 1, [])]
  | _ => []
abbrev n_m_cut : Nat := 190
def b_m_cut : Nat → List Item
  | 0 => [(.iload_n 2, 0, []), (.ifCond .ne 10, 11, []), (.lload_n 0, 0, []), (.l2i, 0, []), (.i2b, 0, []), (.i2l, 0, []), (.goto 27, 35, [])]
  | 11 => [(.iload_n 2, 0, []), (.iconst 1, 0, []), (.if_icmp .ne 10, 23, []), (.lload_n 0, 0, []), (.l2i, 0, []), (.i2s, 0, []), (.i2l, 0, []), (.goto 15, 35, [])]
  | 23 => [(.iload_n 2, 0, []), (.iconst 2, 0, []), (.if_icmp .ne 9, 34, []), (.lload_n 0, 0, []), (.l2i, 0, []), (.i2l, 0, []), (.goto 4, 35, [])]
  | 34 => [(.lload_n 0, 0, []), (.nop, 35, [])]
  | 35 => [(.lreturn, 0, [])]
  | _ => []
abbrev n_m_tray : Nat := 191
def b_m_tray : Nat → List Item
  | 0 => [(.iload_n 1, 0, []), (.invokestatic 105, 189, [1, 1, 0, 1]), (.ifCond .eq 22, 26, []), (.iload_n 2, 0, []), (.ifCond .lt 18, 26, []), (.iload_n 2, 0, []), (.iconst 3, 0, []), (.if_icmp .gt 13, 26, []), (.iload_n 3, 0, []), (.ifCond .lt 9, 26, []), (.iload_n 3, 0, []), (.bipush 60, 0, []), (.if_icmp .le 9, 32, []), (.nop, 26, [])]
  | 26 => [(.aload_n 0, 0, []), (.iconst 1, 0, []), (.invokevirtual 101, 184, [2, 1, 46, 2]), (.ireturn, 1, [])]
  | 32 => [(.aload_n 0, 0, []), (.getfield 21, 12, [46, 5, 2, 49, 0]), (.iload_n 1, 0, []), (.iload_n 2, 0, []), (.iastore, 0, []), (.aload_n 0, 0, []), (.getfield 24, 12, [46, 6, 2, 50, 0]), (.iload_n 1, 0, []), (.iload_n 3, 0, []), (.iastore, 0, []), (.iconst 0, 0, []), (.istore 4, 0, []), (.nop, 49, [])]
  | 49 => [(.iload 4, 0, []), (.iload_n 3, 0, []), (.if_icmp .ge 22, 74, []), (.aload_n 0, 0, []), (.getfield 27, 12, [46, 7, 2, 51, 0]), (.bipush 60, 0, []), (.iload_n 1, 0, []), (.imul, 0, []), (.iload 4, 0, []), (.iadd, 0, []), (.lconst 0, 0, []), (.lastore, 0, []), (.iinc 4 1, 0, []), (.goto (-22), 49, [])]
  | 74 => [(.aload_n 0, 0, []), (.iconst 0, 0, []), (.invokevirtual 101, 184, [2, 1, 46, 2]), (.ireturn, 1, [])]
  | _ => []
abbrev n_m_wrongPlace : Nat := 192
def b_m_wrongPlace : Nat → List Item
  | 0 => [(.iload_n 1, 0, []), (.invokestatic 105, 189, [1, 1, 0, 1]), (.ifCond .ne 7, 11, []), (.iconst 1, 0, []), (.goto 36, 44, [])]
  | 11 => [(.aload_n 0, 0, []), (.getfield 24, 12, [46, 6, 2, 50, 0]), (.iload_n 1, 0, []), (.iaload, 0, []), (.iconst (-1), 0, []), (.if_icmp .ne 7, 25, []), (.iconst 2, 0, []), (.goto 22, 44, [])]
  | 25 => [(.iload_n 2, 0, []), (.ifCond .lt 13, 39, []), (.iload_n 2, 0, []), (.aload_n 0, 0, []), (.getfield 24, 12, [46, 6, 2, 50, 0]), (.iload_n 1, 0, []), (.iaload, 0, []), (.if_icmp .lt 7, 43, []), (.nop, 39, [])]
  | 39 => [(.iconst 3, 0, []), (.goto 4, 44, [])]
  | 43 => [(.iconst 0, 0, []), (.nop, 44, [])]
  | 44 => [(.ireturn, 0, [])]
  | _ => []
abbrev n_m_write : Nat := 193
def b_m_write : Nat → List Item
  | 0 => [(.aload_n 0, 0, []), (.iload_n 1, 0, []), (.iload_n 2, 0, []), (.invokevirtual 108, 192, [3, 1, 46, 3]), (.istore 5, 0, []), (.iload 5, 0, []), (.ifCond .ne 24, 34, []), (.aload_n 0, 0, []), (.getfield 27, 12, [46, 7, 2, 51, 0]), (.bipush 60, 0, []), (.iload_n 1, 0, []), (.imul, 0, []), (.iload_n 2, 0, []), (.iadd, 0, []), (.lload_n 3, 0, []), (.aload_n 0, 0, []), (.getfield 21, 12, [46, 5, 2, 49, 0]), (.iload_n 1, 0, []), (.iaload, 0, []), (.invokestatic 112, 190, [2, 1, 0, 3]), (.lastore, 0, []), (.nop, 34, [])]
  | 34 => [(.aload_n 0, 0, []), (.iload 5, 0, []), (.invokevirtual 101, 184, [2, 1, 46, 2]), (.ireturn, 1, [])]
  | _ => []
abbrev n_m_read : Nat := 194
def b_m_read : Nat → List Item
  | 0 => [(.aload_n 0, 0, []), (.aload_n 0, 0, []), (.iload_n 1, 0, []), (.iload_n 2, 0, []), (.invokevirtual 108, 192, [3, 1, 46, 3]), (.putfield 88, 12, [46, 2, 0, 0, 0]), (.aload_n 0, 0, []), (.getfield 88, 12, [46, 2, 0, 0, 0]), (.ifCond .le 9, 23, []), (.ldc2_w 116, 1, [1]), (.goto 14, 34, [])]
  | 23 => [(.aload_n 0, 0, []), (.getfield 27, 12, [46, 7, 2, 51, 0]), (.bipush 60, 0, []), (.iload_n 1, 0, []), (.imul, 0, []), (.iload_n 2, 0, []), (.iadd, 0, []), (.laload, 0, []), (.nop, 34, [])]
  | 34 => [(.lreturn, 0, [])]
  | _ => []
abbrev n_m_pour : Nat := 195
def b_m_pour : Nat → List Item
  | 0 => [(.iload_n 1, 0, []), (.invokestatic 105, 189, [1, 1, 0, 1]), (.ifCond .eq 24, 28, []), (.iload_n 3, 0, []), (.invokestatic 105, 189, [1, 1, 0, 1]), (.ifCond .eq 17, 28, []), (.iload_n 2, 0, []), (.ifCond .lt 13, 28, []), (.iload 4, 0, []), (.ifCond .lt 8, 28, []), (.iload 5, 0, []), (.ifCond .ge 9, 34, []), (.nop, 28, [])]
  | 28 => [(.aload_n 0, 0, []), (.iconst 1, 0, []), (.invokevirtual 101, 184, [2, 1, 46, 2]), (.ireturn, 1, [])]
  | 34 => [(.aload_n 0, 0, []), (.getfield 24, 12, [46, 6, 2, 50, 0]), (.iload_n 1, 0, []), (.iaload, 0, []), (.iconst (-1), 0, []), (.if_icmp .eq 13, 54, []), (.aload_n 0, 0, []), (.getfield 24, 12, [46, 6, 2, 50, 0]), (.iload_n 3, 0, []), (.iaload, 0, []), (.iconst (-1), 0, []), (.if_icmp .ne 9, 60, []), (.nop, 54, [])]
  | 54 => [(.aload_n 0, 0, []), (.iconst 2, 0, []), (.invokevirtual 101, 184, [2, 1, 46, 2]), (.ireturn, 1, [])]
  | 60 => [(.aload_n 0, 0, []), (.getfield 21, 12, [46, 5, 2, 49, 0]), (.iload_n 1, 0, []), (.iaload, 0, []), (.aload_n 0, 0, []), (.getfield 21, 12, [46, 5, 2, 49, 0]), (.iload_n 3, 0, []), (.iaload, 0, []), (.if_icmp .eq 10, 82, []), (.aload_n 0, 0, []), (.bipush 8, 0, []), (.invokevirtual 101, 184, [2, 1, 46, 2]), (.ireturn, 1, [])]
  | 82 => [(.iload 5, 0, []), (.aload_n 0, 0, []), (.getfield 24, 12, [46, 6, 2, 50, 0]), (.iload_n 1, 0, []), (.iaload, 0, []), (.iload_n 2, 0, []), (.isub, 0, []), (.if_icmp .gt 17, 109, []), (.iload 5, 0, []), (.aload_n 0, 0, []), (.getfield 24, 12, [46, 6, 2, 50, 0]), (.iload_n 3, 0, []), (.iaload, 0, []), (.iload 4, 0, []), (.isub, 0, []), (.if_icmp .le 9, 115, []), (.nop, 109, [])]
  | 109 => [(.aload_n 0, 0, []), (.iconst 3, 0, []), (.invokevirtual 101, 184, [2, 1, 46, 2]), (.ireturn, 1, [])]
  | 115 => [(.iconst 0, 0, []), (.istore 6, 0, []), (.nop, 118, [])]
  | 118 => [(.iload 6, 0, []), (.iload 5, 0, []), (.if_icmp .ge 58, 180, []), (.iload_n 2, 0, []), (.iload 4, 0, []), (.if_icmp .ge 13, 141, []), (.iload 5, 0, []), (.iconst 1, 0, []), (.isub, 0, []), (.iload 6, 0, []), (.isub, 0, []), (.goto 5, 143, [])]
  | 141 => [(.iload 6, 0, []), (.nop, 143, [])]
  | 143 => [(.istore 7, 0, []), (.aload_n 0, 0, []), (.getfield 27, 12, [46, 7, 2, 51, 0]), (.bipush 60, 0, []), (.iload_n 3, 0, []), (.imul, 0, []), (.iload 4, 0, []), (.iadd, 0, []), (.iload 7, 0, []), (.iadd, 0, []), (.aload_n 0, 0, []), (.getfield 27, 12, [46, 7, 2, 51, 0]), (.bipush 60, 0, []), (.iload_n 1, 0, []), (.imul, 0, []), (.iload_n 2, 0, []), (.iadd, 0, []), (.iload 7, 0, []), (.iadd, 0, []), (.laload, 0, []), (.lastore, 0, []), (.iinc 6 1, 0, []), (.goto (-59), 118, [])]
  | 180 => [(.aload_n 0, 0, []), (.iconst 0, 0, []), (.invokevirtual 101, 184, [2, 1, 46, 2]), (.ireturn, 1, [])]
  | _ => []
abbrev n_m_isFrom : Nat := 196
def b_m_isFrom : Nat → List Item
  | 0 => [(.lload_n 0, 0, []), (.lload_n 2, 0, []), (.lcmp, 0, []), (.ifCond .lt 14, 17, []), (.lload_n 0, 0, []), (.lload 4, 0, []), (.lcmp, 0, []), (.ifCond .gt 7, 17, []), (.iconst 1, 0, []), (.goto 4, 18, [])]
  | 17 => [(.iconst 0, 0, []), (.nop, 18, [])]
  | 18 => [(.ireturn, 1, [])]
  | _ => []
abbrev n_m_feed : Nat := 197
def b_m_feed : Nat → List Item
  | 0 => [(.aload_n 0, 0, []), (.getfield 118, 12, [46, 10, 0, 0, 0]), (.bipush 20, 0, []), (.iadd, 0, []), (.sipush 900, 0, []), (.if_icmp .le 5, 15, []), (.iconst (-1), 0, []), (.ireturn, 0, [])]
  | 15 => [(.aload_n 0, 0, []), (.iload_n 1, 0, []), (.invokevirtual 121, 198, [2, 0, 46, 3]), (.aload_n 0, 0, []), (.iload_n 2, 0, []), (.invokevirtual 121, 198, [2, 0, 46, 3]), (.aload_n 0, 0, []), (.iload_n 3, 0, []), (.invokevirtual 121, 198, [2, 0, 46, 3]), (.aload_n 0, 0, []), (.iload 4, 0, []), (.invokevirtual 121, 198, [2, 0, 46, 3]), (.aload_n 0, 0, []), (.iload 5, 0, []), (.invokevirtual 121, 198, [2, 0, 46, 3]), (.aload_n 0, 0, []), (.getfield 118, 12, [46, 10, 0, 0, 0]), (.ireturn, 0, [])]
  | _ => []
abbrev n_m_four : Nat := 198
def b_m_four : Nat → List Item
  | 0 => [(.bipush 24, 0, []), (.istore_n 2, 0, []), (.nop, 3, [])]
  | 3 => [(.iload_n 2, 0, []), (.ifCond .lt 32, 36, []), (.aload_n 0, 0, []), (.getfield 30, 12, [46, 8, 2, 52, 0]), (.aload_n 0, 0, []), (.getfield 118, 12, [46, 10, 0, 0, 0]), (.iload_n 1, 0, []), (.iload_n 2, 0, []), (.ishr, 0, []), (.i2b, 0, []), (.bastore, 0, []), (.aload_n 0, 0, []), (.dup, 0, []), (.getfield 118, 12, [46, 10, 0, 0, 0]), (.iconst 1, 0, []), (.iadd, 0, []), (.putfield 118, 12, [46, 10, 0, 0, 0]), (.iinc 2 (-8), 0, []), (.goto (-30), 3, [])]
  | 36 => [(.return_, 0, [])]
  | _ => []
abbrev n_m_byteAt : Nat := 199
def b_m_byteAt : Nat → List Item
  | 0 => [(.iload_n 1, 0, []), (.aload_n 0, 0, []), (.getfield 124, 12, [46, 11, 0, 0, 0]), (.if_icmp .ge 16, 21, []), (.aload_n 0, 0, []), (.getfield 34, 12, [46, 9, 2, 53, 0]), (.iload_n 1, 0, []), (.baload, 0, []), (.sipush 255, 0, []), (.iand, 0, []), (.goto 4, 22, [])]
  | 21 => [(.iconst (-1), 0, []), (.nop, 22, [])]
  | 22 => [(.ireturn, 0, [])]
  | _ => []
abbrev n_m_isSmall : Nat := 200
def b_m_isSmall : Nat → List Item
  | 0 => [(.iload_n 0, 0, []), (.bipush 97, 0, []), (.if_icmp .lt 13, 16, []), (.iload_n 0, 0, []), (.bipush 122, 0, []), (.if_icmp .gt 7, 16, []), (.iconst 1, 0, []), (.goto 4, 17, [])]
  | 16 => [(.iconst 0, 0, []), (.nop, 17, [])]
  | 17 => [(.ireturn, 1, [])]
  | _ => []
abbrev n_m_isDigit : Nat := 201
def b_m_isDigit : Nat → List Item
  | 0 => [(.iload_n 0, 0, []), (.bipush 48, 0, []), (.if_icmp .lt 13, 16, []), (.iload_n 0, 0, []), (.bipush 57, 0, []), (.if_icmp .gt 7, 16, []), (.iconst 1, 0, []), (.goto 4, 17, [])]
  | 16 => [(.iconst 0, 0, []), (.nop, 17, [])]
  | 17 => [(.ireturn, 1, [])]
  | _ => []
abbrev n_m_ahead : Nat := 202
def b_m_ahead : Nat → List Item
  | 0 => [(.aload_n 0, 0, []), (.aload_n 0, 0, []), (.getfield 127, 12, [46, 14, 0, 0, 0]), (.invokevirtual 130, 199, [2, 1, 46, 2]), (.bipush 32, 0, []), (.if_icmp .eq 16, 26, []), (.aload_n 0, 0, []), (.aload_n 0, 0, []), (.getfield 127, 12, [46, 14, 0, 0, 0]), (.invokevirtual 130, 199, [2, 1, 46, 2]), (.bipush 10, 0, []), (.if_icmp .ne 16, 39, []), (.nop, 26, [])]
  | 26 => [(.aload_n 0, 0, []), (.dup, 0, []), (.getfield 127, 12, [46, 14, 0, 0, 0]), (.iconst 1, 0, []), (.iadd, 0, []), (.putfield 127, 12, [46, 14, 0, 0, 0]), (.goto (-36), 0, [])]
  | 39 => [(.aload_n 0, 0, []), (.aload_n 0, 0, []), (.getfield 127, 12, [46, 14, 0, 0, 0]), (.putfield 133, 12, [46, 13, 0, 0, 0]), (.aload_n 0, 0, []), (.aload_n 0, 0, []), (.getfield 127, 12, [46, 14, 0, 0, 0]), (.invokevirtual 130, 199, [2, 1, 46, 2]), (.istore_n 1, 0, []), (.aload_n 0, 0, []), (.iload_n 1, 0, []), (.putfield 136, 12, [46, 15, 0, 0, 0]), (.iload_n 1, 0, []), (.iconst (-1), 0, []), (.if_icmp .ne 11, 74, []), (.aload_n 0, 0, []), (.iconst 0, 0, []), (.putfield 139, 12, [46, 12, 0, 0, 0]), (.goto 180, 251, [])]
  | 74 => [(.iload_n 1, 0, []), (.invokestatic 142, 200, [1, 1, 0, 1]), (.ifCond .eq 38, 116, []), (.nop, 81, [])]
  | 81 => [(.aload_n 0, 0, []), (.aload_n 0, 0, []), (.getfield 127, 12, [46, 14, 0, 0, 0]), (.invokevirtual 130, 199, [2, 1, 46, 2]), (.invokestatic 142, 200, [1, 1, 0, 1]), (.ifCond .eq 16, 108, []), (.aload_n 0, 0, []), (.dup, 0, []), (.getfield 127, 12, [46, 14, 0, 0, 0]), (.iconst 1, 0, []), (.iadd, 0, []), (.putfield 127, 12, [46, 14, 0, 0, 0]), (.goto (-24), 81, [])]
  | 108 => [(.aload_n 0, 0, []), (.iconst 2, 0, []), (.putfield 139, 12, [46, 12, 0, 0, 0]), (.goto 138, 251, [])]
  | 116 => [(.iload_n 1, 0, []), (.invokestatic 145, 201, [1, 1, 0, 1]), (.ifCond .eq 88, 208, []), (.aload_n 0, 0, []), (.iconst 0, 0, []), (.putfield 136, 12, [46, 15, 0, 0, 0]), (.nop, 128, [])]
  | 128 => [(.aload_n 0, 0, []), (.aload_n 0, 0, []), (.getfield 127, 12, [46, 14, 0, 0, 0]), (.invokevirtual 130, 199, [2, 1, 46, 2]), (.invokestatic 145, 201, [1, 1, 0, 1]), (.ifCond .eq 44, 183, []), (.aload_n 0, 0, []), (.ldc 148, 100000, []), (.bipush 10, 0, []), (.aload_n 0, 0, []), (.getfield 136, 12, [46, 15, 0, 0, 0]), (.imul, 0, []), (.aload_n 0, 0, []), (.aload_n 0, 0, []), (.getfield 127, 12, [46, 14, 0, 0, 0]), (.invokevirtual 130, 199, [2, 1, 46, 2]), (.iadd, 0, []), (.bipush 48, 0, []), (.isub, 0, []), (.invokestatic 149, 335, [2, 1, 0, 2]), (.putfield 136, 12, [46, 15, 0, 0, 0]), (.aload_n 0, 0, []), (.dup, 0, []), (.getfield 127, 12, [46, 14, 0, 0, 0]), (.iconst 1, 0, []), (.iadd, 0, []), (.putfield 127, 12, [46, 14, 0, 0, 0]), (.goto (-52), 128, [])]
  | 183 => [(.aload_n 0, 0, []), (.aload_n 0, 0, []), (.getfield 127, 12, [46, 14, 0, 0, 0]), (.aload_n 0, 0, []), (.getfield 133, 12, [46, 13, 0, 0, 0]), (.isub, 0, []), (.iconst 4, 0, []), (.if_icmp .le 7, 201, []), (.iconst 1, 0, []), (.goto 4, 202, [])]
  | 201 => [(.iconst 3, 0, []), (.nop, 202, [])]
  | 202 => [(.putfield 139, 12, [46, 12, 0, 0, 0]), (.goto 46, 251, [])]
  | 208 => [(.aload_n 0, 0, []), (.dup, 0, []), (.getfield 127, 12, [46, 14, 0, 0, 0]), (.iconst 1, 0, []), (.iadd, 0, []), (.putfield 127, 12, [46, 14, 0, 0, 0]), (.aload_n 0, 0, []), (.iload_n 1, 0, []), (.bipush 59, 0, []), (.if_icmp .eq 21, 243, []), (.iload_n 1, 0, []), (.bipush 60, 0, []), (.if_icmp .eq 15, 243, []), (.iload_n 1, 0, []), (.bipush 62, 0, []), (.if_icmp .eq 9, 243, []), (.iload_n 1, 0, []), (.bipush 61, 0, []), (.if_icmp .ne 7, 247, []), (.nop, 243, [])]
  | 243 => [(.iconst 4, 0, []), (.goto 4, 248, [])]
  | 247 => [(.iconst 1, 0, []), (.nop, 248, [])]
  | 248 => [(.putfield 139, 12, [46, 12, 0, 0, 0]), (.nop, 251, [])]
  | 251 => [(.return_, 0, [])]
  | _ => []
abbrev n_m_isSign : Nat := 203
def b_m_isSign : Nat → List Item
  | 0 => [(.aload_n 0, 0, []), (.getfield 139, 12, [46, 12, 0, 0, 0]), (.iconst 4, 0, []), (.if_icmp .ne 15, 20, []), (.aload_n 0, 0, []), (.getfield 136, 12, [46, 15, 0, 0, 0]), (.iload_n 1, 0, []), (.if_icmp .ne 7, 20, []), (.iconst 1, 0, []), (.goto 4, 21, [])]
  | 20 => [(.iconst 0, 0, []), (.nop, 21, [])]
  | 21 => [(.ireturn, 1, [])]
  | _ => []
abbrev n_m_inWords : Nat := 204
def b_m_inWords : Nat → List Item
  | 0 => [(.aload_n 0, 0, []), (.getfield 139, 12, [46, 12, 0, 0, 0]), (.iconst 2, 0, []), (.if_icmp .eq 5, 10, []), (.iconst (-1), 0, []), (.ireturn, 0, [])]
  | 10 => [(.iconst 0, 0, []), (.istore_n 2, 0, []), (.iconst 1, 0, []), (.istore_n 3, 0, []), (.nop, 14, [])]
  | 14 => [(.iload_n 3, 0, []), (.aload_n 1, 0, []), (.invokevirtual 154, 0, [1001]), (.if_icmp .ge 114, 133, []), (.iload_n 3, 0, []), (.istore 4, 0, []), (.nop, 25, [])]
  | 25 => [(.aload_n 1, 0, []), (.iload 4, 0, []), (.invokevirtual 160, 0, [1002]), (.bipush 32, 0, []), (.if_icmp .eq 9, 42, []), (.iinc 4 1, 0, []), (.goto (-14), 25, [])]
  | 42 => [(.iload 4, 0, []), (.iload_n 3, 0, []), (.isub, 0, []), (.aload_n 0, 0, []), (.getfield 127, 12, [46, 14, 0, 0, 0]), (.aload_n 0, 0, []), (.getfield 133, 12, [46, 13, 0, 0, 0]), (.isub, 0, []), (.if_icmp .ne 7, 62, []), (.iconst 1, 0, []), (.goto 4, 63, [])]
  | 62 => [(.iconst 0, 0, []), (.nop, 63, [])]
  | 63 => [(.istore 5, 0, []), (.iload_n 3, 0, []), (.istore 6, 0, []), (.nop, 68, [])]
  | 68 => [(.iload 6, 0, []), (.iload 4, 0, []), (.if_icmp .ge 43, 115, []), (.iload 5, 0, []), (.ifCond .eq 38, 115, []), (.aload_n 1, 0, []), (.iload 6, 0, []), (.invokevirtual 160, 0, [1002]), (.aload_n 0, 0, []), (.aload_n 0, 0, []), (.getfield 133, 12, [46, 13, 0, 0, 0]), (.iload 6, 0, []), (.iadd, 0, []), (.iload_n 3, 0, []), (.isub, 0, []), (.invokevirtual 130, 199, [2, 1, 46, 2]), (.if_icmp .ne 7, 106, []), (.iconst 1, 0, []), (.goto 4, 107, [])]
  | 106 => [(.iconst 0, 0, []), (.nop, 107, [])]
  | 107 => [(.istore 5, 0, []), (.iinc 6 1, 0, []), (.goto (-44), 68, [])]
  | 115 => [(.iload 5, 0, []), (.ifCond .eq 5, 122, []), (.iload_n 2, 0, []), (.ireturn, 0, [])]
  | 122 => [(.iinc 2 1, 0, []), (.iload 4, 0, []), (.iconst 1, 0, []), (.iadd, 0, []), (.istore_n 3, 0, []), (.goto (-116), 14, [])]
  | 133 => [(.iconst (-1), 0, []), (.ireturn, 0, [])]
  | _ => []
abbrev n_m_fails : Nat := 205
def b_m_fails : Nat → List Item
  | 0 => [(.aload_n 0, 0, []), (.getfield 164, 12, [46, 18, 0, 0, 0]), (.ifCond .ne 28, 32, []), (.aload_n 0, 0, []), (.aload_n 0, 0, []), (.getfield 139, 12, [46, 12, 0, 0, 0]), (.iconst 1, 0, []), (.if_icmp .ne 7, 20, []), (.iconst 1, 0, []), (.goto 4, 21, [])]
  | 20 => [(.iload_n 1, 0, []), (.nop, 21, [])]
  | 21 => [(.putfield 164, 12, [46, 18, 0, 0, 0]), (.aload_n 0, 0, []), (.aload_n 0, 0, []), (.getfield 133, 12, [46, 13, 0, 0, 0]), (.putfield 41, 12, [46, 17, 0, 0, 0]), (.nop, 32, [])]
  | 32 => [(.iconst 0, 0, []), (.ireturn, 1, [])]
  | _ => []
abbrev n_m_begins : Nat := 206
def b_m_begins : Nat → List Item
  | 0 => [(.iload_n 1, 0, []), (.ifCond .lt 16, 17, []), (.iload_n 1, 0, []), (.aload_n 0, 0, []), (.getfield 118, 12, [46, 10, 0, 0, 0]), (.if_icmp .gt 8, 17, []), (.iload_n 1, 0, []), (.iload_n 2, 0, []), (.if_icmp .le 5, 19, []), (.nop, 17, [])]
  | 17 => [(.iconst 0, 0, []), (.ireturn, 1, [])]
  | 19 => [(.aload_n 0, 0, []), (.iload_n 1, 0, []), (.putfield 124, 12, [46, 11, 0, 0, 0]), (.iconst 0, 0, []), (.istore_n 3, 0, []), (.nop, 26, [])]
  | 26 => [(.iload_n 3, 0, []), (.iload_n 1, 0, []), (.if_icmp .ge 21, 49, []), (.aload_n 0, 0, []), (.getfield 34, 12, [46, 9, 2, 53, 0]), (.iload_n 3, 0, []), (.aload_n 0, 0, []), (.getfield 30, 12, [46, 8, 2, 52, 0]), (.iload_n 3, 0, []), (.baload, 0, []), (.bastore, 0, []), (.iinc 3 1, 0, []), (.goto (-20), 26, [])]
  | 49 => [(.aload_n 0, 0, []), (.iconst 0, 0, []), (.putfield 118, 12, [46, 10, 0, 0, 0]), (.aload_n 0, 0, []), (.iconst 0, 0, []), (.putfield 164, 12, [46, 18, 0, 0, 0]), (.aload_n 0, 0, []), (.iconst (-1), 0, []), (.putfield 41, 12, [46, 17, 0, 0, 0]), (.aload_n 0, 0, []), (.iconst 0, 0, []), (.putfield 127, 12, [46, 14, 0, 0, 0]), (.aload_n 0, 0, []), (.iconst 0, 0, []), (.putfield 167, 12, [46, 19, 0, 0, 0]), (.aload_n 0, 0, []), (.invokevirtual 170, 202, [1, 0, 46, 2]), (.iconst 1, 0, []), (.ireturn, 1, [])]
  | _ => []
abbrev n_m_wantSign : Nat := 207
def b_m_wantSign : Nat → List Item
  | 0 => [(.aload_n 0, 0, []), (.iload_n 1, 0, []), (.invokevirtual 173, 203, [2, 1, 46, 2]), (.ifCond .ne 9, 14, []), (.aload_n 0, 0, []), (.iconst 2, 0, []), (.invokevirtual 176, 205, [2, 1, 46, 2]), (.ireturn, 1, [])]
  | 14 => [(.aload_n 0, 0, []), (.invokevirtual 170, 202, [1, 0, 46, 2]), (.iconst 1, 0, []), (.ireturn, 1, [])]
  | _ => []
abbrev n_m_wantWord : Nat := 208
def b_m_wantWord : Nat → List Item
  | 0 => [(.aload_n 0, 0, []), (.aload_n 1, 0, []), (.invokevirtual 179, 204, [2, 1, 46, 7]), (.iload_n 2, 0, []), (.if_icmp .eq 9, 15, []), (.aload_n 0, 0, []), (.iconst 2, 0, []), (.invokevirtual 176, 205, [2, 1, 46, 2]), (.ireturn, 1, [])]
  | 15 => [(.aload_n 0, 0, []), (.invokevirtual 170, 202, [1, 0, 46, 2]), (.iconst 1, 0, []), (.ireturn, 1, [])]
  | _ => []
abbrev n_m_number : Nat := 209
def b_m_number : Nat → List Item
  | 0 => [(.aload_n 0, 0, []), (.getfield 139, 12, [46, 12, 0, 0, 0]), (.iconst 3, 0, []), (.if_icmp .eq 9, 14, []), (.aload_n 0, 0, []), (.iconst 2, 0, []), (.invokevirtual 176, 205, [2, 1, 46, 2]), (.ireturn, 1, [])]
  | 14 => [(.aload_n 0, 0, []), (.getfield 136, 12, [46, 15, 0, 0, 0]), (.iload_n 2, 0, []), (.if_icmp .lt 11, 30, []), (.aload_n 0, 0, []), (.getfield 136, 12, [46, 15, 0, 0, 0]), (.iload_n 3, 0, []), (.if_icmp .le 9, 36, []), (.nop, 30, [])]
  | 30 => [(.aload_n 0, 0, []), (.iconst 4, 0, []), (.invokevirtual 176, 205, [2, 1, 46, 2]), (.ireturn, 1, [])]
  | 36 => [(.aload_n 0, 0, []), (.getfield 7, 12, [46, 0, 2, 47, 0]), (.iload_n 1, 0, []), (.aload_n 0, 0, []), (.getfield 136, 12, [46, 15, 0, 0, 0]), (.iastore, 0, []), (.aload_n 0, 0, []), (.invokevirtual 170, 202, [1, 0, 46, 2]), (.iconst 1, 0, []), (.ireturn, 1, [])]
  | _ => []
abbrev n_m_isName : Nat := 210
def b_m_isName : Nat → List Item
  | 0 => [(.aload_n 0, 0, []), (.getfield 139, 12, [46, 12, 0, 0, 0]), (.iconst 2, 0, []), (.if_icmp .ne 30, 35, []), (.aload_n 0, 0, []), (.getfield 127, 12, [46, 14, 0, 0, 0]), (.aload_n 0, 0, []), (.getfield 133, 12, [46, 13, 0, 0, 0]), (.isub, 0, []), (.bipush 8, 0, []), (.if_icmp .gt 16, 35, []), (.aload_n 0, 0, []), (.aload_n 1, 0, []), (.invokevirtual 179, 204, [2, 1, 46, 7]), (.iconst (-1), 0, []), (.if_icmp .ne 7, 35, []), (.iconst 1, 0, []), (.goto 4, 36, [])]
  | 35 => [(.iconst 0, 0, []), (.nop, 36, [])]
  | 36 => [(.ireturn, 1, [])]
  | _ => []
abbrev n_m_nameHere : Nat := 211
def b_m_nameHere : Nat → List Item
  | 0 => [(.lconst 0, 0, []), (.lstore_n 1, 0, []), (.aload_n 0, 0, []), (.getfield 133, 12, [46, 13, 0, 0, 0]), (.istore_n 3, 0, []), (.nop, 7, [])]
  | 7 => [(.iload_n 3, 0, []), (.aload_n 0, 0, []), (.getfield 127, 12, [46, 14, 0, 0, 0]), (.if_icmp .ge 21, 33, []), (.lload_n 1, 0, []), (.bipush 8, 0, []), (.lshl, 0, []), (.aload_n 0, 0, []), (.iload_n 3, 0, []), (.invokevirtual 130, 199, [2, 1, 46, 2]), (.i2l, 0, []), (.lor, 0, []), (.lstore_n 1, 0, []), (.iinc 3 1, 0, []), (.goto (-23), 7, [])]
  | 33 => [(.lload_n 1, 0, []), (.lreturn, 0, [])]
  | _ => []
abbrev n_m_findHere : Nat := 212
def b_m_findHere : Nat → List Item
  | 0 => [(.iconst 0, 0, []), (.istore_n 3, 0, []), (.nop, 2, [])]
  | 2 => [(.iload_n 3, 0, []), (.iload_n 2, 0, []), (.if_icmp .ge 27, 31, []), (.aload_n 0, 0, []), (.getfield 13, 12, [46, 1, 2, 48, 0]), (.iload_n 1, 0, []), (.iload_n 3, 0, []), (.iadd, 0, []), (.laload, 0, []), (.aload_n 0, 0, []), (.invokevirtual 183, 211, [1, 1, 46, 4]), (.lcmp, 0, []), (.ifCond .ne 5, 25, []), (.iload_n 3, 0, []), (.ireturn, 0, [])]
  | 25 => [(.iinc 3 1, 0, []), (.goto (-26), 2, [])]
  | 31 => [(.iconst (-1), 0, []), (.ireturn, 0, [])]
  | _ => []
abbrev n_m_fault : Nat := 213
def b_m_fault : Nat → List Item
  | 0 => [(.iload_n 1, 0, []), (.ifCond .ne 10, 11, []), (.aload_n 0, 0, []), (.getfield 37, 12, [46, 16, 0, 0, 0]), (.goto 16, 24, [])]
  | 11 => [(.iload_n 1, 0, []), (.iconst 1, 0, []), (.if_icmp .ne 10, 23, []), (.aload_n 0, 0, []), (.getfield 41, 12, [46, 17, 0, 0, 0]), (.goto 4, 24, [])]
  | 23 => [(.iconst (-1), 0, []), (.nop, 24, [])]
  | 24 => [(.ireturn, 0, [])]
  | _ => []
abbrev n_m_taken : Nat := 214
def b_m_taken : Nat → List Item
  | 0 => [(.aload_n 0, 0, []), (.aload_n 0, 0, []), (.getfield 164, 12, [46, 18, 0, 0, 0]), (.putfield 37, 12, [46, 16, 0, 0, 0]), (.aload_n 0, 0, []), (.getfield 164, 12, [46, 18, 0, 0, 0]), (.ifCond .le 12, 24, []), (.aload_n 0, 0, []), (.bipush 9, 0, []), (.invokevirtual 94, 185, [2, 1, 46, 2]), (.goto 8, 29, [])]
  | 24 => [(.aload_n 0, 0, []), (.iload_n 1, 0, []), (.invokevirtual 98, 186, [2, 1, 46, 2]), (.nop, 29, [])]
  | 29 => [(.ireturn, 0, [])]
  | _ => []
abbrev n_m_isThere : Nat := 215
def b_m_isThere : Nat → List Item
  | 0 => [(.aload_n 0, 0, []), (.ldc 187, 1, [67]), (.invokevirtual 179, 204, [2, 1, 46, 7]), (.iload_n 1, 0, []), (.if_icmp .eq 5, 12, []), (.iconst 0, 0, []), (.ireturn, 1, [])]
  | 12 => [(.aload_n 0, 0, []), (.invokevirtual 170, 202, [1, 0, 46, 2]), (.iconst 1, 0, []), (.ireturn, 1, [])]
  | _ => []
abbrev n_m_newOne : Nat := 216
def b_m_newOne : Nat → List Item
  | 0 => [(.aload_n 0, 0, []), (.getfield 7, 12, [46, 0, 2, 47, 0]), (.sipush 1860, 0, []), (.iload_n 1, 0, []), (.iadd, 0, []), (.iaload, 0, []), (.iload_n 2, 0, []), (.if_icmp .ne 10, 21, []), (.aload_n 0, 0, []), (.bipush 6, 0, []), (.invokevirtual 176, 205, [2, 1, 46, 2]), (.ireturn, 1, [])]
  | 21 => [(.aload_n 0, 0, []), (.invokevirtual 170, 202, [1, 0, 46, 2]), (.aload_n 0, 0, []), (.ldc 187, 1, [67]), (.invokevirtual 189, 210, [2, 1, 46, 2]), (.ifCond .ne 9, 40, []), (.aload_n 0, 0, []), (.iconst 2, 0, []), (.invokevirtual 176, 205, [2, 1, 46, 2]), (.ireturn, 1, [])]
  | 40 => [(.aload_n 0, 0, []), (.bipush 52, 0, []), (.aload_n 0, 0, []), (.getfield 7, 12, [46, 0, 2, 47, 0]), (.sipush 1860, 0, []), (.iaload, 0, []), (.invokevirtual 193, 212, [3, 1, 46, 4]), (.iconst (-1), 0, []), (.if_icmp .ne 21, 76, []), (.aload_n 0, 0, []), (.bipush 58, 0, []), (.aload_n 0, 0, []), (.getfield 7, 12, [46, 0, 2, 47, 0]), (.sipush 1861, 0, []), (.iaload, 0, []), (.invokevirtual 193, 212, [3, 1, 46, 4]), (.iconst (-1), 0, []), (.if_icmp .eq 9, 82, []), (.nop, 76, [])]
  | 76 => [(.aload_n 0, 0, []), (.iconst 3, 0, []), (.invokevirtual 176, 205, [2, 1, 46, 2]), (.ireturn, 1, [])]
  | 82 => [(.aload_n 0, 0, []), (.getfield 13, 12, [46, 1, 2, 48, 0]), (.bipush 52, 0, []), (.iload_n 3, 0, []), (.iadd, 0, []), (.aload_n 0, 0, []), (.getfield 7, 12, [46, 0, 2, 47, 0]), (.sipush 1860, 0, []), (.iload_n 1, 0, []), (.iadd, 0, []), (.iaload, 0, []), (.iadd, 0, []), (.aload_n 0, 0, []), (.invokevirtual 183, 211, [1, 1, 46, 4]), (.lastore, 0, []), (.aload_n 0, 0, []), (.invokevirtual 170, 202, [1, 0, 46, 2]), (.iconst 1, 0, []), (.ireturn, 1, [])]
  | _ => []
abbrev n_m_oldOne : Nat := 217
def b_m_oldOne : Nat → List Item
  | 0 => [(.aload_n 0, 0, []), (.ldc 187, 1, [67]), (.invokevirtual 189, 210, [2, 1, 46, 2]), (.ifCond .ne 9, 15, []), (.aload_n 0, 0, []), (.iconst 2, 0, []), (.invokevirtual 176, 205, [2, 1, 46, 2]), (.ireturn, 1, [])]
  | 15 => [(.aload_n 0, 0, []), (.getfield 7, 12, [46, 0, 2, 47, 0]), (.iload_n 3, 0, []), (.aload_n 0, 0, []), (.iload_n 1, 0, []), (.iload_n 2, 0, []), (.invokevirtual 193, 212, [3, 1, 46, 4]), (.iastore, 0, []), (.aload_n 0, 0, []), (.getfield 7, 12, [46, 0, 2, 47, 0]), (.iload_n 3, 0, []), (.iaload, 0, []), (.iconst (-1), 0, []), (.if_icmp .ne 9, 43, []), (.aload_n 0, 0, []), (.iconst 3, 0, []), (.invokevirtual 176, 205, [2, 1, 46, 2]), (.ireturn, 1, [])]
  | 43 => [(.aload_n 0, 0, []), (.invokevirtual 170, 202, [1, 0, 46, 2]), (.iconst 1, 0, []), (.ireturn, 1, [])]
  | _ => []
abbrev n_m_newTopicTo : Nat := 218
def b_m_newTopicTo : Nat → List Item
  | 0 => [(.aload_n 0, 0, []), (.bipush 52, 0, []), (.aload_n 0, 0, []), (.getfield 7, 12, [46, 0, 2, 47, 0]), (.sipush 1860, 0, []), (.iaload, 0, []), (.iload_n 1, 0, []), (.invokevirtual 196, 217, [4, 1, 46, 4]), (.ireturn, 1, [])]
  | _ => []
abbrev n_m_newMonkTo : Nat := 219
def b_m_newMonkTo : Nat → List Item
  | 0 => [(.aload_n 0, 0, []), (.bipush 58, 0, []), (.aload_n 0, 0, []), (.getfield 7, 12, [46, 0, 2, 47, 0]), (.sipush 1861, 0, []), (.iaload, 0, []), (.iload_n 1, 0, []), (.invokevirtual 196, 217, [4, 1, 46, 4]), (.ireturn, 1, [])]
  | _ => []
abbrev n_m_aTopic : Nat := 220
def b_m_aTopic : Nat → List Item
  | 0 => [(.sipush 1860, 0, []), (.aload_n 0, 0, []), (.getfield 7, 12, [46, 0, 2, 47, 0]), (.sipush 1860, 0, []), (.iaload, 0, []), (.invokestatic 200, 232, [1, 1, 0, 1]), (.iadd, 0, []), (.istore_n 1, 0, []), (.aload_n 0, 0, []), (.iconst 0, 0, []), (.bipush 6, 0, []), (.iconst 0, 0, []), (.invokevirtual 203, 216, [4, 1, 46, 4]), (.ifCond .eq 25, 49, []), (.aload_n 0, 0, []), (.ldc 187, 1, [67]), (.bipush 7, 0, []), (.invokevirtual 206, 208, [3, 1, 46, 3]), (.ifCond .eq 14, 49, []), (.aload_n 0, 0, []), (.iload_n 1, 0, []), (.iconst 0, 0, []), (.bipush 20, 0, []), (.invokevirtual 210, 209, [4, 1, 46, 4]), (.ifCond .ne 5, 51, []), (.nop, 49, [])]
  | 49 => [(.iconst 0, 0, []), (.ireturn, 1, [])]
  | 51 => [(.aload_n 0, 0, []), (.getfield 7, 12, [46, 0, 2, 47, 0]), (.sipush 1860, 0, []), (.dup2, 0, []), (.iaload, 0, []), (.iconst 1, 0, []), (.iadd, 0, []), (.iastore, 0, []), (.iconst 1, 0, []), (.ireturn, 1, [])]
  | _ => []
abbrev n_m_aMonk : Nat := 221
def b_m_aMonk : Nat → List Item
  | 0 => [(.sipush 1860, 0, []), (.aload_n 0, 0, []), (.getfield 7, 12, [46, 0, 2, 47, 0]), (.sipush 1861, 0, []), (.iaload, 0, []), (.invokestatic 213, 233, [1, 1, 0, 1]), (.iadd, 0, []), (.istore_n 1, 0, []), (.aload_n 0, 0, []), (.iconst 1, 0, []), (.bipush 7, 0, []), (.bipush 6, 0, []), (.invokevirtual 203, 216, [4, 1, 46, 4]), (.ifCond .eq 25, 50, []), (.aload_n 0, 0, []), (.ldc 187, 1, [67]), (.bipush 8, 0, []), (.invokevirtual 206, 208, [3, 1, 46, 3]), (.ifCond .eq 14, 50, []), (.aload_n 0, 0, []), (.iload_n 1, 0, []), (.iconst 0, 0, []), (.bipush 99, 0, []), (.invokevirtual 210, 209, [4, 1, 46, 4]), (.ifCond .ne 5, 52, []), (.nop, 50, [])]
  | 50 => [(.iconst 0, 0, []), (.ireturn, 1, [])]
  | 52 => [(.aload_n 0, 0, []), (.getfield 7, 12, [46, 0, 2, 47, 0]), (.iload_n 1, 0, []), (.iconst 1, 0, []), (.iadd, 0, []), (.aload_n 0, 0, []), (.getfield 7, 12, [46, 0, 2, 47, 0]), (.iload_n 1, 0, []), (.iaload, 0, []), (.iastore, 0, []), (.aload_n 0, 0, []), (.getfield 7, 12, [46, 0, 2, 47, 0]), (.iload_n 1, 0, []), (.iconst 2, 0, []), (.iadd, 0, []), (.iconst 1, 0, []), (.iastore, 0, []), (.aload_n 0, 0, []), (.bipush 9, 0, []), (.invokevirtual 216, 215, [2, 1, 46, 2]), (.ifCond .eq 18, 99, []), (.aload_n 0, 0, []), (.iload_n 1, 0, []), (.iconst 2, 0, []), (.iadd, 0, []), (.iconst 0, 0, []), (.bipush 9, 0, []), (.invokevirtual 210, 209, [4, 1, 46, 4]), (.ifCond .ne 5, 99, []), (.iconst 0, 0, []), (.ireturn, 1, [])]
  | 99 => [(.aload_n 0, 0, []), (.getfield 7, 12, [46, 0, 2, 47, 0]), (.iload_n 1, 0, []), (.iconst 3, 0, []), (.iadd, 0, []), (.aload_n 0, 0, []), (.bipush 10, 0, []), (.invokevirtual 216, 215, [2, 1, 46, 2]), (.ifCond .eq 7, 119, []), (.iconst 0, 0, []), (.goto 4, 120, [])]
  | 119 => [(.iconst 1, 0, []), (.nop, 120, [])]
  | 120 => [(.iastore, 0, []), (.aload_n 0, 0, []), (.getfield 7, 12, [46, 0, 2, 47, 0]), (.sipush 1861, 0, []), (.dup2, 0, []), (.iaload, 0, []), (.iconst 1, 0, []), (.iadd, 0, []), (.iastore, 0, []), (.iconst 1, 0, []), (.ireturn, 1, [])]
  | _ => []
abbrev n_m_aFollowing : Nat := 222
def b_m_aFollowing : Nat → List Item
  | 0 => [(.sipush 2317, 0, []), (.istore_n 1, 0, []), (.aload_n 0, 0, []), (.invokevirtual 170, 202, [1, 0, 46, 2]), (.aload_n 0, 0, []), (.iload_n 1, 0, []), (.invokevirtual 219, 218, [2, 1, 46, 2]), (.ifCond .eq 13, 26, []), (.aload_n 0, 0, []), (.iload_n 1, 0, []), (.iconst 1, 0, []), (.iadd, 0, []), (.invokevirtual 219, 218, [2, 1, 46, 2]), (.ifCond .ne 5, 28, []), (.nop, 26, [])]
  | 26 => [(.iconst 0, 0, []), (.ireturn, 1, [])]
  | 28 => [(.aload_n 0, 0, []), (.getfield 7, 12, [46, 0, 2, 47, 0]), (.sipush 1860, 0, []), (.aload_n 0, 0, []), (.getfield 7, 12, [46, 0, 2, 47, 0]), (.iload_n 1, 0, []), (.iaload, 0, []), (.invokestatic 200, 232, [1, 1, 0, 1]), (.iadd, 0, []), (.iconst 1, 0, []), (.iadd, 0, []), (.dup2, 0, []), (.iaload, 0, []), (.iconst 1, 0, []), (.aload_n 0, 0, []), (.getfield 7, 12, [46, 0, 2, 47, 0]), (.iload_n 1, 0, []), (.iconst 1, 0, []), (.iadd, 0, []), (.iaload, 0, []), (.ishl, 0, []), (.ior, 0, []), (.iastore, 0, []), (.iconst 1, 0, []), (.ireturn, 1, [])]
  | _ => []
abbrev n_m_anEntry : Nat := 223
def b_m_anEntry : Nat → List Item
  | 0 => [(.aload_n 0, 0, []), (.getfield 7, 12, [46, 0, 2, 47, 0]), (.sipush 1862, 0, []), (.iaload, 0, []), (.bipush 12, 0, []), (.if_icmp .ne 10, 20, []), (.aload_n 0, 0, []), (.bipush 6, 0, []), (.invokevirtual 176, 205, [2, 1, 46, 2]), (.ireturn, 1, [])]
  | 20 => [(.sipush 1860, 0, []), (.aload_n 0, 0, []), (.getfield 7, 12, [46, 0, 2, 47, 0]), (.sipush 1862, 0, []), (.iaload, 0, []), (.invokestatic 222, 234, [1, 1, 0, 1]), (.iadd, 0, []), (.istore_n 1, 0, []), (.aload_n 0, 0, []), (.invokevirtual 170, 202, [1, 0, 46, 2]), (.aload_n 0, 0, []), (.iload_n 1, 0, []), (.invokevirtual 225, 219, [2, 1, 46, 2]), (.ifCond .eq 13, 58, []), (.aload_n 0, 0, []), (.iload_n 1, 0, []), (.iconst 1, 0, []), (.iadd, 0, []), (.invokevirtual 219, 218, [2, 1, 46, 2]), (.ifCond .ne 5, 60, []), (.nop, 58, [])]
  | 58 => [(.iconst 0, 0, []), (.ireturn, 1, [])]
  | 60 => [(.aload_n 0, 0, []), (.getfield 7, 12, [46, 0, 2, 47, 0]), (.sipush 1862, 0, []), (.dup2, 0, []), (.iaload, 0, []), (.iconst 1, 0, []), (.iadd, 0, []), (.iastore, 0, []), (.iconst 1, 0, []), (.ireturn, 1, [])]
  | _ => []
abbrev n_m_aHearing : Nat := 224
def b_m_aHearing : Nat → List Item
  | 0 => [(.sipush 2317, 0, []), (.istore_n 1, 0, []), (.aload_n 0, 0, []), (.invokevirtual 170, 202, [1, 0, 46, 2]), (.aload_n 0, 0, []), (.iload_n 1, 0, []), (.invokevirtual 225, 219, [2, 1, 46, 2]), (.ifCond .ne 5, 18, []), (.iconst 0, 0, []), (.ireturn, 1, [])]
  | 18 => [(.aload_n 0, 0, []), (.ldc 187, 1, [67]), (.invokevirtual 189, 210, [2, 1, 46, 2]), (.ifCond .eq 32, 56, []), (.aload_n 0, 0, []), (.bipush 58, 0, []), (.aload_n 0, 0, []), (.getfield 7, 12, [46, 0, 2, 47, 0]), (.sipush 1861, 0, []), (.iaload, 0, []), (.invokevirtual 193, 212, [3, 1, 46, 4]), (.aload_n 0, 0, []), (.getfield 7, 12, [46, 0, 2, 47, 0]), (.iload_n 1, 0, []), (.iaload, 0, []), (.if_icmp .ne 9, 56, []), (.aload_n 0, 0, []), (.iconst 5, 0, []), (.invokevirtual 176, 205, [2, 1, 46, 2]), (.ireturn, 1, [])]
  | 56 => [(.aload_n 0, 0, []), (.iload_n 1, 0, []), (.iconst 1, 0, []), (.iadd, 0, []), (.invokevirtual 225, 219, [2, 1, 46, 2]), (.ifCond .ne 5, 68, []), (.iconst 0, 0, []), (.ireturn, 1, [])]
  | 68 => [(.aload_n 0, 0, []), (.getfield 7, 12, [46, 0, 2, 47, 0]), (.sipush 1860, 0, []), (.aload_n 0, 0, []), (.getfield 7, 12, [46, 0, 2, 47, 0]), (.iload_n 1, 0, []), (.iaload, 0, []), (.invokestatic 213, 233, [1, 1, 0, 1]), (.iadd, 0, []), (.bipush 6, 0, []), (.iadd, 0, []), (.dup2, 0, []), (.iaload, 0, []), (.iconst 1, 0, []), (.aload_n 0, 0, []), (.getfield 7, 12, [46, 0, 2, 47, 0]), (.iload_n 1, 0, []), (.iconst 1, 0, []), (.iadd, 0, []), (.iaload, 0, []), (.ishl, 0, []), (.ior, 0, []), (.iastore, 0, []), (.aload_n 0, 0, []), (.getfield 7, 12, [46, 0, 2, 47, 0]), (.sipush 1860, 0, []), (.aload_n 0, 0, []), (.getfield 7, 12, [46, 0, 2, 47, 0]), (.iload_n 1, 0, []), (.iconst 1, 0, []), (.iadd, 0, []), (.iaload, 0, []), (.invokestatic 213, 233, [1, 1, 0, 1]), (.iadd, 0, []), (.bipush 6, 0, []), (.iadd, 0, []), (.dup2, 0, []), (.iaload, 0, []), (.iconst 1, 0, []), (.aload_n 0, 0, []), (.getfield 7, 12, [46, 0, 2, 47, 0]), (.iload_n 1, 0, []), (.iaload, 0, []), (.ishl, 0, []), (.ior, 0, []), (.iastore, 0, []), (.iconst 1, 0, []), (.ireturn, 1, [])]
  | _ => []
abbrev n_m_housePart : Nat := 225
def b_m_housePart : Nat → List Item
  | 0 => [(.aload_n 0, 0, []), (.ldc 187, 1, [67]), (.invokevirtual 179, 204, [2, 1, 46, 7]), (.istore_n 1, 0, []), (.iload_n 1, 0, []), (.ifCond .lt 9, 17, []), (.iload_n 1, 0, []), (.bipush 6, 0, []), (.if_icmp .le 9, 23, []), (.nop, 17, [])]
  | 17 => [(.aload_n 0, 0, []), (.iconst 2, 0, []), (.invokevirtual 176, 205, [2, 1, 46, 2]), (.ireturn, 1, [])]
  | 23 => [(.iload_n 1, 0, []), (.iconst 1, 0, []), (.if_icmp .gt 21, 46, []), (.aload_n 0, 0, []), (.getfield 228, 12, [46, 20, 0, 0, 0]), (.iload_n 1, 0, []), (.ishr, 0, []), (.iconst 1, 0, []), (.iand, 0, []), (.iconst 1, 0, []), (.if_icmp .ne 9, 46, []), (.aload_n 0, 0, []), (.iconst 5, 0, []), (.invokevirtual 176, 205, [2, 1, 46, 2]), (.ireturn, 1, [])]
  | 46 => [(.aload_n 0, 0, []), (.dup, 0, []), (.getfield 228, 12, [46, 20, 0, 0, 0]), (.iconst 1, 0, []), (.iload_n 1, 0, []), (.ishl, 0, []), (.ior, 0, []), (.putfield 228, 12, [46, 20, 0, 0, 0]), (.iload_n 1, 0, []), (.iconst 1, 0, []), (.if_icmp .gt 7, 67, []), (.aload_n 0, 0, []), (.invokevirtual 170, 202, [1, 0, 46, 2]), (.nop, 67, [])]
  | 67 => [(.iload_n 1, 0, []), (.tableswitch 100 0 5 #[40, 54, 68, 76, 84, 92], 168, [108, 122, 136, 144, 152, 160])]
  | 108 => [(.aload_n 0, 0, []), (.sipush 1863, 0, []), (.iconst 1, 0, []), (.bipush 99, 0, []), (.invokevirtual 210, 209, [4, 1, 46, 4]), (.istore_n 2, 0, []), (.goto 54, 173, [])]
  | 122 => [(.aload_n 0, 0, []), (.sipush 1864, 0, []), (.iconst 0, 0, []), (.bipush 16, 0, []), (.invokevirtual 210, 209, [4, 1, 46, 4]), (.istore_n 2, 0, []), (.goto 40, 173, [])]
  | 136 => [(.aload_n 0, 0, []), (.invokevirtual 231, 220, [1, 1, 46, 2]), (.istore_n 2, 0, []), (.goto 32, 173, [])]
  | 144 => [(.aload_n 0, 0, []), (.invokevirtual 235, 221, [1, 1, 46, 2]), (.istore_n 2, 0, []), (.goto 24, 173, [])]
  | 152 => [(.aload_n 0, 0, []), (.invokevirtual 238, 222, [1, 1, 46, 2]), (.istore_n 2, 0, []), (.goto 16, 173, [])]
  | 160 => [(.aload_n 0, 0, []), (.invokevirtual 241, 223, [1, 1, 46, 2]), (.istore_n 2, 0, []), (.goto 8, 173, [])]
  | 168 => [(.aload_n 0, 0, []), (.invokevirtual 244, 224, [1, 1, 46, 2]), (.istore_n 2, 0, []), (.nop, 173, [])]
  | 173 => [(.iload_n 2, 0, []), (.ifCond .eq 16, 190, []), (.aload_n 0, 0, []), (.bipush 59, 0, []), (.invokevirtual 247, 207, [2, 1, 46, 2]), (.ifCond .eq 7, 190, []), (.iconst 1, 0, []), (.goto 4, 191, [])]
  | 190 => [(.iconst 0, 0, []), (.nop, 191, [])]
  | 191 => [(.ireturn, 1, [])]
  | _ => []
abbrev n_m_house : Nat := 226
def b_m_house : Nat → List Item
  | 0 => [(.aload_n 0, 0, []), (.iload_n 1, 0, []), (.sipush 900, 0, []), (.invokevirtual 250, 206, [3, 1, 46, 4]), (.ifCond .ne 9, 17, []), (.aload_n 0, 0, []), (.iconst 1, 0, []), (.invokevirtual 94, 185, [2, 1, 46, 2]), (.ireturn, 0, [])]
  | 17 => [(.aload_n 0, 0, []), (.sipush 1860, 0, []), (.invokevirtual 84, 180, [2, 0, 46, 3]), (.aload_n 0, 0, []), (.iconst 0, 0, []), (.putfield 228, 12, [46, 20, 0, 0, 0]), (.iconst 1, 0, []), (.istore_n 2, 0, []), (.nop, 31, [])]
  | 31 => [(.iload_n 2, 0, []), (.ifCond .eq 18, 50, []), (.aload_n 0, 0, []), (.getfield 139, 12, [46, 12, 0, 0, 0]), (.ifCond .eq 11, 50, []), (.aload_n 0, 0, []), (.invokevirtual 254, 225, [1, 1, 46, 3]), (.istore_n 2, 0, []), (.goto (-16), 31, [])]
  | 50 => [(.aload_n 0, 0, []), (.getfield 164, 12, [46, 18, 0, 0, 0]), (.ifCond .ne 63, 117, []), (.iconst 0, 0, []), (.istore_n 3, 0, []), (.nop, 59, [])]
  | 59 => [(.iload_n 3, 0, []), (.sipush 465, 0, []), (.if_icmp .ge 25, 88, []), (.aload_n 0, 0, []), (.getfield 7, 12, [46, 0, 2, 47, 0]), (.iload_n 3, 0, []), (.aload_n 0, 0, []), (.getfield 7, 12, [46, 0, 2, 47, 0]), (.sipush 1860, 0, []), (.iload_n 3, 0, []), (.iadd, 0, []), (.iaload, 0, []), (.iastore, 0, []), (.iinc 3 1, 0, []), (.goto (-26), 59, [])]
  | 88 => [(.iconst 0, 0, []), (.istore_n 3, 0, []), (.nop, 90, [])]
  | 90 => [(.iload_n 3, 0, []), (.bipush 13, 0, []), (.if_icmp .ge 24, 117, []), (.aload_n 0, 0, []), (.getfield 13, 12, [46, 1, 2, 48, 0]), (.iload_n 3, 0, []), (.aload_n 0, 0, []), (.getfield 13, 12, [46, 1, 2, 48, 0]), (.bipush 52, 0, []), (.iload_n 3, 0, []), (.iadd, 0, []), (.laload, 0, []), (.lastore, 0, []), (.iinc 3 1, 0, []), (.goto (-24), 90, [])]
  | 117 => [(.aload_n 0, 0, []), (.aload_n 0, 0, []), (.getfield 7, 12, [46, 0, 2, 47, 0]), (.iconst 1, 0, []), (.iaload, 0, []), (.invokevirtual 257, 214, [2, 1, 46, 2]), (.ireturn, 0, [])]
  | _ => []
abbrev n_m_monkTo : Nat := 227
def b_m_monkTo : Nat → List Item
  | 0 => [(.aload_n 0, 0, []), (.bipush 6, 0, []), (.aload_n 0, 0, []), (.getfield 7, 12, [46, 0, 2, 47, 0]), (.iconst 1, 0, []), (.iaload, 0, []), (.iload_n 1, 0, []), (.invokevirtual 196, 217, [4, 1, 46, 4]), (.ireturn, 1, [])]
  | _ => []
abbrev n_m_test : Nat := 228
def b_m_test : Nat → List Item
  | 0 => [(.aload_n 0, 0, []), (.ldc 187, 1, [67]), (.invokevirtual 179, 204, [2, 1, 46, 7]), (.istore_n 2, 0, []), (.iload_n 2, 0, []), (.bipush 8, 0, []), (.if_icmp .eq 15, 25, []), (.iload_n 2, 0, []), (.bipush 20, 0, []), (.if_icmp .ge 9, 25, []), (.aload_n 0, 0, []), (.iconst 2, 0, []), (.invokevirtual 176, 205, [2, 1, 46, 2]), (.ireturn, 1, [])]
  | 25 => [(.aload_n 0, 0, []), (.getfield 7, 12, [46, 0, 2, 47, 0]), (.iload_n 1, 0, []), (.sipush 1600, 0, []), (.iload_n 2, 0, []), (.iadd, 0, []), (.iastore, 0, []), (.aload_n 0, 0, []), (.invokevirtual 170, 202, [1, 0, 46, 2]), (.iload_n 2, 0, []), (.bipush 20, 0, []), (.if_icmp .ne 11, 54, []), (.aload_n 0, 0, []), (.iload_n 1, 0, []), (.iconst 1, 0, []), (.iadd, 0, []), (.invokevirtual 260, 227, [2, 1, 46, 2]), (.ireturn, 1, [])]
  | 54 => [(.iload_n 2, 0, []), (.bipush 21, 0, []), (.if_icmp .ne 18, 75, []), (.aload_n 0, 0, []), (.iconst 0, 0, []), (.aload_n 0, 0, []), (.getfield 7, 12, [46, 0, 2, 47, 0]), (.iconst 0, 0, []), (.iaload, 0, []), (.iload_n 1, 0, []), (.iconst 1, 0, []), (.iadd, 0, []), (.invokevirtual 196, 217, [4, 1, 46, 4]), (.ireturn, 1, [])]
  | 75 => [(.iload_n 2, 0, []), (.bipush 8, 0, []), (.if_icmp .ne 15, 93, []), (.aload_n 0, 0, []), (.iload_n 1, 0, []), (.iconst 1, 0, []), (.iadd, 0, []), (.invokevirtual 260, 227, [2, 1, 46, 2]), (.ifCond .ne 5, 93, []), (.iconst 0, 0, []), (.ireturn, 1, [])]
  | 93 => [(.aload_n 0, 0, []), (.bipush 60, 0, []), (.invokevirtual 173, 203, [2, 1, 46, 2]), (.ifCond .ne 27, 126, []), (.aload_n 0, 0, []), (.bipush 62, 0, []), (.invokevirtual 173, 203, [2, 1, 46, 2]), (.ifCond .ne 18, 126, []), (.aload_n 0, 0, []), (.bipush 61, 0, []), (.invokevirtual 173, 203, [2, 1, 46, 2]), (.ifCond .ne 9, 126, []), (.aload_n 0, 0, []), (.iconst 2, 0, []), (.invokevirtual 176, 205, [2, 1, 46, 2]), (.ireturn, 1, [])]
  | 126 => [(.aload_n 0, 0, []), (.getfield 7, 12, [46, 0, 2, 47, 0]), (.iload_n 1, 0, []), (.iconst 5, 0, []), (.iadd, 0, []), (.aload_n 0, 0, []), (.getfield 136, 12, [46, 15, 0, 0, 0]), (.iastore, 0, []), (.aload_n 0, 0, []), (.invokevirtual 170, 202, [1, 0, 46, 2]), (.aload_n 0, 0, []), (.iload_n 1, 0, []), (.iconst 2, 0, []), (.iadd, 0, []), (.iconst 0, 0, []), (.iload_n 2, 0, []), (.bipush 8, 0, []), (.if_icmp .ne 8, 158, []), (.bipush 99, 0, []), (.goto 6, 161, [])]
  | 158 => [(.sipush 9999, 0, []), (.nop, 161, [])]
  | 161 => [(.invokevirtual 210, 209, [4, 1, 46, 4]), (.ireturn, 1, [])]
  | _ => []
abbrev n_m_dayOrder : Nat := 229
def b_m_dayOrder : Nat → List Item
  | 0 => [(.iload_n 1, 0, []), (.tableswitch 79 11 17 #[43, 65, 65, 65, 79, 73, 54], 80, [44, 66, 66, 66, 80, 74, 55])]
  | 44 => [(.aload_n 0, 0, []), (.iload_n 2, 0, []), (.iconst 1, 0, []), (.iadd, 0, []), (.iconst 1, 0, []), (.bipush 60, 0, []), (.invokevirtual 210, 209, [4, 1, 46, 4]), (.ireturn, 1, [])]
  | 55 => [(.aload_n 0, 0, []), (.iload_n 2, 0, []), (.iconst 1, 0, []), (.iadd, 0, []), (.iconst 1, 0, []), (.bipush 99, 0, []), (.invokevirtual 210, 209, [4, 1, 46, 4]), (.ireturn, 1, [])]
  | 66 => [(.aload_n 0, 0, []), (.iload_n 2, 0, []), (.iconst 1, 0, []), (.iadd, 0, []), (.invokevirtual 260, 227, [2, 1, 46, 2]), (.ireturn, 1, [])]
  | 74 => [(.aload_n 0, 0, []), (.iload_n 2, 0, []), (.invokevirtual 263, 228, [2, 1, 46, 3]), (.ireturn, 1, [])]
  | 80 => [(.iconst 1, 0, []), (.ireturn, 1, [])]
  | _ => []
abbrev n_m_dayStep : Nat := 230
def b_m_dayStep : Nat → List Item
  | 0 => [(.aload_n 0, 0, []), (.ldc 187, 1, [67]), (.invokevirtual 179, 204, [2, 1, 46, 7]), (.istore_n 1, 0, []), (.aload_n 0, 0, []), (.getfield 7, 12, [46, 0, 2, 47, 0]), (.sipush 1870, 0, []), (.iaload, 0, []), (.istore_n 2, 0, []), (.sipush 1957, 0, []), (.bipush 6, 0, []), (.iload_n 2, 0, []), (.imul, 0, []), (.iadd, 0, []), (.istore_n 3, 0, []), (.iload_n 1, 0, []), (.bipush 16, 0, []), (.if_icmp .eq 9, 37, []), (.iload_n 1, 0, []), (.bipush 17, 0, []), (.if_icmp .ne 7, 41, []), (.nop, 37, [])]
  | 37 => [(.iconst 1, 0, []), (.goto 4, 42, [])]
  | 41 => [(.iconst 0, 0, []), (.nop, 42, [])]
  | 42 => [(.istore 4, 0, []), (.iload_n 1, 0, []), (.bipush 11, 0, []), (.if_icmp .lt 22, 69, []), (.iload_n 1, 0, []), (.bipush 19, 0, []), (.if_icmp .gt 16, 69, []), (.iload_n 1, 0, []), (.bipush 18, 0, []), (.if_icmp .ne 16, 75, []), (.aload_n 0, 0, []), (.getfield 266, 12, [46, 22, 0, 0, 0]), (.ifCond .ne 9, 75, []), (.nop, 69, [])]
  | 69 => [(.aload_n 0, 0, []), (.iconst 2, 0, []), (.invokevirtual 176, 205, [2, 1, 46, 2]), (.ireturn, 1, [])]
  | 75 => [(.iload_n 1, 0, []), (.bipush 18, 0, []), (.if_icmp .eq 19, 97, []), (.aload_n 0, 0, []), (.getfield 269, 12, [46, 23, 0, 0, 0]), (.bipush 30, 0, []), (.if_icmp .ne 10, 97, []), (.aload_n 0, 0, []), (.bipush 6, 0, []), (.invokevirtual 176, 205, [2, 1, 46, 2]), (.ireturn, 1, [])]
  | 97 => [(.iload 4, 0, []), (.ifCond .eq 18, 117, []), (.aload_n 0, 0, []), (.getfield 266, 12, [46, 22, 0, 0, 0]), (.iconst 3, 0, []), (.if_icmp .ne 10, 117, []), (.aload_n 0, 0, []), (.bipush 7, 0, []), (.invokevirtual 176, 205, [2, 1, 46, 2]), (.ireturn, 1, [])]
  | 117 => [(.aload_n 0, 0, []), (.dup, 0, []), (.getfield 269, 12, [46, 23, 0, 0, 0]), (.iload_n 1, 0, []), (.bipush 18, 0, []), (.if_icmp .ne 7, 132, []), (.iconst 0, 0, []), (.goto 4, 133, [])]
  | 132 => [(.iconst 1, 0, []), (.nop, 133, [])]
  | 133 => [(.iadd, 0, []), (.putfield 269, 12, [46, 23, 0, 0, 0]), (.aload_n 0, 0, []), (.getfield 7, 12, [46, 0, 2, 47, 0]), (.iload_n 3, 0, []), (.iload_n 1, 0, []), (.iastore, 0, []), (.iconst 1, 0, []), (.istore 5, 0, []), (.nop, 147, [])]
  | 147 => [(.iload 5, 0, []), (.bipush 6, 0, []), (.if_icmp .ge 19, 170, []), (.aload_n 0, 0, []), (.getfield 7, 12, [46, 0, 2, 47, 0]), (.iload_n 3, 0, []), (.iload 5, 0, []), (.iadd, 0, []), (.iconst 0, 0, []), (.iastore, 0, []), (.iinc 5 1, 0, []), (.goto (-20), 147, [])]
  | 170 => [(.aload_n 0, 0, []), (.getfield 7, 12, [46, 0, 2, 47, 0]), (.sipush 1870, 0, []), (.dup2, 0, []), (.iaload, 0, []), (.iconst 1, 0, []), (.iadd, 0, []), (.iastore, 0, []), (.aload_n 0, 0, []), (.invokevirtual 170, 202, [1, 0, 46, 2]), (.aload_n 0, 0, []), (.iload_n 1, 0, []), (.iload_n 3, 0, []), (.invokevirtual 272, 229, [3, 1, 46, 3]), (.ifCond .ne 5, 197, []), (.iconst 0, 0, []), (.ireturn, 1, [])]
  | 197 => [(.iload 4, 0, []), (.ifCond .eq 23, 222, []), (.aload_n 0, 0, []), (.getfield 44, 12, [46, 21, 2, 54, 0]), (.aload_n 0, 0, []), (.getfield 266, 12, [46, 22, 0, 0, 0]), (.iload_n 2, 0, []), (.iastore, 0, []), (.aload_n 0, 0, []), (.dup, 0, []), (.getfield 266, 12, [46, 22, 0, 0, 0]), (.iconst 1, 0, []), (.iadd, 0, []), (.putfield 266, 12, [46, 22, 0, 0, 0]), (.nop, 222, [])]
  | 222 => [(.iload_n 1, 0, []), (.bipush 18, 0, []), (.if_icmp .ne 54, 279, []), (.aload_n 0, 0, []), (.dup, 0, []), (.getfield 266, 12, [46, 22, 0, 0, 0]), (.iconst 1, 0, []), (.isub, 0, []), (.putfield 266, 12, [46, 22, 0, 0, 0]), (.aload_n 0, 0, []), (.getfield 7, 12, [46, 0, 2, 47, 0]), (.iload_n 3, 0, []), (.iconst 4, 0, []), (.iadd, 0, []), (.aload_n 0, 0, []), (.getfield 44, 12, [46, 21, 2, 54, 0]), (.aload_n 0, 0, []), (.getfield 266, 12, [46, 22, 0, 0, 0]), (.iaload, 0, []), (.iastore, 0, []), (.aload_n 0, 0, []), (.getfield 7, 12, [46, 0, 2, 47, 0]), (.sipush 1957, 0, []), (.bipush 6, 0, []), (.aload_n 0, 0, []), (.getfield 44, 12, [46, 21, 2, 54, 0]), (.aload_n 0, 0, []), (.getfield 266, 12, [46, 22, 0, 0, 0]), (.iaload, 0, []), (.imul, 0, []), (.iadd, 0, []), (.iconst 4, 0, []), (.iadd, 0, []), (.iload_n 2, 0, []), (.iastore, 0, []), (.nop, 279, [])]
  | 279 => [(.aload_n 0, 0, []), (.bipush 59, 0, []), (.invokevirtual 247, 207, [2, 1, 46, 2]), (.ireturn, 1, [])]
  | _ => []
abbrev n_m_days : Nat := 231
def b_m_days : Nat → List Item
  | 0 => [(.aload_n 0, 0, []), (.iload_n 1, 0, []), (.sipush 300, 0, []), (.invokevirtual 250, 206, [3, 1, 46, 4]), (.ifCond .ne 9, 17, []), (.aload_n 0, 0, []), (.iconst 1, 0, []), (.invokevirtual 94, 185, [2, 1, 46, 2]), (.ireturn, 0, [])]
  | 17 => [(.aload_n 0, 0, []), (.getfield 7, 12, [46, 0, 2, 47, 0]), (.sipush 1870, 0, []), (.iconst 0, 0, []), (.iastore, 0, []), (.aload_n 0, 0, []), (.iconst 0, 0, []), (.putfield 266, 12, [46, 22, 0, 0, 0]), (.aload_n 0, 0, []), (.iconst 0, 0, []), (.putfield 269, 12, [46, 23, 0, 0, 0]), (.iconst 1, 0, []), (.istore_n 2, 0, []), (.nop, 38, [])]
  | 38 => [(.iload_n 2, 0, []), (.ifCond .eq 18, 57, []), (.aload_n 0, 0, []), (.getfield 139, 12, [46, 12, 0, 0, 0]), (.ifCond .eq 11, 57, []), (.aload_n 0, 0, []), (.invokevirtual 275, 230, [1, 1, 46, 6]), (.istore_n 2, 0, []), (.goto (-16), 38, [])]
  | 57 => [(.aload_n 0, 0, []), (.getfield 164, 12, [46, 18, 0, 0, 0]), (.ifCond .ne 16, 77, []), (.aload_n 0, 0, []), (.getfield 266, 12, [46, 22, 0, 0, 0]), (.ifCond .le 9, 77, []), (.aload_n 0, 0, []), (.iconst 2, 0, []), (.invokevirtual 176, 205, [2, 1, 46, 2]), (.pop, 0, []), (.nop, 77, [])]
  | 77 => [(.aload_n 0, 0, []), (.getfield 164, 12, [46, 18, 0, 0, 0]), (.ifCond .ne 50, 131, []), (.aload_n 0, 0, []), (.getfield 7, 12, [46, 0, 2, 47, 0]), (.bipush 10, 0, []), (.aload_n 0, 0, []), (.getfield 7, 12, [46, 0, 2, 47, 0]), (.sipush 1870, 0, []), (.iaload, 0, []), (.iastore, 0, []), (.bipush 97, 0, []), (.istore_n 3, 0, []), (.nop, 102, [])]
  | 102 => [(.iload_n 3, 0, []), (.sipush 457, 0, []), (.if_icmp .ge 25, 131, []), (.aload_n 0, 0, []), (.getfield 7, 12, [46, 0, 2, 47, 0]), (.iload_n 3, 0, []), (.aload_n 0, 0, []), (.getfield 7, 12, [46, 0, 2, 47, 0]), (.sipush 1860, 0, []), (.iload_n 3, 0, []), (.iadd, 0, []), (.iaload, 0, []), (.iastore, 0, []), (.iinc 3 1, 0, []), (.goto (-26), 102, [])]
  | 131 => [(.aload_n 0, 0, []), (.aload_n 0, 0, []), (.getfield 269, 12, [46, 23, 0, 0, 0]), (.invokevirtual 257, 214, [2, 1, 46, 2]), (.ireturn, 0, [])]
  | _ => []
abbrev n_m_topicRow : Nat := 232
def b_m_topicRow : Nat → List Item
  | 0 => [(.bipush 12, 0, []), (.iconst 2, 0, []), (.iload_n 0, 0, []), (.imul, 0, []), (.iadd, 0, []), (.ireturn, 0, [])]
  | _ => []
abbrev n_m_monkRow : Nat := 233
def b_m_monkRow : Nat → List Item
  | 0 => [(.bipush 24, 0, []), (.bipush 7, 0, []), (.iload_n 0, 0, []), (.imul, 0, []), (.iadd, 0, []), (.ireturn, 0, [])]
  | _ => []
abbrev n_m_entryRow : Nat := 234
def b_m_entryRow : Nat → List Item
  | 0 => [(.bipush 73, 0, []), (.iconst 2, 0, []), (.iload_n 0, 0, []), (.imul, 0, []), (.iadd, 0, []), (.ireturn, 0, [])]
  | _ => []
abbrev n_m_isTopic : Nat := 235
def b_m_isTopic : Nat → List Item
  | 0 => [(.lload_n 1, 0, []), (.lconst 0, 0, []), (.lcmp, 0, []), (.ifCond .lt 19, 22, []), (.lload_n 1, 0, []), (.aload_n 0, 0, []), (.getfield 7, 12, [46, 0, 2, 47, 0]), (.iconst 0, 0, []), (.iaload, 0, []), (.i2l, 0, []), (.lcmp, 0, []), (.ifCond .ge 7, 22, []), (.iconst 1, 0, []), (.goto 4, 23, [])]
  | 22 => [(.iconst 0, 0, []), (.nop, 23, [])]
  | 23 => [(.ireturn, 1, [])]
  | _ => []
abbrev n_m_isMonk : Nat := 236
def b_m_isMonk : Nat → List Item
  | 0 => [(.iload_n 1, 0, []), (.ifCond .lt 17, 18, []), (.iload_n 1, 0, []), (.aload_n 0, 0, []), (.getfield 7, 12, [46, 0, 2, 47, 0]), (.iconst 1, 0, []), (.iaload, 0, []), (.if_icmp .ge 7, 18, []), (.iconst 1, 0, []), (.goto 4, 19, [])]
  | 18 => [(.iconst 0, 0, []), (.nop, 19, [])]
  | 19 => [(.ireturn, 1, [])]
  | _ => []
abbrev n_m_isEntry : Nat := 237
def b_m_isEntry : Nat → List Item
  | 0 => [(.iload_n 1, 0, []), (.ifCond .lt 17, 18, []), (.iload_n 1, 0, []), (.aload_n 0, 0, []), (.getfield 7, 12, [46, 0, 2, 47, 0]), (.iconst 2, 0, []), (.iaload, 0, []), (.if_icmp .ge 7, 18, []), (.iconst 1, 0, []), (.goto 4, 19, [])]
  | 18 => [(.iconst 0, 0, []), (.nop, 19, [])]
  | 19 => [(.ireturn, 1, [])]
  | _ => []
abbrev n_m_areMonks : Nat := 238
def b_m_areMonks : Nat → List Item
  | 0 => [(.iload_n 1, 0, []), (.i2l, 0, []), (.lconst 0, 0, []), (.lconst 1, 0, []), (.aload_n 0, 0, []), (.getfield 7, 12, [46, 0, 2, 47, 0]), (.iconst 1, 0, []), (.iaload, 0, []), (.lshl, 0, []), (.lconst 1, 0, []), (.lsub, 0, []), (.invokestatic 278, 196, [3, 1, 0, 6]), (.ireturn, 1, [])]
  | _ => []
abbrev n_m_isIn : Nat := 239
def b_m_isIn : Nat → List Item
  | 0 => [(.iload_n 1, 0, []), (.iload_n 2, 0, []), (.ishr, 0, []), (.iconst 1, 0, []), (.iand, 0, []), (.iconst 1, 0, []), (.if_icmp .ne 7, 13, []), (.iconst 1, 0, []), (.goto 4, 14, [])]
  | 13 => [(.iconst 0, 0, []), (.nop, 14, [])]
  | 14 => [(.ireturn, 1, [])]
  | _ => []
abbrev n_m_bits : Nat := 240
def b_m_bits : Nat → List Item
  | 0 => [(.iconst 0, 0, []), (.istore_n 1, 0, []), (.iload_n 0, 0, []), (.istore_n 2, 0, []), (.nop, 4, [])]
  | 4 => [(.iload_n 2, 0, []), (.ifCond .eq 15, 20, []), (.iinc 1 1, 0, []), (.iload_n 2, 0, []), (.iload_n 2, 0, []), (.iconst 1, 0, []), (.isub, 0, []), (.iand, 0, []), (.istore_n 2, 0, []), (.goto (-13), 4, [])]
  | 20 => [(.iload_n 1, 0, []), (.ireturn, 0, [])]
  | _ => []
abbrev n_m_monkOf : Nat := 241
def b_m_monkOf : Nat → List Item
  | 0 => [(.aload_n 0, 0, []), (.getfield 7, 12, [46, 0, 2, 47, 0]), (.iload_n 1, 0, []), (.invokestatic 213, 233, [1, 1, 0, 1]), (.iload_n 2, 0, []), (.iadd, 0, []), (.iaload, 0, []), (.ireturn, 0, [])]
  | _ => []
abbrev n_m_costOf : Nat := 242
def b_m_costOf : Nat → List Item
  | 0 => [(.aload_n 0, 0, []), (.getfield 7, 12, [46, 0, 2, 47, 0]), (.iload_n 1, 0, []), (.invokestatic 200, 232, [1, 1, 0, 1]), (.iaload, 0, []), (.ireturn, 0, [])]
  | _ => []
abbrev n_m_nextOf : Nat := 243
def b_m_nextOf : Nat → List Item
  | 0 => [(.aload_n 0, 0, []), (.getfield 7, 12, [46, 0, 2, 47, 0]), (.iload_n 1, 0, []), (.invokestatic 200, 232, [1, 1, 0, 1]), (.iconst 1, 0, []), (.iadd, 0, []), (.iaload, 0, []), (.ireturn, 0, [])]
  | _ => []
abbrev n_m_awake : Nat := 244
def b_m_awake : Nat → List Item
  | 0 => [(.iconst 0, 0, []), (.istore_n 1, 0, []), (.iconst 0, 0, []), (.istore_n 2, 0, []), (.nop, 4, [])]
  | 4 => [(.iload_n 2, 0, []), (.aload_n 0, 0, []), (.getfield 7, 12, [46, 0, 2, 47, 0]), (.iconst 1, 0, []), (.iaload, 0, []), (.if_icmp .ge 29, 40, []), (.iload_n 1, 0, []), (.aload_n 0, 0, []), (.iload_n 2, 0, []), (.iconst 3, 0, []), (.invokevirtual 282, 241, [3, 1, 46, 3]), (.iconst 1, 0, []), (.if_icmp .ne 9, 31, []), (.iconst 1, 0, []), (.iload_n 2, 0, []), (.ishl, 0, []), (.goto 4, 32, [])]
  | 31 => [(.iconst 0, 0, []), (.nop, 32, [])]
  | 32 => [(.ior, 0, []), (.istore_n 1, 0, []), (.iinc 2 1, 0, []), (.goto (-33), 4, [])]
  | 40 => [(.iload_n 1, 0, []), (.ireturn, 0, [])]
  | _ => []
abbrev n_m_aheadOf : Nat := 245
def b_m_aheadOf : Nat → List Item
  | 0 => [(.iconst 0, 0, []), (.istore_n 2, 0, []), (.iconst 0, 0, []), (.istore_n 3, 0, []), (.nop, 4, [])]
  | 4 => [(.iload_n 3, 0, []), (.aload_n 0, 0, []), (.getfield 7, 12, [46, 0, 2, 47, 0]), (.iconst 0, 0, []), (.iaload, 0, []), (.if_icmp .ge 32, 43, []), (.iload_n 2, 0, []), (.aload_n 0, 0, []), (.aload_n 0, 0, []), (.iload_n 3, 0, []), (.invokevirtual 285, 243, [2, 1, 46, 2]), (.iload_n 1, 0, []), (.invokevirtual 288, 239, [3, 1, 46, 3]), (.ifCond .eq 9, 34, []), (.iconst 1, 0, []), (.iload_n 3, 0, []), (.ishl, 0, []), (.goto 4, 35, [])]
  | 34 => [(.iconst 0, 0, []), (.nop, 35, [])]
  | 35 => [(.ior, 0, []), (.istore_n 2, 0, []), (.iinc 3 1, 0, []), (.goto (-36), 4, [])]
  | 43 => [(.iload_n 2, 0, []), (.ireturn, 0, [])]
  | _ => []
abbrev n_m_told : Nat := 246
def b_m_told : Nat → List Item
  | 0 => [(.iload_n 1, 0, []), (.ifCond .lt 9, 10, []), (.iload_n 1, 0, []), (.bipush 8, 0, []), (.if_icmp .le 9, 16, []), (.nop, 10, [])]
  | 10 => [(.aload_n 0, 0, []), (.iconst 1, 0, []), (.invokevirtual 94, 185, [2, 1, 46, 2]), (.ireturn, 0, [])]
  | 16 => [(.aload_n 0, 0, []), (.iload_n 1, 0, []), (.bipush 8, 0, []), (.if_icmp .ne 10, 30, []), (.aload_n 0, 0, []), (.invokevirtual 291, 244, [1, 1, 46, 3]), (.goto 9, 36, [])]
  | 30 => [(.aload_n 0, 0, []), (.getfield 7, 12, [46, 0, 2, 47, 0]), (.iload_n 1, 0, []), (.iaload, 0, []), (.nop, 36, [])]
  | 36 => [(.invokevirtual 98, 186, [2, 1, 46, 2]), (.ireturn, 0, [])]
  | _ => []
abbrev n_m_topic : Nat := 247
def b_m_topic : Nat → List Item
  | 0 => [(.aload_n 0, 0, []), (.iload_n 1, 0, []), (.i2l, 0, []), (.invokevirtual 294, 235, [2, 1, 46, 3]), (.ifCond .eq 12, 18, []), (.iload_n 2, 0, []), (.ifCond .lt 8, 18, []), (.iload_n 2, 0, []), (.iconst 2, 0, []), (.if_icmp .le 9, 24, []), (.nop, 18, [])]
  | 18 => [(.aload_n 0, 0, []), (.iconst 1, 0, []), (.invokevirtual 94, 185, [2, 1, 46, 2]), (.ireturn, 0, [])]
  | 24 => [(.aload_n 0, 0, []), (.iload_n 2, 0, []), (.iconst 2, 0, []), (.if_icmp .ne 11, 38, []), (.aload_n 0, 0, []), (.iload_n 1, 0, []), (.invokevirtual 298, 245, [2, 1, 46, 4]), (.goto 14, 49, [])]
  | 38 => [(.aload_n 0, 0, []), (.getfield 7, 12, [46, 0, 2, 47, 0]), (.iload_n 1, 0, []), (.invokestatic 200, 232, [1, 1, 0, 1]), (.iload_n 2, 0, []), (.iadd, 0, []), (.iaload, 0, []), (.nop, 49, [])]
  | 49 => [(.invokevirtual 98, 186, [2, 1, 46, 2]), (.ireturn, 0, [])]
  | _ => []
abbrev n_m_monk : Nat := 248
def b_m_monk : Nat → List Item
  | 0 => [(.aload_n 0, 0, []), (.iload_n 1, 0, []), (.invokevirtual 301, 236, [2, 1, 46, 2]), (.ifCond .eq 13, 18, []), (.iload_n 2, 0, []), (.ifCond .lt 9, 18, []), (.iload_n 2, 0, []), (.bipush 6, 0, []), (.if_icmp .le 9, 24, []), (.nop, 18, [])]
  | 18 => [(.aload_n 0, 0, []), (.iconst 1, 0, []), (.invokevirtual 94, 185, [2, 1, 46, 2]), (.ireturn, 0, [])]
  | 24 => [(.aload_n 0, 0, []), (.aload_n 0, 0, []), (.iload_n 1, 0, []), (.iload_n 2, 0, []), (.invokevirtual 282, 241, [3, 1, 46, 3]), (.invokevirtual 98, 186, [2, 1, 46, 2]), (.ireturn, 0, [])]
  | _ => []
abbrev n_m_entry : Nat := 249
def b_m_entry : Nat → List Item
  | 0 => [(.aload_n 0, 0, []), (.iload_n 1, 0, []), (.invokevirtual 304, 237, [2, 1, 46, 2]), (.ifCond .eq 12, 17, []), (.iload_n 2, 0, []), (.ifCond .lt 8, 17, []), (.iload_n 2, 0, []), (.iconst 1, 0, []), (.if_icmp .le 9, 23, []), (.nop, 17, [])]
  | 17 => [(.aload_n 0, 0, []), (.iconst 1, 0, []), (.invokevirtual 94, 185, [2, 1, 46, 2]), (.ireturn, 0, [])]
  | 23 => [(.aload_n 0, 0, []), (.aload_n 0, 0, []), (.getfield 7, 12, [46, 0, 2, 47, 0]), (.iload_n 1, 0, []), (.invokestatic 222, 234, [1, 1, 0, 1]), (.iload_n 2, 0, []), (.iadd, 0, []), (.iaload, 0, []), (.invokevirtual 98, 186, [2, 1, 46, 2]), (.ireturn, 0, [])]
  | _ => []
abbrev n_m_silent : Nat := 250
def b_m_silent : Nat → List Item
  | 0 => [(.aload_n 0, 0, []), (.getfield 7, 12, [46, 0, 2, 47, 0]), (.iconst 1, 0, []), (.iaload, 0, []), (.ifCond .ne 12, 18, []), (.aload_n 0, 0, []), (.bipush 6, 0, []), (.invokevirtual 94, 185, [2, 1, 46, 2]), (.goto 14, 29, [])]
  | 18 => [(.aload_n 0, 0, []), (.aload_n 0, 0, []), (.getfield 7, 12, [46, 0, 2, 47, 0]), (.bipush 8, 0, []), (.iaload, 0, []), (.invokevirtual 98, 186, [2, 1, 46, 2]), (.nop, 29, [])]
  | 29 => [(.ireturn, 0, [])]
  | _ => []
abbrev n_m_last : Nat := 251
def b_m_last : Nat → List Item
  | 0 => [(.aload_n 0, 0, []), (.aload_n 0, 0, []), (.getfield 7, 12, [46, 0, 2, 47, 0]), (.bipush 9, 0, []), (.iaload, 0, []), (.invokevirtual 307, 187, [2, 1, 46, 2]), (.ireturn, 0, [])]
  | _ => []
abbrev n_m_doesFollow : Nat := 252
def b_m_doesFollow : Nat → List Item
  | 0 => [(.aload_n 0, 0, []), (.getfield 7, 12, [46, 0, 2, 47, 0]), (.bipush 9, 0, []), (.iaload, 0, []), (.iconst (-1), 0, []), (.if_icmp .eq 22, 30, []), (.aload_n 0, 0, []), (.aload_n 0, 0, []), (.aload_n 0, 0, []), (.getfield 7, 12, [46, 0, 2, 47, 0]), (.bipush 9, 0, []), (.iaload, 0, []), (.invokevirtual 285, 243, [2, 1, 46, 2]), (.iload_n 1, 0, []), (.invokevirtual 288, 239, [3, 1, 46, 3]), (.ifCond .eq 7, 34, []), (.nop, 30, [])]
  | 30 => [(.iconst 1, 0, []), (.goto 4, 35, [])]
  | 34 => [(.iconst 0, 0, []), (.nop, 35, [])]
  | 35 => [(.ireturn, 1, [])]
  | _ => []
abbrev n_m_canSay : Nat := 253
def b_m_canSay : Nat → List Item
  | 0 => [(.aload_n 0, 0, []), (.iload_n 1, 0, []), (.iconst 3, 0, []), (.invokevirtual 282, 241, [3, 1, 46, 3]), (.iconst 1, 0, []), (.if_icmp .ne 40, 47, []), (.iload_n 1, 0, []), (.aload_n 0, 0, []), (.getfield 7, 12, [46, 0, 2, 47, 0]), (.bipush 8, 0, []), (.iaload, 0, []), (.if_icmp .eq 29, 47, []), (.aload_n 0, 0, []), (.iload_n 1, 0, []), (.iconst 0, 0, []), (.invokevirtual 282, 241, [3, 1, 46, 3]), (.aload_n 0, 0, []), (.iload_n 2, 0, []), (.invokevirtual 310, 242, [2, 1, 46, 2]), (.if_icmp .lt 15, 47, []), (.aload_n 0, 0, []), (.iload_n 2, 0, []), (.invokevirtual 313, 252, [2, 1, 46, 2]), (.ifCond .eq 7, 47, []), (.iconst 1, 0, []), (.goto 4, 48, [])]
  | 47 => [(.iconst 0, 0, []), (.nop, 48, [])]
  | 48 => [(.ireturn, 1, [])]
  | _ => []
abbrev n_m_topicsOf : Nat := 254
def b_m_topicsOf : Nat → List Item
  | 0 => [(.iconst 0, 0, []), (.istore_n 2, 0, []), (.iconst 0, 0, []), (.istore_n 3, 0, []), (.nop, 4, [])]
  | 4 => [(.iload_n 3, 0, []), (.aload_n 0, 0, []), (.getfield 7, 12, [46, 0, 2, 47, 0]), (.iconst 0, 0, []), (.iaload, 0, []), (.if_icmp .ge 28, 39, []), (.iload_n 2, 0, []), (.aload_n 0, 0, []), (.iload_n 1, 0, []), (.iload_n 3, 0, []), (.invokevirtual 316, 253, [3, 1, 46, 3]), (.ifCond .eq 9, 30, []), (.iconst 1, 0, []), (.iload_n 3, 0, []), (.ishl, 0, []), (.goto 4, 31, [])]
  | 30 => [(.iconst 0, 0, []), (.nop, 31, [])]
  | 31 => [(.ior, 0, []), (.istore_n 2, 0, []), (.iinc 3 1, 0, []), (.goto (-32), 4, [])]
  | 39 => [(.iload_n 2, 0, []), (.ireturn, 0, [])]
  | _ => []
abbrev n_m_can : Nat := 255
def b_m_can : Nat → List Item
  | 0 => [(.aload_n 0, 0, []), (.iload_n 1, 0, []), (.invokevirtual 301, 236, [2, 1, 46, 2]), (.ifCond .eq 33, 38, []), (.aload_n 0, 0, []), (.iload_n 2, 0, []), (.i2l, 0, []), (.invokevirtual 294, 235, [2, 1, 46, 3]), (.ifCond .eq 24, 38, []), (.aload_n 0, 0, []), (.aload_n 0, 0, []), (.iload_n 1, 0, []), (.iload_n 2, 0, []), (.invokevirtual 316, 253, [3, 1, 46, 3]), (.ifCond .eq 7, 31, []), (.iconst 1, 0, []), (.goto 4, 32, [])]
  | 31 => [(.iconst 0, 0, []), (.nop, 32, [])]
  | 32 => [(.invokevirtual 98, 186, [2, 1, 46, 2]), (.goto 8, 43, [])]
  | 38 => [(.aload_n 0, 0, []), (.iconst 1, 0, []), (.invokevirtual 94, 185, [2, 1, 46, 2]), (.nop, 43, [])]
  | 43 => [(.ireturn, 0, [])]
  | _ => []
abbrev n_m_topics : Nat := 256
def b_m_topics : Nat → List Item
  | 0 => [(.aload_n 0, 0, []), (.iload_n 1, 0, []), (.invokevirtual 301, 236, [2, 1, 46, 2]), (.ifCond .eq 15, 20, []), (.aload_n 0, 0, []), (.aload_n 0, 0, []), (.iload_n 1, 0, []), (.invokevirtual 319, 254, [2, 1, 46, 4]), (.invokevirtual 98, 186, [2, 1, 46, 2]), (.goto 8, 25, [])]
  | 20 => [(.aload_n 0, 0, []), (.iconst 1, 0, []), (.invokevirtual 94, 185, [2, 1, 46, 2]), (.nop, 25, [])]
  | 25 => [(.ireturn, 0, [])]
  | _ => []
abbrev n_m_speakers : Nat := 257
def b_m_speakers : Nat → List Item
  | 0 => [(.aload_n 0, 0, []), (.iload_n 1, 0, []), (.i2l, 0, []), (.invokevirtual 294, 235, [2, 1, 46, 3]), (.ifCond .ne 9, 15, []), (.aload_n 0, 0, []), (.iconst 1, 0, []), (.invokevirtual 94, 185, [2, 1, 46, 2]), (.ireturn, 0, [])]
  | 15 => [(.iconst 0, 0, []), (.istore_n 2, 0, []), (.iconst 0, 0, []), (.istore_n 3, 0, []), (.nop, 19, [])]
  | 19 => [(.iload_n 3, 0, []), (.aload_n 0, 0, []), (.getfield 7, 12, [46, 0, 2, 47, 0]), (.iconst 1, 0, []), (.iaload, 0, []), (.if_icmp .ge 28, 54, []), (.iload_n 2, 0, []), (.aload_n 0, 0, []), (.iload_n 3, 0, []), (.iload_n 1, 0, []), (.invokevirtual 316, 253, [3, 1, 46, 3]), (.ifCond .eq 9, 45, []), (.iconst 1, 0, []), (.iload_n 3, 0, []), (.ishl, 0, []), (.goto 4, 46, [])]
  | 45 => [(.iconst 0, 0, []), (.nop, 46, [])]
  | 46 => [(.ior, 0, []), (.istore_n 2, 0, []), (.iinc 3 1, 0, []), (.goto (-32), 19, [])]
  | 54 => [(.aload_n 0, 0, []), (.iload_n 2, 0, []), (.invokevirtual 98, 186, [2, 1, 46, 2]), (.ireturn, 0, [])]
  | _ => []
abbrev n_m_laysSpeaker : Nat := 258
def b_m_laysSpeaker : Nat → List Item
  | 0 => [(.aload_n 0, 0, []), (.iconst 0, 0, []), (.putfield 322, 12, [46, 26, 5, 0, 0]), (.aload_n 0, 0, []), (.getfield 7, 12, [46, 0, 2, 47, 0]), (.iconst 2, 0, []), (.iaload, 0, []), (.ifCond .le 58, 69, []), (.aload_n 0, 0, []), (.getfield 7, 12, [46, 0, 2, 47, 0]), (.iconst 5, 0, []), (.iaload, 0, []), (.aload_n 0, 0, []), (.getfield 7, 12, [46, 0, 2, 47, 0]), (.iconst 2, 0, []), (.iaload, 0, []), (.irem, 0, []), (.invokestatic 222, 234, [1, 1, 0, 1]), (.istore_n 1, 0, []), (.aload_n 0, 0, []), (.aload_n 0, 0, []), (.getfield 7, 12, [46, 0, 2, 47, 0]), (.iload_n 1, 0, []), (.iaload, 0, []), (.putfield 326, 12, [46, 24, 0, 0, 0]), (.aload_n 0, 0, []), (.aload_n 0, 0, []), (.getfield 7, 12, [46, 0, 2, 47, 0]), (.iload_n 1, 0, []), (.iconst 1, 0, []), (.iadd, 0, []), (.iaload, 0, []), (.putfield 329, 12, [46, 25, 0, 0, 0]), (.aload_n 0, 0, []), (.aload_n 0, 0, []), (.getfield 326, 12, [46, 24, 0, 0, 0]), (.aload_n 0, 0, []), (.getfield 329, 12, [46, 25, 0, 0, 0]), (.invokevirtual 316, 253, [3, 1, 46, 3]), (.ifCond .eq 4, 69, []), (.return_, 0, [])]
  | 69 => [(.iconst 0, 0, []), (.istore_n 1, 0, []), (.nop, 71, [])]
  | 71 => [(.iload_n 1, 0, []), (.aload_n 0, 0, []), (.getfield 7, 12, [46, 0, 2, 47, 0]), (.iconst 1, 0, []), (.iaload, 0, []), (.if_icmp .ge 55, 133, []), (.iconst 0, 0, []), (.istore_n 2, 0, []), (.nop, 83, [])]
  | 83 => [(.iload_n 2, 0, []), (.aload_n 0, 0, []), (.getfield 7, 12, [46, 0, 2, 47, 0]), (.iconst 0, 0, []), (.iaload, 0, []), (.if_icmp .ge 37, 127, []), (.aload_n 0, 0, []), (.iload_n 1, 0, []), (.iload_n 2, 0, []), (.invokevirtual 316, 253, [3, 1, 46, 3]), (.ifCond .ne 6, 105, []), (.goto 19, 121, [])]
  | 105 => [(.aload_n 0, 0, []), (.iload_n 1, 0, []), (.putfield 326, 12, [46, 24, 0, 0, 0]), (.aload_n 0, 0, []), (.iload_n 2, 0, []), (.putfield 329, 12, [46, 25, 0, 0, 0]), (.aload_n 0, 0, []), (.iconst 1, 0, []), (.putfield 322, 12, [46, 26, 5, 0, 0]), (.return_, 0, [])]
  | 121 => [(.iinc 2 1, 0, []), (.goto (-41), 83, [])]
  | 127 => [(.iinc 1 1, 0, []), (.goto (-59), 71, [])]
  | 133 => [(.aload_n 0, 0, []), (.iconst (-1), 0, []), (.putfield 326, 12, [46, 24, 0, 0, 0]), (.aload_n 0, 0, []), (.iconst (-1), 0, []), (.putfield 329, 12, [46, 25, 0, 0, 0]), (.return_, 0, [])]
  | _ => []
abbrev n_m_speaker : Nat := 259
def b_m_speaker : Nat → List Item
  | 0 => [(.aload_n 0, 0, []), (.invokevirtual 332, 258, [1, 0, 46, 3]), (.aload_n 0, 0, []), (.aload_n 0, 0, []), (.getfield 326, 12, [46, 24, 0, 0, 0]), (.invokevirtual 307, 187, [2, 1, 46, 2]), (.ireturn, 0, [])]
  | _ => []
abbrev n_m_spoken : Nat := 260
def b_m_spoken : Nat → List Item
  | 0 => [(.aload_n 0, 0, []), (.invokevirtual 332, 258, [1, 0, 46, 3]), (.aload_n 0, 0, []), (.aload_n 0, 0, []), (.getfield 329, 12, [46, 25, 0, 0, 0]), (.invokevirtual 307, 187, [2, 1, 46, 2]), (.ireturn, 0, [])]
  | _ => []
abbrev n_m_saysBy : Nat := 261
def b_m_saysBy : Nat → List Item
  | 0 => [(.iconst 0, 0, []), (.istore_n 3, 0, []), (.nop, 2, [])]
  | 2 => [(.iload_n 3, 0, []), (.aload_n 0, 0, []), (.getfield 7, 12, [46, 0, 2, 47, 0]), (.iconst 1, 0, []), (.iaload, 0, []), (.if_icmp .ge 115, 124, []), (.iload_n 3, 0, []), (.invokestatic 213, 233, [1, 1, 0, 1]), (.istore 4, 0, []), (.iload_n 3, 0, []), (.iload_n 1, 0, []), (.if_icmp .ne 34, 54, []), (.aload_n 0, 0, []), (.getfield 7, 12, [46, 0, 2, 47, 0]), (.iload 4, 0, []), (.dup2, 0, []), (.iaload, 0, []), (.aload_n 0, 0, []), (.iload_n 2, 0, []), (.invokevirtual 310, 242, [2, 1, 46, 2]), (.isub, 0, []), (.iastore, 0, []), (.aload_n 0, 0, []), (.getfield 7, 12, [46, 0, 2, 47, 0]), (.iload 4, 0, []), (.iconst 4, 0, []), (.iadd, 0, []), (.dup2, 0, []), (.iaload, 0, []), (.iconst 1, 0, []), (.iadd, 0, []), (.iastore, 0, []), (.goto 39, 90, [])]
  | 54 => [(.aload_n 0, 0, []), (.getfield 7, 12, [46, 0, 2, 47, 0]), (.iload 4, 0, []), (.aload_n 0, 0, []), (.getfield 7, 12, [46, 0, 2, 47, 0]), (.iload 4, 0, []), (.iconst 1, 0, []), (.iadd, 0, []), (.iaload, 0, []), (.aload_n 0, 0, []), (.getfield 7, 12, [46, 0, 2, 47, 0]), (.iload 4, 0, []), (.iaload, 0, []), (.aload_n 0, 0, []), (.getfield 7, 12, [46, 0, 2, 47, 0]), (.iload 4, 0, []), (.iconst 2, 0, []), (.iadd, 0, []), (.iaload, 0, []), (.iadd, 0, []), (.invokestatic 149, 335, [2, 1, 0, 2]), (.iastore, 0, []), (.nop, 90, [])]
  | 90 => [(.aload_n 0, 0, []), (.getfield 7, 12, [46, 0, 2, 47, 0]), (.iload 4, 0, []), (.iconst 5, 0, []), (.iadd, 0, []), (.dup2, 0, []), (.iaload, 0, []), (.iload_n 3, 0, []), (.aload_n 0, 0, []), (.getfield 7, 12, [46, 0, 2, 47, 0]), (.bipush 8, 0, []), (.iaload, 0, []), (.if_icmp .ne 7, 115, []), (.iconst 1, 0, []), (.goto 4, 116, [])]
  | 115 => [(.iconst 0, 0, []), (.nop, 116, [])]
  | 116 => [(.iadd, 0, []), (.iastore, 0, []), (.iinc 3 1, 0, []), (.goto (-119), 2, [])]
  | 124 => [(.aload_n 0, 0, []), (.getfield 7, 12, [46, 0, 2, 47, 0]), (.bipush 9, 0, []), (.iload_n 2, 0, []), (.iastore, 0, []), (.aload_n 0, 0, []), (.getfield 7, 12, [46, 0, 2, 47, 0]), (.iconst 5, 0, []), (.dup2, 0, []), (.iaload, 0, []), (.iconst 1, 0, []), (.iadd, 0, []), (.iastore, 0, []), (.aload_n 0, 0, []), (.getfield 7, 12, [46, 0, 2, 47, 0]), (.iconst 5, 0, []), (.iaload, 0, []), (.aload_n 0, 0, []), (.getfield 7, 12, [46, 0, 2, 47, 0]), (.iconst 3, 0, []), (.iaload, 0, []), (.irem, 0, []), (.ifCond .ne 35, 190, []), (.aload_n 0, 0, []), (.getfield 7, 12, [46, 0, 2, 47, 0]), (.iconst 1, 0, []), (.iaload, 0, []), (.ifCond .le 26, 190, []), (.aload_n 0, 0, []), (.getfield 7, 12, [46, 0, 2, 47, 0]), (.bipush 8, 0, []), (.aload_n 0, 0, []), (.getfield 7, 12, [46, 0, 2, 47, 0]), (.bipush 8, 0, []), (.iaload, 0, []), (.iconst 1, 0, []), (.iadd, 0, []), (.aload_n 0, 0, []), (.getfield 7, 12, [46, 0, 2, 47, 0]), (.iconst 1, 0, []), (.iaload, 0, []), (.irem, 0, []), (.iastore, 0, []), (.nop, 190, [])]
  | 190 => [(.return_, 0, [])]
  | _ => []
abbrev n_m_minuteGoes : Nat := 262
def b_m_minuteGoes : Nat → List Item
  | 0 => [(.aload_n 0, 0, []), (.invokevirtual 332, 258, [1, 0, 46, 3]), (.aload_n 0, 0, []), (.getfield 7, 12, [46, 0, 2, 47, 0]), (.bipush 6, 0, []), (.dup2, 0, []), (.iaload, 0, []), (.aload_n 0, 0, []), (.getfield 326, 12, [46, 24, 0, 0, 0]), (.iconst (-1), 0, []), (.if_icmp .ne 7, 24, []), (.iconst 1, 0, []), (.goto 4, 25, [])]
  | 24 => [(.iconst 0, 0, []), (.nop, 25, [])]
  | 25 => [(.iadd, 0, []), (.iastore, 0, []), (.aload_n 0, 0, []), (.getfield 7, 12, [46, 0, 2, 47, 0]), (.bipush 7, 0, []), (.dup2, 0, []), (.iaload, 0, []), (.aload_n 0, 0, []), (.getfield 322, 12, [46, 26, 5, 0, 0]), (.ifCond .eq 7, 46, []), (.iconst 1, 0, []), (.goto 4, 47, [])]
  | 46 => [(.iconst 0, 0, []), (.nop, 47, [])]
  | 47 => [(.iadd, 0, []), (.iastore, 0, []), (.aload_n 0, 0, []), (.aload_n 0, 0, []), (.getfield 326, 12, [46, 24, 0, 0, 0]), (.aload_n 0, 0, []), (.getfield 329, 12, [46, 25, 0, 0, 0]), (.invokevirtual 335, 261, [3, 0, 46, 5]), (.return_, 0, [])]
  | _ => []
abbrev n_m_minutesGo : Nat := 263
def b_m_minutesGo : Nat → List Item
  | 0 => [(.aload_n 0, 0, []), (.getfield 7, 12, [46, 0, 2, 47, 0]), (.bipush 6, 0, []), (.iaload, 0, []), (.istore_n 2, 0, []), (.iconst 0, 0, []), (.istore_n 3, 0, []), (.nop, 10, [])]
  | 10 => [(.iload_n 3, 0, []), (.iload_n 1, 0, []), (.if_icmp .ge 13, 25, []), (.aload_n 0, 0, []), (.invokevirtual 339, 262, [1, 0, 46, 1]), (.iinc 3 1, 0, []), (.goto (-12), 10, [])]
  | 25 => [(.aload_n 0, 0, []), (.getfield 7, 12, [46, 0, 2, 47, 0]), (.bipush 6, 0, []), (.iaload, 0, []), (.iload_n 2, 0, []), (.isub, 0, []), (.ireturn, 0, [])]
  | _ => []
abbrev n_m_minute : Nat := 264
def b_m_minute : Nat → List Item
  | 0 => [(.iload_n 1, 0, []), (.i2l, 0, []), (.lconst 1, 0, []), (.ldc2_w 342, 99, []), (.invokestatic 278, 196, [3, 1, 0, 6]), (.ifCond .ne 9, 18, []), (.aload_n 0, 0, []), (.iconst 1, 0, []), (.invokevirtual 94, 185, [2, 1, 46, 2]), (.ireturn, 0, [])]
  | 18 => [(.aload_n 0, 0, []), (.getfield 7, 12, [46, 0, 2, 47, 0]), (.iconst 5, 0, []), (.iaload, 0, []), (.iload_n 1, 0, []), (.iadd, 0, []), (.sipush 9999, 0, []), (.if_icmp .le 11, 40, []), (.aload_n 0, 0, []), (.iconst 4, 0, []), (.invokevirtual 94, 185, [2, 1, 46, 2]), (.goto 12, 49, [])]
  | 40 => [(.aload_n 0, 0, []), (.aload_n 0, 0, []), (.iload_n 1, 0, []), (.invokevirtual 344, 263, [2, 1, 46, 4]), (.invokevirtual 98, 186, [2, 1, 46, 2]), (.nop, 49, [])]
  | 49 => [(.ireturn, 0, [])]
  | _ => []
abbrev n_m_changes : Nat := 265
def b_m_changes : Nat → List Item
  | 0 => [(.aload_n 0, 0, []), (.getfield 7, 12, [46, 0, 2, 47, 0]), (.bipush 8, 0, []), (.iaload, 0, []), (.iload_n 1, 0, []), (.if_icmp .eq 7, 15, []), (.iconst 1, 0, []), (.goto 4, 16, [])]
  | 15 => [(.iconst 0, 0, []), (.nop, 16, [])]
  | 16 => [(.istore_n 2, 0, []), (.aload_n 0, 0, []), (.getfield 7, 12, [46, 0, 2, 47, 0]), (.bipush 8, 0, []), (.iload_n 1, 0, []), (.iastore, 0, []), (.iload_n 2, 0, []), (.ireturn, 1, [])]
  | _ => []
abbrev n_m_change : Nat := 266
def b_m_change : Nat → List Item
  | 0 => [(.aload_n 0, 0, []), (.iload_n 1, 0, []), (.invokevirtual 301, 236, [2, 1, 46, 2]), (.ifCond .ne 9, 14, []), (.aload_n 0, 0, []), (.iconst 1, 0, []), (.invokevirtual 94, 185, [2, 1, 46, 2]), (.ireturn, 0, [])]
  | 14 => [(.aload_n 0, 0, []), (.getfield 7, 12, [46, 0, 2, 47, 0]), (.bipush 8, 0, []), (.iaload, 0, []), (.istore_n 2, 0, []), (.aload_n 0, 0, []), (.iload_n 1, 0, []), (.invokevirtual 347, 265, [2, 1, 46, 3]), (.ifCond .eq 11, 38, []), (.aload_n 0, 0, []), (.iload_n 2, 0, []), (.invokevirtual 98, 186, [2, 1, 46, 2]), (.goto 9, 44, [])]
  | 38 => [(.aload_n 0, 0, []), (.bipush 7, 0, []), (.invokevirtual 94, 185, [2, 1, 46, 2]), (.nop, 44, [])]
  | 44 => [(.ireturn, 0, [])]
  | _ => []
abbrev n_m_wakes : Nat := 267
def b_m_wakes : Nat → List Item
  | 0 => [(.aload_n 0, 0, []), (.iload_n 1, 0, []), (.iconst 3, 0, []), (.invokevirtual 282, 241, [3, 1, 46, 3]), (.iload_n 2, 0, []), (.if_icmp .eq 7, 14, []), (.iconst 1, 0, []), (.goto 4, 15, [])]
  | 14 => [(.iconst 0, 0, []), (.nop, 15, [])]
  | 15 => [(.istore_n 3, 0, []), (.aload_n 0, 0, []), (.getfield 7, 12, [46, 0, 2, 47, 0]), (.iload_n 1, 0, []), (.invokestatic 213, 233, [1, 1, 0, 1]), (.iconst 3, 0, []), (.iadd, 0, []), (.iload_n 2, 0, []), (.iastore, 0, []), (.iload_n 3, 0, []), (.ireturn, 1, [])]
  | _ => []
abbrev n_m_wake : Nat := 268
def b_m_wake : Nat → List Item
  | 0 => [(.aload_n 0, 0, []), (.iload_n 1, 0, []), (.invokevirtual 301, 236, [2, 1, 46, 2]), (.ifCond .ne 9, 14, []), (.aload_n 0, 0, []), (.iconst 1, 0, []), (.invokevirtual 101, 184, [2, 1, 46, 2]), (.ireturn, 1, [])]
  | 14 => [(.aload_n 0, 0, []), (.aload_n 0, 0, []), (.iload_n 1, 0, []), (.iload_n 2, 0, []), (.ifCond .eq 7, 25, []), (.iconst 1, 0, []), (.goto 4, 26, [])]
  | 25 => [(.iconst 0, 0, []), (.nop, 26, [])]
  | 26 => [(.invokevirtual 350, 267, [3, 1, 46, 4]), (.ifCond .eq 7, 36, []), (.iconst 0, 0, []), (.goto 5, 38, [])]
  | 36 => [(.bipush 7, 0, []), (.nop, 38, [])]
  | 38 => [(.invokevirtual 101, 184, [2, 1, 46, 2]), (.ireturn, 1, [])]
  | _ => []
abbrev n_m_follow : Nat := 269
def b_m_follow : Nat → List Item
  | 0 => [(.aload_n 0, 0, []), (.iload_n 1, 0, []), (.i2l, 0, []), (.invokevirtual 294, 235, [2, 1, 46, 3]), (.ifCond .eq 12, 18, []), (.aload_n 0, 0, []), (.iload_n 2, 0, []), (.i2l, 0, []), (.invokevirtual 294, 235, [2, 1, 46, 3]), (.ifCond .ne 9, 24, []), (.nop, 18, [])]
  | 18 => [(.aload_n 0, 0, []), (.iconst 1, 0, []), (.invokevirtual 101, 184, [2, 1, 46, 2]), (.ireturn, 1, [])]
  | 24 => [(.aload_n 0, 0, []), (.aload_n 0, 0, []), (.iload_n 1, 0, []), (.invokevirtual 285, 243, [2, 1, 46, 2]), (.iload_n 2, 0, []), (.invokevirtual 288, 239, [3, 1, 46, 3]), (.iload_n 3, 0, []), (.if_icmp .ne 10, 45, []), (.aload_n 0, 0, []), (.bipush 7, 0, []), (.invokevirtual 101, 184, [2, 1, 46, 2]), (.ireturn, 1, [])]
  | 45 => [(.aload_n 0, 0, []), (.getfield 7, 12, [46, 0, 2, 47, 0]), (.iload_n 1, 0, []), (.invokestatic 200, 232, [1, 1, 0, 1]), (.iconst 1, 0, []), (.iadd, 0, []), (.dup2, 0, []), (.iaload, 0, []), (.iconst 1, 0, []), (.iload_n 2, 0, []), (.ishl, 0, []), (.ixor, 0, []), (.iastore, 0, []), (.aload_n 0, 0, []), (.iconst 0, 0, []), (.invokevirtual 101, 184, [2, 1, 46, 2]), (.ireturn, 1, [])]
  | _ => []
abbrev n_m_hear : Nat := 270
def b_m_hear : Nat → List Item
  | 0 => [(.aload_n 0, 0, []), (.iload_n 1, 0, []), (.invokevirtual 301, 236, [2, 1, 46, 2]), (.ifCond .eq 16, 21, []), (.aload_n 0, 0, []), (.iload_n 2, 0, []), (.invokevirtual 301, 236, [2, 1, 46, 2]), (.ifCond .eq 8, 21, []), (.iload_n 1, 0, []), (.iload_n 2, 0, []), (.if_icmp .ne 9, 27, []), (.nop, 21, [])]
  | 21 => [(.aload_n 0, 0, []), (.iconst 1, 0, []), (.invokevirtual 101, 184, [2, 1, 46, 2]), (.ireturn, 1, [])]
  | 27 => [(.aload_n 0, 0, []), (.aload_n 0, 0, []), (.iload_n 1, 0, []), (.bipush 6, 0, []), (.invokevirtual 282, 241, [3, 1, 46, 3]), (.iload_n 2, 0, []), (.invokevirtual 288, 239, [3, 1, 46, 3]), (.iload_n 3, 0, []), (.if_icmp .ne 10, 50, []), (.aload_n 0, 0, []), (.bipush 7, 0, []), (.invokevirtual 101, 184, [2, 1, 46, 2]), (.ireturn, 1, [])]
  | 50 => [(.aload_n 0, 0, []), (.getfield 7, 12, [46, 0, 2, 47, 0]), (.iload_n 1, 0, []), (.invokestatic 213, 233, [1, 1, 0, 1]), (.bipush 6, 0, []), (.iadd, 0, []), (.dup2, 0, []), (.iaload, 0, []), (.iconst 1, 0, []), (.iload_n 2, 0, []), (.ishl, 0, []), (.ixor, 0, []), (.iastore, 0, []), (.aload_n 0, 0, []), (.getfield 7, 12, [46, 0, 2, 47, 0]), (.iload_n 2, 0, []), (.invokestatic 213, 233, [1, 1, 0, 1]), (.bipush 6, 0, []), (.iadd, 0, []), (.dup2, 0, []), (.iaload, 0, []), (.iconst 1, 0, []), (.iload_n 1, 0, []), (.ishl, 0, []), (.ixor, 0, []), (.iastore, 0, []), (.aload_n 0, 0, []), (.iconst 0, 0, []), (.invokevirtual 101, 184, [2, 1, 46, 2]), (.ireturn, 1, [])]
  | _ => []
abbrev n_m_enter : Nat := 271
def b_m_enter : Nat → List Item
  | 0 => [(.aload_n 0, 0, []), (.iload_n 1, 0, []), (.invokevirtual 301, 236, [2, 1, 46, 2]), (.ifCond .eq 12, 17, []), (.aload_n 0, 0, []), (.iload_n 2, 0, []), (.i2l, 0, []), (.invokevirtual 294, 235, [2, 1, 46, 3]), (.ifCond .ne 9, 23, []), (.nop, 17, [])]
  | 17 => [(.aload_n 0, 0, []), (.iconst 1, 0, []), (.invokevirtual 94, 185, [2, 1, 46, 2]), (.ireturn, 0, [])]
  | 23 => [(.aload_n 0, 0, []), (.getfield 7, 12, [46, 0, 2, 47, 0]), (.iconst 2, 0, []), (.iaload, 0, []), (.bipush 12, 0, []), (.if_icmp .ne 9, 40, []), (.aload_n 0, 0, []), (.iconst 4, 0, []), (.invokevirtual 94, 185, [2, 1, 46, 2]), (.ireturn, 0, [])]
  | 40 => [(.aload_n 0, 0, []), (.getfield 7, 12, [46, 0, 2, 47, 0]), (.iconst 2, 0, []), (.iaload, 0, []), (.invokestatic 222, 234, [1, 1, 0, 1]), (.istore_n 3, 0, []), (.aload_n 0, 0, []), (.getfield 7, 12, [46, 0, 2, 47, 0]), (.iload_n 3, 0, []), (.iload_n 1, 0, []), (.iastore, 0, []), (.aload_n 0, 0, []), (.getfield 7, 12, [46, 0, 2, 47, 0]), (.iload_n 3, 0, []), (.iconst 1, 0, []), (.iadd, 0, []), (.iload_n 2, 0, []), (.iastore, 0, []), (.aload_n 0, 0, []), (.getfield 7, 12, [46, 0, 2, 47, 0]), (.iconst 2, 0, []), (.dup2, 0, []), (.iaload, 0, []), (.iconst 1, 0, []), (.iadd, 0, []), (.iastore, 0, []), (.aload_n 0, 0, []), (.aload_n 0, 0, []), (.getfield 7, 12, [46, 0, 2, 47, 0]), (.iconst 2, 0, []), (.iaload, 0, []), (.invokevirtual 98, 186, [2, 1, 46, 2]), (.ireturn, 0, [])]
  | _ => []
abbrev n_m_strike : Nat := 272
def b_m_strike : Nat → List Item
  | 0 => [(.aload_n 0, 0, []), (.iload_n 1, 0, []), (.invokevirtual 304, 237, [2, 1, 46, 2]), (.ifCond .ne 9, 14, []), (.aload_n 0, 0, []), (.iconst 1, 0, []), (.invokevirtual 94, 185, [2, 1, 46, 2]), (.ireturn, 0, [])]
  | 14 => [(.aload_n 0, 0, []), (.getfield 7, 12, [46, 0, 2, 47, 0]), (.iconst 2, 0, []), (.dup2, 0, []), (.iaload, 0, []), (.iconst 1, 0, []), (.isub, 0, []), (.iastore, 0, []), (.iload_n 1, 0, []), (.invokestatic 222, 234, [1, 1, 0, 1]), (.istore_n 2, 0, []), (.nop, 29, [])]
  | 29 => [(.iload_n 2, 0, []), (.aload_n 0, 0, []), (.getfield 7, 12, [46, 0, 2, 47, 0]), (.iconst 2, 0, []), (.iaload, 0, []), (.invokestatic 222, 234, [1, 1, 0, 1]), (.if_icmp .ge 23, 62, []), (.aload_n 0, 0, []), (.getfield 7, 12, [46, 0, 2, 47, 0]), (.iload_n 2, 0, []), (.aload_n 0, 0, []), (.getfield 7, 12, [46, 0, 2, 47, 0]), (.iload_n 2, 0, []), (.iconst 2, 0, []), (.iadd, 0, []), (.iaload, 0, []), (.iastore, 0, []), (.iinc 2 1, 0, []), (.goto (-30), 29, [])]
  | 62 => [(.aload_n 0, 0, []), (.aload_n 0, 0, []), (.getfield 7, 12, [46, 0, 2, 47, 0]), (.iconst 2, 0, []), (.iaload, 0, []), (.invokevirtual 98, 186, [2, 1, 46, 2]), (.ireturn, 0, [])]
  | _ => []
abbrev n_m_breathe : Nat := 273
def b_m_breathe : Nat → List Item
  | 0 => [(.aload_n 0, 0, []), (.iload_n 1, 0, []), (.invokevirtual 301, 236, [2, 1, 46, 2]), (.ifCond .eq 19, 24, []), (.iload_n 2, 0, []), (.i2l, 0, []), (.lconst 0, 0, []), (.aload_n 0, 0, []), (.iload_n 1, 0, []), (.iconst 1, 0, []), (.invokevirtual 282, 241, [3, 1, 46, 3]), (.i2l, 0, []), (.invokestatic 278, 196, [3, 1, 0, 6]), (.ifCond .ne 9, 30, []), (.nop, 24, [])]
  | 24 => [(.aload_n 0, 0, []), (.iconst 1, 0, []), (.invokevirtual 101, 184, [2, 1, 46, 2]), (.ireturn, 1, [])]
  | 30 => [(.aload_n 0, 0, []), (.getfield 7, 12, [46, 0, 2, 47, 0]), (.iload_n 1, 0, []), (.invokestatic 213, 233, [1, 1, 0, 1]), (.iload_n 2, 0, []), (.iastore, 0, []), (.aload_n 0, 0, []), (.iconst 0, 0, []), (.invokevirtual 101, 184, [2, 1, 46, 2]), (.ireturn, 1, [])]
  | _ => []
abbrev n_m_price : Nat := 274
def b_m_price : Nat → List Item
  | 0 => [(.aload_n 0, 0, []), (.iload_n 1, 0, []), (.i2l, 0, []), (.invokevirtual 294, 235, [2, 1, 46, 3]), (.ifCond .eq 15, 21, []), (.iload_n 2, 0, []), (.i2l, 0, []), (.lconst 0, 0, []), (.ldc2_w 353, 20, []), (.invokestatic 278, 196, [3, 1, 0, 6]), (.ifCond .ne 9, 27, []), (.nop, 21, [])]
  | 21 => [(.aload_n 0, 0, []), (.iconst 1, 0, []), (.invokevirtual 101, 184, [2, 1, 46, 2]), (.ireturn, 1, [])]
  | 27 => [(.aload_n 0, 0, []), (.getfield 7, 12, [46, 0, 2, 47, 0]), (.iload_n 1, 0, []), (.invokestatic 200, 232, [1, 1, 0, 1]), (.iload_n 2, 0, []), (.iastore, 0, []), (.aload_n 0, 0, []), (.iconst 0, 0, []), (.invokevirtual 101, 184, [2, 1, 46, 2]), (.ireturn, 1, [])]
  | _ => []
abbrev n_m_rule : Nat := 275
def b_m_rule : Nat → List Item
  | 0 => [(.iload_n 1, 0, []), (.iconst 3, 0, []), (.if_icmp .lt 40, 42, []), (.iload_n 1, 0, []), (.iconst 4, 0, []), (.if_icmp .gt 35, 42, []), (.iload_n 2, 0, []), (.i2l, 0, []), (.iload_n 1, 0, []), (.iconst 3, 0, []), (.if_icmp .ne 7, 21, []), (.lconst 1, 0, []), (.goto 4, 22, [])]
  | 21 => [(.lconst 0, 0, []), (.nop, 22, [])]
  | 22 => [(.iload_n 1, 0, []), (.iconst 3, 0, []), (.if_icmp .ne 9, 33, []), (.ldc2_w 342, 99, []), (.goto 6, 36, [])]
  | 33 => [(.ldc2_w 355, 16, []), (.nop, 36, [])]
  | 36 => [(.invokestatic 278, 196, [3, 1, 0, 6]), (.ifCond .ne 9, 48, []), (.nop, 42, [])]
  | 42 => [(.aload_n 0, 0, []), (.iconst 1, 0, []), (.invokevirtual 101, 184, [2, 1, 46, 2]), (.ireturn, 1, [])]
  | 48 => [(.aload_n 0, 0, []), (.getfield 7, 12, [46, 0, 2, 47, 0]), (.iload_n 1, 0, []), (.iload_n 2, 0, []), (.iastore, 0, []), (.aload_n 0, 0, []), (.iconst 0, 0, []), (.invokevirtual 101, 184, [2, 1, 46, 2]), (.ireturn, 1, [])]
  | _ => []
abbrev n_m_keeps : Nat := 276
def b_m_keeps : Nat → List Item
  | 0 => [(.iconst 0, 0, []), (.istore_n 2, 0, []), (.nop, 2, [])]
  | 2 => [(.iload_n 2, 0, []), (.bipush 97, 0, []), (.if_icmp .ge 23, 28, []), (.aload_n 0, 0, []), (.getfield 7, 12, [46, 0, 2, 47, 0]), (.iload_n 1, 0, []), (.iload_n 2, 0, []), (.iadd, 0, []), (.aload_n 0, 0, []), (.getfield 7, 12, [46, 0, 2, 47, 0]), (.iload_n 2, 0, []), (.iaload, 0, []), (.iastore, 0, []), (.iinc 2 1, 0, []), (.goto (-23), 2, [])]
  | 28 => [(.return_, 0, [])]
  | _ => []
abbrev n_m_restores : Nat := 277
def b_m_restores : Nat → List Item
  | 0 => [(.iconst 0, 0, []), (.istore_n 2, 0, []), (.nop, 2, [])]
  | 2 => [(.iload_n 2, 0, []), (.bipush 97, 0, []), (.if_icmp .ge 23, 28, []), (.aload_n 0, 0, []), (.getfield 7, 12, [46, 0, 2, 47, 0]), (.iload_n 2, 0, []), (.aload_n 0, 0, []), (.getfield 7, 12, [46, 0, 2, 47, 0]), (.iload_n 1, 0, []), (.iload_n 2, 0, []), (.iadd, 0, []), (.iaload, 0, []), (.iastore, 0, []), (.iinc 2 1, 0, []), (.goto (-23), 2, [])]
  | 28 => [(.return_, 0, [])]
  | _ => []
abbrev n_m_isSpan : Nat := 278
def b_m_isSpan : Nat → List Item
  | 0 => [(.iload_n 0, 0, []), (.i2l, 0, []), (.lconst 0, 0, []), (.ldc2_w 357, 300, []), (.invokestatic 278, 196, [3, 1, 0, 6]), (.ireturn, 1, [])]
  | _ => []
abbrev n_m_speakerIn : Nat := 279
def b_m_speakerIn : Nat → List Item
  | 0 => [(.iload_n 1, 0, []), (.invokestatic 359, 278, [1, 1, 0, 1]), (.ifCond .ne 9, 13, []), (.aload_n 0, 0, []), (.iconst 1, 0, []), (.invokevirtual 94, 185, [2, 1, 46, 2]), (.ireturn, 0, [])]
  | 13 => [(.aload_n 0, 0, []), (.sipush 2790, 0, []), (.invokevirtual 362, 276, [2, 0, 46, 3]), (.aload_n 0, 0, []), (.iload_n 1, 0, []), (.invokevirtual 344, 263, [2, 1, 46, 4]), (.pop, 0, []), (.aload_n 0, 0, []), (.invokevirtual 332, 258, [1, 0, 46, 3]), (.aload_n 0, 0, []), (.sipush 2790, 0, []), (.invokevirtual 365, 277, [2, 0, 46, 3]), (.aload_n 0, 0, []), (.aload_n 0, 0, []), (.getfield 326, 12, [46, 24, 0, 0, 0]), (.invokevirtual 307, 187, [2, 1, 46, 2]), (.ireturn, 0, [])]
  | _ => []
abbrev n_m_breathIn : Nat := 280
def b_m_breathIn : Nat → List Item
  | 0 => [(.aload_n 0, 0, []), (.iload_n 1, 0, []), (.invokevirtual 301, 236, [2, 1, 46, 2]), (.ifCond .eq 10, 15, []), (.iload_n 2, 0, []), (.invokestatic 359, 278, [1, 1, 0, 1]), (.ifCond .ne 9, 21, []), (.nop, 15, [])]
  | 15 => [(.aload_n 0, 0, []), (.iconst 1, 0, []), (.invokevirtual 94, 185, [2, 1, 46, 2]), (.ireturn, 0, [])]
  | 21 => [(.aload_n 0, 0, []), (.sipush 2790, 0, []), (.invokevirtual 362, 276, [2, 0, 46, 3]), (.aload_n 0, 0, []), (.iload_n 2, 0, []), (.invokevirtual 344, 263, [2, 1, 46, 4]), (.pop, 0, []), (.aload_n 0, 0, []), (.iload_n 1, 0, []), (.iconst 0, 0, []), (.invokevirtual 282, 241, [3, 1, 46, 3]), (.istore_n 3, 0, []), (.aload_n 0, 0, []), (.sipush 2790, 0, []), (.invokevirtual 365, 277, [2, 0, 46, 3]), (.aload_n 0, 0, []), (.iload_n 3, 0, []), (.invokevirtual 98, 186, [2, 1, 46, 2]), (.ireturn, 0, [])]
  | _ => []
abbrev n_m_firstPause : Nat := 281
def b_m_firstPause : Nat → List Item
  | 0 => [(.aload_n 0, 0, []), (.sipush 2790, 0, []), (.invokevirtual 362, 276, [2, 0, 46, 3]), (.iconst (-1), 0, []), (.istore_n 2, 0, []), (.iconst 0, 0, []), (.istore_n 3, 0, []), (.nop, 11, [])]
  | 11 => [(.iload_n 3, 0, []), (.iload_n 1, 0, []), (.if_icmp .ge 24, 37, []), (.iload_n 2, 0, []), (.iconst (-1), 0, []), (.if_icmp .ne 19, 37, []), (.aload_n 0, 0, []), (.iconst 1, 0, []), (.invokevirtual 344, 263, [2, 1, 46, 4]), (.ifCond .le 5, 31, []), (.iload_n 3, 0, []), (.istore_n 2, 0, []), (.nop, 31, [])]
  | 31 => [(.iinc 3 1, 0, []), (.goto (-23), 11, [])]
  | 37 => [(.aload_n 0, 0, []), (.sipush 2790, 0, []), (.invokevirtual 365, 277, [2, 0, 46, 3]), (.iload_n 2, 0, []), (.ireturn, 0, [])]
  | _ => []
abbrev n_m_pauseIn : Nat := 282
def b_m_pauseIn : Nat → List Item
  | 0 => [(.aload_n 0, 0, []), (.aload_n 0, 0, []), (.sipush 301, 0, []), (.invokevirtual 368, 281, [2, 1, 46, 4]), (.invokevirtual 307, 187, [2, 1, 46, 2]), (.ireturn, 0, [])]
  | _ => []
abbrev n_m_pausesIn : Nat := 283
def b_m_pausesIn : Nat → List Item
  | 0 => [(.iload_n 1, 0, []), (.invokestatic 359, 278, [1, 1, 0, 1]), (.ifCond .ne 9, 13, []), (.aload_n 0, 0, []), (.iconst 1, 0, []), (.invokevirtual 94, 185, [2, 1, 46, 2]), (.ireturn, 0, [])]
  | 13 => [(.aload_n 0, 0, []), (.sipush 2790, 0, []), (.invokevirtual 362, 276, [2, 0, 46, 3]), (.aload_n 0, 0, []), (.iload_n 1, 0, []), (.invokevirtual 344, 263, [2, 1, 46, 4]), (.istore_n 2, 0, []), (.aload_n 0, 0, []), (.sipush 2790, 0, []), (.invokevirtual 365, 277, [2, 0, 46, 3]), (.aload_n 0, 0, []), (.iload_n 2, 0, []), (.invokevirtual 98, 186, [2, 1, 46, 2]), (.ireturn, 0, [])]
  | _ => []
abbrev n_m_turnIn : Nat := 284
def b_m_turnIn : Nat → List Item
  | 0 => [(.aload_n 0, 0, []), (.iload_n 1, 0, []), (.invokevirtual 301, 236, [2, 1, 46, 2]), (.ifCond .ne 9, 14, []), (.aload_n 0, 0, []), (.iconst 1, 0, []), (.invokevirtual 94, 185, [2, 1, 46, 2]), (.ireturn, 0, [])]
  | 14 => [(.aload_n 0, 0, []), (.getfield 7, 12, [46, 0, 2, 47, 0]), (.bipush 8, 0, []), (.iaload, 0, []), (.istore_n 2, 0, []), (.iconst 0, 0, []), (.istore_n 3, 0, []), (.nop, 24, [])]
  | 24 => [(.iload_n 2, 0, []), (.iload_n 1, 0, []), (.if_icmp .eq 38, 64, []), (.iinc 3 1, 0, []), (.aload_n 0, 0, []), (.getfield 7, 12, [46, 0, 2, 47, 0]), (.iconst 5, 0, []), (.iaload, 0, []), (.iload_n 3, 0, []), (.iadd, 0, []), (.aload_n 0, 0, []), (.getfield 7, 12, [46, 0, 2, 47, 0]), (.iconst 3, 0, []), (.iaload, 0, []), (.irem, 0, []), (.ifCond .ne (-23), 24, []), (.iload_n 2, 0, []), (.iconst 1, 0, []), (.iadd, 0, []), (.aload_n 0, 0, []), (.getfield 7, 12, [46, 0, 2, 47, 0]), (.iconst 1, 0, []), (.iaload, 0, []), (.irem, 0, []), (.istore_n 2, 0, []), (.goto (-37), 24, [])]
  | 64 => [(.aload_n 0, 0, []), (.iload_n 3, 0, []), (.invokevirtual 98, 186, [2, 1, 46, 2]), (.ireturn, 0, [])]
  | _ => []
abbrev n_m_unfair : Nat := 285
def b_m_unfair : Nat → List Item
  | 0 => [(.iconst 0, 0, []), (.istore_n 1, 0, []), (.aload_n 0, 0, []), (.getfield 7, 12, [46, 0, 2, 47, 0]), (.iconst 1, 0, []), (.iaload, 0, []), (.ifCond .ne 7, 15, []), (.iconst 0, 0, []), (.goto 6, 18, [])]
  | 15 => [(.ldc_w 371, 1000000, []), (.nop, 18, [])]
  | 18 => [(.istore_n 2, 0, []), (.iconst 0, 0, []), (.istore_n 3, 0, []), (.nop, 21, [])]
  | 21 => [(.iload_n 3, 0, []), (.aload_n 0, 0, []), (.getfield 7, 12, [46, 0, 2, 47, 0]), (.iconst 1, 0, []), (.iaload, 0, []), (.if_icmp .ge 31, 59, []), (.iload_n 1, 0, []), (.aload_n 0, 0, []), (.iload_n 3, 0, []), (.iconst 5, 0, []), (.invokevirtual 282, 241, [3, 1, 46, 3]), (.invokestatic 372, 334, [2, 1, 0, 2]), (.istore_n 1, 0, []), (.iload_n 2, 0, []), (.aload_n 0, 0, []), (.iload_n 3, 0, []), (.iconst 5, 0, []), (.invokevirtual 282, 241, [3, 1, 46, 3]), (.invokestatic 149, 335, [2, 1, 0, 2]), (.istore_n 2, 0, []), (.iinc 3 1, 0, []), (.goto (-35), 21, [])]
  | 59 => [(.aload_n 0, 0, []), (.iload_n 1, 0, []), (.iload_n 2, 0, []), (.isub, 0, []), (.invokevirtual 98, 186, [2, 1, 46, 2]), (.ireturn, 0, [])]
  | _ => []
abbrev n_m_areEnough : Nat := 286
def b_m_areEnough : Nat → List Item
  | 0 => [(.aload_n 0, 0, []), (.sipush 2887, 0, []), (.invokevirtual 362, 276, [2, 0, 46, 3]), (.iconst 0, 0, []), (.istore_n 3, 0, []), (.nop, 9, [])]
  | 9 => [(.iload_n 3, 0, []), (.aload_n 0, 0, []), (.getfield 7, 12, [46, 0, 2, 47, 0]), (.iconst 1, 0, []), (.iaload, 0, []), (.if_icmp .ge 34, 50, []), (.aload_n 0, 0, []), (.getfield 7, 12, [46, 0, 2, 47, 0]), (.iload_n 3, 0, []), (.invokestatic 213, 233, [1, 1, 0, 1]), (.iconst 3, 0, []), (.iadd, 0, []), (.aload_n 0, 0, []), (.iload_n 1, 0, []), (.iload_n 3, 0, []), (.invokevirtual 288, 239, [3, 1, 46, 3]), (.ifCond .eq 7, 42, []), (.iconst 1, 0, []), (.goto 4, 43, [])]
  | 42 => [(.iconst 0, 0, []), (.nop, 43, [])]
  | 43 => [(.iastore, 0, []), (.iinc 3 1, 0, []), (.goto (-38), 9, [])]
  | 50 => [(.aload_n 0, 0, []), (.iload_n 2, 0, []), (.invokevirtual 368, 281, [2, 1, 46, 4]), (.iconst (-1), 0, []), (.if_icmp .ne 7, 63, []), (.iconst 1, 0, []), (.goto 4, 64, [])]
  | 63 => [(.iconst 0, 0, []), (.nop, 64, [])]
  | 64 => [(.istore_n 3, 0, []), (.aload_n 0, 0, []), (.sipush 2887, 0, []), (.invokevirtual 365, 277, [2, 0, 46, 3]), (.iload_n 3, 0, []), (.ireturn, 1, [])]
  | _ => []
abbrev n_m_isShort : Nat := 287
def b_m_isShort : Nat → List Item
  | 0 => [(.iload_n 0, 0, []), (.i2l, 0, []), (.lconst 0, 0, []), (.ldc2_w 375, 60, []), (.invokestatic 278, 196, [3, 1, 0, 6]), (.ireturn, 1, [])]
  | _ => []
abbrev n_m_enough : Nat := 288
def b_m_enough : Nat → List Item
  | 0 => [(.aload_n 0, 0, []), (.iload_n 1, 0, []), (.invokevirtual 377, 238, [2, 1, 46, 2]), (.ifCond .eq 31, 36, []), (.iload_n 2, 0, []), (.invokestatic 380, 287, [1, 1, 0, 1]), (.ifCond .eq 24, 36, []), (.aload_n 0, 0, []), (.aload_n 0, 0, []), (.iload_n 1, 0, []), (.iload_n 2, 0, []), (.invokevirtual 383, 286, [3, 1, 46, 4]), (.ifCond .eq 7, 29, []), (.iconst 1, 0, []), (.goto 4, 30, [])]
  | 29 => [(.iconst 0, 0, []), (.nop, 30, [])]
  | 30 => [(.invokevirtual 98, 186, [2, 1, 46, 2]), (.goto 8, 41, [])]
  | 36 => [(.aload_n 0, 0, []), (.iconst 1, 0, []), (.invokevirtual 94, 185, [2, 1, 46, 2]), (.nop, 41, [])]
  | 41 => [(.ireturn, 0, [])]
  | _ => []
abbrev n_m_fewestOf : Nat := 289
def b_m_fewestOf : Nat → List Item
  | 0 => [(.iconst (-1), 0, []), (.istore_n 2, 0, []), (.iconst 0, 0, []), (.istore_n 3, 0, []), (.nop, 4, [])]
  | 4 => [(.iload_n 3, 0, []), (.iconst 1, 0, []), (.aload_n 0, 0, []), (.getfield 7, 12, [46, 0, 2, 47, 0]), (.iconst 1, 0, []), (.iaload, 0, []), (.ishl, 0, []), (.if_icmp .ge 36, 49, []), (.iload_n 2, 0, []), (.iconst (-1), 0, []), (.if_icmp .eq 14, 32, []), (.iload_n 3, 0, []), (.invokestatic 386, 240, [1, 1, 0, 3]), (.iload_n 2, 0, []), (.invokestatic 386, 240, [1, 1, 0, 3]), (.if_icmp .ge 14, 43, []), (.nop, 32, [])]
  | 32 => [(.aload_n 0, 0, []), (.iload_n 3, 0, []), (.iload_n 1, 0, []), (.invokevirtual 383, 286, [3, 1, 46, 4]), (.ifCond .eq 5, 43, []), (.iload_n 3, 0, []), (.istore_n 2, 0, []), (.nop, 43, [])]
  | 43 => [(.iinc 3 1, 0, []), (.goto (-42), 4, [])]
  | 49 => [(.iload_n 2, 0, []), (.ireturn, 0, [])]
  | _ => []
abbrev n_m_fewest : Nat := 290
def b_m_fewest : Nat → List Item
  | 0 => [(.iload_n 1, 0, []), (.invokestatic 380, 287, [1, 1, 0, 1]), (.ifCond .ne 9, 13, []), (.aload_n 0, 0, []), (.iconst 1, 0, []), (.invokevirtual 94, 185, [2, 1, 46, 2]), (.ireturn, 0, [])]
  | 13 => [(.aload_n 0, 0, []), (.iload_n 1, 0, []), (.invokevirtual 389, 289, [2, 1, 46, 4]), (.istore_n 2, 0, []), (.iload_n 2, 0, []), (.iconst (-1), 0, []), (.if_icmp .ne 12, 33, []), (.aload_n 0, 0, []), (.bipush 6, 0, []), (.invokevirtual 94, 185, [2, 1, 46, 2]), (.goto 11, 41, [])]
  | 33 => [(.aload_n 0, 0, []), (.iload_n 2, 0, []), (.invokestatic 386, 240, [1, 1, 0, 3]), (.invokevirtual 98, 186, [2, 1, 46, 2]), (.nop, 41, [])]
  | 41 => [(.ireturn, 0, [])]
  | _ => []
abbrev n_m_fewestSet : Nat := 291
def b_m_fewestSet : Nat → List Item
  | 0 => [(.iload_n 1, 0, []), (.invokestatic 380, 287, [1, 1, 0, 1]), (.ifCond .eq 15, 19, []), (.aload_n 0, 0, []), (.aload_n 0, 0, []), (.iload_n 1, 0, []), (.invokevirtual 389, 289, [2, 1, 46, 4]), (.invokevirtual 307, 187, [2, 1, 46, 2]), (.goto 8, 24, [])]
  | 19 => [(.aload_n 0, 0, []), (.iconst 1, 0, []), (.invokevirtual 94, 185, [2, 1, 46, 2]), (.nop, 24, [])]
  | 24 => [(.ireturn, 0, [])]
  | _ => []
abbrev n_m_levelAt : Nat := 292
def b_m_levelAt : Nat → List Item
  | 0 => [(.sipush 2790, 0, []), (.bipush 97, 0, []), (.iload_n 0, 0, []), (.imul, 0, []), (.iadd, 0, []), (.ireturn, 0, [])]
  | _ => []
abbrev n_m_leastBreath : Nat := 293
def b_m_leastBreath : Nat → List Item
  | 0 => [(.ldc_w 371, 1000000, []), (.istore_n 1, 0, []), (.iconst 0, 0, []), (.istore_n 2, 0, []), (.nop, 6, [])]
  | 6 => [(.iload_n 2, 0, []), (.aload_n 0, 0, []), (.getfield 7, 12, [46, 0, 2, 47, 0]), (.iconst 1, 0, []), (.iaload, 0, []), (.if_icmp .ge 20, 33, []), (.iload_n 1, 0, []), (.aload_n 0, 0, []), (.iload_n 2, 0, []), (.iconst 0, 0, []), (.invokevirtual 282, 241, [3, 1, 46, 3]), (.invokestatic 149, 335, [2, 1, 0, 2]), (.istore_n 1, 0, []), (.iinc 2 1, 0, []), (.goto (-24), 6, [])]
  | 33 => [(.iload_n 1, 0, []), (.ireturn, 0, [])]
  | _ => []
abbrev n_m_shifting : Nat := 294
def b_m_shifting : Nat → List Item
  | 0 => [(.aload_n 0, 0, []), (.iconst (-1), 0, []), (.putfield 392, 12, [46, 29, 0, 0, 0]), (.iconst 0, 0, []), (.istore_n 2, 0, []), (.aload_n 0, 0, []), (.getfield 47, 12, [46, 27, 2, 55, 0]), (.iconst 0, 0, []), (.iconst (-1), 0, []), (.iastore, 0, []), (.aload_n 0, 0, []), (.iconst 0, 0, []), (.invokestatic 395, 292, [1, 1, 0, 1]), (.invokevirtual 362, 276, [2, 0, 46, 3]), (.nop, 22, [])]
  | 22 => [(.iload_n 2, 0, []), (.ifCond .lt 167, 190, []), (.aload_n 0, 0, []), (.iload_n 2, 0, []), (.invokestatic 395, 292, [1, 1, 0, 1]), (.invokevirtual 365, 277, [2, 0, 46, 3]), (.aload_n 0, 0, []), (.getfield 47, 12, [46, 27, 2, 55, 0]), (.iload_n 2, 0, []), (.dup2, 0, []), (.iaload, 0, []), (.iconst 1, 0, []), (.iadd, 0, []), (.iastore, 0, []), (.aload_n 0, 0, []), (.getfield 47, 12, [46, 27, 2, 55, 0]), (.iload_n 2, 0, []), (.iaload, 0, []), (.bipush 6, 0, []), (.idiv, 0, []), (.istore_n 3, 0, []), (.aload_n 0, 0, []), (.getfield 47, 12, [46, 27, 2, 55, 0]), (.iload_n 2, 0, []), (.iaload, 0, []), (.bipush 6, 0, []), (.irem, 0, []), (.istore 4, 0, []), (.iload_n 3, 0, []), (.aload_n 0, 0, []), (.getfield 7, 12, [46, 0, 2, 47, 0]), (.iconst 1, 0, []), (.iaload, 0, []), (.if_icmp .lt 9, 81, []), (.iinc 2 (-1), 0, []), (.goto (-56), 22, [])]
  | 81 => [(.aload_n 0, 0, []), (.iload 4, 0, []), (.i2l, 0, []), (.invokevirtual 294, 235, [2, 1, 46, 3]), (.ifCond .eq (-66), 22, []), (.aload_n 0, 0, []), (.iload_n 3, 0, []), (.iload 4, 0, []), (.invokevirtual 316, 253, [3, 1, 46, 3]), (.ifCond .ne 6, 104, []), (.goto (-79), 22, [])]
  | 104 => [(.aload_n 0, 0, []), (.iload_n 3, 0, []), (.iload 4, 0, []), (.invokevirtual 335, 261, [3, 0, 46, 5]), (.iload_n 2, 0, []), (.iconst 1, 0, []), (.iadd, 0, []), (.iload_n 1, 0, []), (.if_icmp .ge 24, 139, []), (.iinc 2 1, 0, []), (.aload_n 0, 0, []), (.getfield 47, 12, [46, 27, 2, 55, 0]), (.iload_n 2, 0, []), (.iconst (-1), 0, []), (.iastore, 0, []), (.aload_n 0, 0, []), (.iload_n 2, 0, []), (.invokestatic 395, 292, [1, 1, 0, 1]), (.invokevirtual 362, 276, [2, 0, 46, 3]), (.goto 51, 187, [])]
  | 139 => [(.aload_n 0, 0, []), (.invokevirtual 398, 293, [1, 1, 46, 3]), (.aload_n 0, 0, []), (.getfield 392, 12, [46, 29, 0, 0, 0]), (.if_icmp .le 40, 187, []), (.aload_n 0, 0, []), (.aload_n 0, 0, []), (.invokevirtual 398, 293, [1, 1, 46, 3]), (.putfield 392, 12, [46, 29, 0, 0, 0]), (.iconst 0, 0, []), (.istore 5, 0, []), (.nop, 161, [])]
  | 161 => [(.iload 5, 0, []), (.iload_n 1, 0, []), (.if_icmp .ge 23, 187, []), (.aload_n 0, 0, []), (.getfield 50, 12, [46, 28, 2, 56, 0]), (.iload 5, 0, []), (.aload_n 0, 0, []), (.getfield 47, 12, [46, 27, 2, 55, 0]), (.iload 5, 0, []), (.iaload, 0, []), (.iastore, 0, []), (.iinc 5 1, 0, []), (.goto (-23), 161, [])]
  | 187 => [(.goto (-165), 22, [])]
  | 190 => [(.aload_n 0, 0, []), (.iconst 0, 0, []), (.invokestatic 395, 292, [1, 1, 0, 1]), (.invokevirtual 365, 277, [2, 0, 46, 3]), (.aload_n 0, 0, []), (.getfield 392, 12, [46, 29, 0, 0, 0]), (.ireturn, 0, [])]
  | _ => []
abbrev n_m_shift : Nat := 295
def b_m_shift : Nat → List Item
  | 0 => [(.iload_n 1, 0, []), (.i2l, 0, []), (.lconst 1, 0, []), (.ldc2_w 401, 3, []), (.invokestatic 278, 196, [3, 1, 0, 6]), (.ifCond .eq 15, 24, []), (.aload_n 0, 0, []), (.aload_n 0, 0, []), (.iload_n 1, 0, []), (.invokevirtual 403, 294, [2, 1, 46, 6]), (.invokevirtual 307, 187, [2, 1, 46, 2]), (.goto 8, 29, [])]
  | 24 => [(.aload_n 0, 0, []), (.iconst 1, 0, []), (.invokevirtual 94, 185, [2, 1, 46, 2]), (.nop, 29, [])]
  | 29 => [(.ireturn, 0, [])]
  | _ => []
abbrev n_m_shiftAt : Nat := 296
def b_m_shiftAt : Nat → List Item
  | 0 => [(.iload_n 1, 0, []), (.i2l, 0, []), (.lconst 1, 0, []), (.ldc2_w 401, 3, []), (.invokestatic 278, 196, [3, 1, 0, 6]), (.ifCond .eq 26, 35, []), (.iload_n 2, 0, []), (.i2l, 0, []), (.lconst 0, 0, []), (.iload_n 1, 0, []), (.i2l, 0, []), (.lconst 1, 0, []), (.lsub, 0, []), (.invokestatic 278, 196, [3, 1, 0, 6]), (.ifCond .eq 13, 35, []), (.iload_n 3, 0, []), (.i2l, 0, []), (.lconst 0, 0, []), (.lconst 1, 0, []), (.invokestatic 278, 196, [3, 1, 0, 6]), (.ifCond .ne 9, 41, []), (.nop, 35, [])]
  | 35 => [(.aload_n 0, 0, []), (.iconst 1, 0, []), (.invokevirtual 94, 185, [2, 1, 46, 2]), (.ireturn, 0, [])]
  | 41 => [(.aload_n 0, 0, []), (.iload_n 1, 0, []), (.invokevirtual 403, 294, [2, 1, 46, 6]), (.iconst (-1), 0, []), (.if_icmp .ne 10, 57, []), (.aload_n 0, 0, []), (.bipush 6, 0, []), (.invokevirtual 94, 185, [2, 1, 46, 2]), (.ireturn, 0, [])]
  | 57 => [(.aload_n 0, 0, []), (.iload_n 3, 0, []), (.ifCond .ne 15, 74, []), (.aload_n 0, 0, []), (.getfield 50, 12, [46, 28, 2, 56, 0]), (.iload_n 2, 0, []), (.iaload, 0, []), (.bipush 6, 0, []), (.idiv, 0, []), (.goto 12, 83, [])]
  | 74 => [(.aload_n 0, 0, []), (.getfield 50, 12, [46, 28, 2, 56, 0]), (.iload_n 2, 0, []), (.iaload, 0, []), (.bipush 6, 0, []), (.irem, 0, []), (.nop, 83, [])]
  | 83 => [(.invokevirtual 98, 186, [2, 1, 46, 2]), (.ireturn, 0, [])]
  | _ => []
abbrev n_m_laysTalk : Nat := 297
def b_m_laysTalk : Nat → List Item
  | 0 => [(.iconst 1, 0, []), (.aload_n 0, 0, []), (.getfield 7, 12, [46, 0, 2, 47, 0]), (.iconst 0, 0, []), (.iaload, 0, []), (.ishl, 0, []), (.iconst 1, 0, []), (.isub, 0, []), (.istore_n 1, 0, []), (.nop, 11, [])]
  | 11 => [(.iload_n 1, 0, []), (.ifCond .le 150, 162, []), (.iconst 0, 0, []), (.istore_n 2, 0, []), (.nop, 17, [])]
  | 17 => [(.iload_n 2, 0, []), (.aload_n 0, 0, []), (.getfield 7, 12, [46, 0, 2, 47, 0]), (.iconst 0, 0, []), (.iaload, 0, []), (.if_icmp .ge 132, 156, []), (.bipush 6, 0, []), (.iload_n 1, 0, []), (.imul, 0, []), (.iload_n 2, 0, []), (.iadd, 0, []), (.istore_n 3, 0, []), (.aload_n 0, 0, []), (.getfield 53, 12, [46, 30, 2, 57, 0]), (.iload_n 3, 0, []), (.iconst 0, 0, []), (.iastore, 0, []), (.aload_n 0, 0, []), (.getfield 56, 12, [46, 31, 2, 58, 0]), (.iload_n 3, 0, []), (.iconst 0, 0, []), (.bastore, 0, []), (.iconst 0, 0, []), (.istore 4, 0, []), (.nop, 51, [])]
  | 51 => [(.iload 4, 0, []), (.aload_n 0, 0, []), (.getfield 7, 12, [46, 0, 2, 47, 0]), (.iconst 0, 0, []), (.iaload, 0, []), (.if_icmp .ge 91, 150, []), (.aload_n 0, 0, []), (.aload_n 0, 0, []), (.iload_n 2, 0, []), (.invokevirtual 285, 243, [2, 1, 46, 2]), (.iload 4, 0, []), (.invokevirtual 288, 239, [3, 1, 46, 3]), (.ifCond .eq 71, 144, []), (.aload_n 0, 0, []), (.iload_n 1, 0, []), (.iload 4, 0, []), (.invokevirtual 288, 239, [3, 1, 46, 3]), (.ifCond .eq 6, 89, []), (.goto 58, 144, [])]
  | 89 => [(.bipush 6, 0, []), (.iload_n 1, 0, []), (.iconst 1, 0, []), (.iload 4, 0, []), (.ishl, 0, []), (.ior, 0, []), (.imul, 0, []), (.iload 4, 0, []), (.iadd, 0, []), (.istore 5, 0, []), (.aload_n 0, 0, []), (.getfield 53, 12, [46, 30, 2, 57, 0]), (.iload_n 3, 0, []), (.aload_n 0, 0, []), (.getfield 53, 12, [46, 30, 2, 57, 0]), (.iload_n 3, 0, []), (.iaload, 0, []), (.iconst 1, 0, []), (.aload_n 0, 0, []), (.getfield 53, 12, [46, 30, 2, 57, 0]), (.iload 5, 0, []), (.iaload, 0, []), (.iadd, 0, []), (.invokestatic 372, 334, [2, 1, 0, 2]), (.iastore, 0, []), (.aload_n 0, 0, []), (.getfield 56, 12, [46, 31, 2, 58, 0]), (.iload 5, 0, []), (.baload, 0, []), (.ifCond .ne 10, 144, []), (.aload_n 0, 0, []), (.getfield 56, 12, [46, 31, 2, 58, 0]), (.iload_n 3, 0, []), (.iconst 1, 0, []), (.bastore, 0, []), (.nop, 144, [])]
  | 144 => [(.iinc 4 1, 0, []), (.goto (-96), 51, [])]
  | 150 => [(.iinc 2 1, 0, []), (.goto (-136), 17, [])]
  | 156 => [(.iinc 1 (-1), 0, []), (.goto (-148), 11, [])]
  | 162 => [(.return_, 0, [])]
  | _ => []
abbrev n_m_talkFrom : Nat := 298
def b_m_talkFrom : Nat → List Item
  | 0 => [(.aload_n 0, 0, []), (.invokevirtual 406, 297, [1, 0, 46, 6]), (.iconst 1, 0, []), (.aload_n 0, 0, []), (.getfield 53, 12, [46, 30, 2, 57, 0]), (.bipush 6, 0, []), (.iconst 1, 0, []), (.iload_n 1, 0, []), (.ishl, 0, []), (.imul, 0, []), (.iload_n 1, 0, []), (.iadd, 0, []), (.iaload, 0, []), (.iadd, 0, []), (.ireturn, 0, [])]
  | _ => []
abbrev n_m_talk : Nat := 299
def b_m_talk : Nat → List Item
  | 0 => [(.aload_n 0, 0, []), (.iload_n 1, 0, []), (.i2l, 0, []), (.invokevirtual 294, 235, [2, 1, 46, 3]), (.ifCond .eq 15, 21, []), (.aload_n 0, 0, []), (.aload_n 0, 0, []), (.iload_n 1, 0, []), (.invokevirtual 409, 298, [2, 1, 46, 2]), (.invokevirtual 98, 186, [2, 1, 46, 2]), (.goto 8, 26, [])]
  | 21 => [(.aload_n 0, 0, []), (.iconst 1, 0, []), (.invokevirtual 94, 185, [2, 1, 46, 2]), (.nop, 26, [])]
  | 26 => [(.ireturn, 0, [])]
  | _ => []
abbrev n_m_talkAt : Nat := 300
def b_m_talkAt : Nat → List Item
  | 0 => [(.aload_n 0, 0, []), (.iload_n 1, 0, []), (.i2l, 0, []), (.invokevirtual 294, 235, [2, 1, 46, 3]), (.ifCond .eq 7, 13, []), (.iload_n 2, 0, []), (.ifCond .ge 9, 19, []), (.nop, 13, [])]
  | 13 => [(.aload_n 0, 0, []), (.iconst 1, 0, []), (.invokevirtual 94, 185, [2, 1, 46, 2]), (.ireturn, 0, [])]
  | 19 => [(.iload_n 2, 0, []), (.aload_n 0, 0, []), (.iload_n 1, 0, []), (.invokevirtual 409, 298, [2, 1, 46, 2]), (.if_icmp .lt 10, 35, []), (.aload_n 0, 0, []), (.bipush 6, 0, []), (.invokevirtual 94, 185, [2, 1, 46, 2]), (.ireturn, 0, [])]
  | 35 => [(.iconst 1, 0, []), (.iload_n 1, 0, []), (.ishl, 0, []), (.istore_n 3, 0, []), (.iload_n 1, 0, []), (.istore 4, 0, []), (.iconst 0, 0, []), (.istore 5, 0, []), (.nop, 45, [])]
  | 45 => [(.iload 5, 0, []), (.iload_n 2, 0, []), (.if_icmp .ge 92, 140, []), (.aload_n 0, 0, []), (.getfield 53, 12, [46, 30, 2, 57, 0]), (.bipush 6, 0, []), (.iload_n 3, 0, []), (.imul, 0, []), (.iload 4, 0, []), (.iadd, 0, []), (.iaload, 0, []), (.istore 6, 0, []), (.iconst 0, 0, []), (.istore 7, 0, []), (.nop, 68, [])]
  | 68 => [(.aload_n 0, 0, []), (.aload_n 0, 0, []), (.iload 4, 0, []), (.invokevirtual 285, 243, [2, 1, 46, 2]), (.iload 7, 0, []), (.invokevirtual 288, 239, [3, 1, 46, 3]), (.ifCond .eq 37, 117, []), (.aload_n 0, 0, []), (.iload_n 3, 0, []), (.iload 7, 0, []), (.invokevirtual 288, 239, [3, 1, 46, 3]), (.ifCond .ne 27, 117, []), (.iconst 1, 0, []), (.aload_n 0, 0, []), (.getfield 53, 12, [46, 30, 2, 57, 0]), (.bipush 6, 0, []), (.iload_n 3, 0, []), (.iconst 1, 0, []), (.iload 7, 0, []), (.ishl, 0, []), (.ior, 0, []), (.imul, 0, []), (.iload 7, 0, []), (.iadd, 0, []), (.iaload, 0, []), (.iadd, 0, []), (.iload 6, 0, []), (.if_icmp .eq 9, 123, []), (.nop, 117, [])]
  | 117 => [(.iinc 7 1, 0, []), (.goto (-52), 68, [])]
  | 123 => [(.iload 7, 0, []), (.istore 4, 0, []), (.iload_n 3, 0, []), (.iconst 1, 0, []), (.iload 4, 0, []), (.ishl, 0, []), (.ior, 0, []), (.istore_n 3, 0, []), (.iinc 5 1, 0, []), (.goto (-92), 45, [])]
  | 140 => [(.aload_n 0, 0, []), (.iload 4, 0, []), (.invokevirtual 98, 186, [2, 1, 46, 2]), (.ireturn, 0, [])]
  | _ => []
abbrev n_m_laysFar : Nat := 301
def b_m_laysFar : Nat → List Item
  | 0 => [(.iconst 0, 0, []), (.istore_n 2, 0, []), (.nop, 2, [])]
  | 2 => [(.iload_n 2, 0, []), (.bipush 6, 0, []), (.if_icmp .ge 27, 32, []), (.aload_n 0, 0, []), (.getfield 60, 12, [46, 32, 2, 59, 0]), (.iload_n 2, 0, []), (.iload_n 2, 0, []), (.iload_n 1, 0, []), (.if_icmp .ne 7, 22, []), (.iconst 0, 0, []), (.goto 6, 25, [])]
  | 22 => [(.ldc_w 371, 1000000, []), (.nop, 25, [])]
  | 25 => [(.iastore, 0, []), (.iinc 2 1, 0, []), (.goto (-27), 2, [])]
  | 32 => [(.iconst 0, 0, []), (.istore_n 2, 0, []), (.nop, 34, [])]
  | 34 => [(.iload_n 2, 0, []), (.bipush 6, 0, []), (.if_icmp .ge 49, 86, []), (.iconst 0, 0, []), (.istore_n 3, 0, []), (.nop, 42, [])]
  | 42 => [(.iload_n 3, 0, []), (.aload_n 0, 0, []), (.getfield 7, 12, [46, 0, 2, 47, 0]), (.iconst 0, 0, []), (.iaload, 0, []), (.if_icmp .ge 31, 80, []), (.aload_n 0, 0, []), (.getfield 60, 12, [46, 32, 2, 59, 0]), (.iload_n 3, 0, []), (.aload_n 0, 0, []), (.getfield 60, 12, [46, 32, 2, 59, 0]), (.iload_n 3, 0, []), (.iaload, 0, []), (.iconst 1, 0, []), (.aload_n 0, 0, []), (.iload_n 3, 0, []), (.invokevirtual 412, 302, [2, 1, 46, 4]), (.iadd, 0, []), (.invokestatic 149, 335, [2, 1, 0, 2]), (.iastore, 0, []), (.iinc 3 1, 0, []), (.goto (-35), 42, [])]
  | 80 => [(.iinc 2 1, 0, []), (.goto (-49), 34, [])]
  | 86 => [(.return_, 0, [])]
  | _ => []
abbrev n_m_nearest : Nat := 302
def b_m_nearest : Nat → List Item
  | 0 => [(.ldc_w 371, 1000000, []), (.istore_n 2, 0, []), (.iconst 0, 0, []), (.istore_n 3, 0, []), (.nop, 6, [])]
  | 6 => [(.iload_n 3, 0, []), (.aload_n 0, 0, []), (.getfield 7, 12, [46, 0, 2, 47, 0]), (.iconst 0, 0, []), (.iaload, 0, []), (.if_icmp .ge 33, 46, []), (.aload_n 0, 0, []), (.aload_n 0, 0, []), (.iload_n 1, 0, []), (.invokevirtual 285, 243, [2, 1, 46, 2]), (.iload_n 3, 0, []), (.invokevirtual 288, 239, [3, 1, 46, 3]), (.ifCond .eq 14, 40, []), (.iload_n 2, 0, []), (.aload_n 0, 0, []), (.getfield 60, 12, [46, 32, 2, 59, 0]), (.iload_n 3, 0, []), (.iaload, 0, []), (.invokestatic 149, 335, [2, 1, 0, 2]), (.istore_n 2, 0, []), (.nop, 40, [])]
  | 40 => [(.iinc 3 1, 0, []), (.goto (-37), 6, [])]
  | 46 => [(.iload_n 2, 0, []), (.ireturn, 0, [])]
  | _ => []
abbrev n_m_laysRing : Nat := 303
def b_m_laysRing : Nat → List Item
  | 0 => [(.aload_n 0, 0, []), (.ldc_w 371, 1000000, []), (.putfield 415, 12, [46, 34, 0, 0, 0]), (.iconst 0, 0, []), (.istore_n 1, 0, []), (.nop, 9, [])]
  | 9 => [(.iload_n 1, 0, []), (.aload_n 0, 0, []), (.getfield 7, 12, [46, 0, 2, 47, 0]), (.iconst 0, 0, []), (.iaload, 0, []), (.if_icmp .ge 43, 59, []), (.aload_n 0, 0, []), (.iload_n 1, 0, []), (.invokevirtual 418, 301, [2, 0, 46, 4]), (.iconst 1, 0, []), (.aload_n 0, 0, []), (.iload_n 1, 0, []), (.invokevirtual 412, 302, [2, 1, 46, 4]), (.iadd, 0, []), (.istore_n 2, 0, []), (.iload_n 2, 0, []), (.aload_n 0, 0, []), (.getfield 415, 12, [46, 34, 0, 0, 0]), (.if_icmp .lt 6, 43, []), (.goto 13, 53, [])]
  | 43 => [(.aload_n 0, 0, []), (.iload_n 2, 0, []), (.putfield 415, 12, [46, 34, 0, 0, 0]), (.aload_n 0, 0, []), (.iload_n 1, 0, []), (.putfield 421, 12, [46, 33, 0, 0, 0]), (.nop, 53, [])]
  | 53 => [(.iinc 1 1, 0, []), (.goto (-47), 9, [])]
  | 59 => [(.return_, 0, [])]
  | _ => []
abbrev n_m_ring : Nat := 304
def b_m_ring : Nat → List Item
  | 0 => [(.aload_n 0, 0, []), (.invokevirtual 424, 303, [1, 0, 46, 3]), (.aload_n 0, 0, []), (.getfield 415, 12, [46, 34, 0, 0, 0]), (.ldc_w 371, 1000000, []), (.if_icmp .lt 12, 23, []), (.aload_n 0, 0, []), (.bipush 6, 0, []), (.invokevirtual 94, 185, [2, 1, 46, 2]), (.goto 11, 31, [])]
  | 23 => [(.aload_n 0, 0, []), (.aload_n 0, 0, []), (.getfield 415, 12, [46, 34, 0, 0, 0]), (.invokevirtual 98, 186, [2, 1, 46, 2]), (.nop, 31, [])]
  | 31 => [(.ireturn, 0, [])]
  | _ => []
abbrev n_m_ringAt : Nat := 305
def b_m_ringAt : Nat → List Item
  | 0 => [(.iload_n 1, 0, []), (.ifCond .ge 9, 10, []), (.aload_n 0, 0, []), (.iconst 1, 0, []), (.invokevirtual 94, 185, [2, 1, 46, 2]), (.ireturn, 0, [])]
  | 10 => [(.aload_n 0, 0, []), (.invokevirtual 424, 303, [1, 0, 46, 3]), (.aload_n 0, 0, []), (.getfield 415, 12, [46, 34, 0, 0, 0]), (.ldc_w 371, 1000000, []), (.if_icmp .ge 11, 32, []), (.iload_n 1, 0, []), (.aload_n 0, 0, []), (.getfield 415, 12, [46, 34, 0, 0, 0]), (.if_icmp .lt 10, 39, []), (.nop, 32, [])]
  | 32 => [(.aload_n 0, 0, []), (.bipush 6, 0, []), (.invokevirtual 94, 185, [2, 1, 46, 2]), (.ireturn, 0, [])]
  | 39 => [(.aload_n 0, 0, []), (.aload_n 0, 0, []), (.getfield 421, 12, [46, 33, 0, 0, 0]), (.invokevirtual 418, 301, [2, 0, 46, 4]), (.aload_n 0, 0, []), (.getfield 421, 12, [46, 33, 0, 0, 0]), (.istore_n 2, 0, []), (.iconst 0, 0, []), (.istore_n 3, 0, []), (.nop, 54, [])]
  | 54 => [(.iload_n 3, 0, []), (.iload_n 1, 0, []), (.if_icmp .ge 53, 109, []), (.iconst 0, 0, []), (.istore 4, 0, []), (.nop, 62, [])]
  | 62 => [(.aload_n 0, 0, []), (.aload_n 0, 0, []), (.iload_n 2, 0, []), (.invokevirtual 285, 243, [2, 1, 46, 2]), (.iload 4, 0, []), (.invokevirtual 288, 239, [3, 1, 46, 3]), (.ifCond .eq 21, 94, []), (.aload_n 0, 0, []), (.getfield 60, 12, [46, 32, 2, 59, 0]), (.iload 4, 0, []), (.iaload, 0, []), (.aload_n 0, 0, []), (.getfield 415, 12, [46, 34, 0, 0, 0]), (.iconst 1, 0, []), (.isub, 0, []), (.iload_n 3, 0, []), (.isub, 0, []), (.if_icmp .eq 9, 100, []), (.nop, 94, [])]
  | 94 => [(.iinc 4 1, 0, []), (.goto (-35), 62, [])]
  | 100 => [(.iload 4, 0, []), (.istore_n 2, 0, []), (.iinc 3 1, 0, []), (.goto (-52), 54, [])]
  | 109 => [(.aload_n 0, 0, []), (.iload_n 2, 0, []), (.invokevirtual 98, 186, [2, 1, 46, 2]), (.ireturn, 0, [])]
  | _ => []
abbrev n_m_reach : Nat := 306
def b_m_reach : Nat → List Item
  | 0 => [(.aload_n 0, 0, []), (.iload_n 1, 0, []), (.i2l, 0, []), (.invokevirtual 294, 235, [2, 1, 46, 3]), (.ifCond .ne 9, 15, []), (.aload_n 0, 0, []), (.iconst 1, 0, []), (.invokevirtual 94, 185, [2, 1, 46, 2]), (.ireturn, 0, [])]
  | 15 => [(.aload_n 0, 0, []), (.iload_n 1, 0, []), (.invokevirtual 285, 243, [2, 1, 46, 2]), (.istore_n 2, 0, []), (.iconst 0, 0, []), (.istore_n 3, 0, []), (.nop, 23, [])]
  | 23 => [(.iload_n 3, 0, []), (.bipush 6, 0, []), (.if_icmp .ge 52, 78, []), (.iconst 0, 0, []), (.istore 4, 0, []), (.nop, 32, [])]
  | 32 => [(.iload 4, 0, []), (.aload_n 0, 0, []), (.getfield 7, 12, [46, 0, 2, 47, 0]), (.iconst 0, 0, []), (.iaload, 0, []), (.if_icmp .ge 32, 72, []), (.iload_n 2, 0, []), (.aload_n 0, 0, []), (.iload_n 2, 0, []), (.iload 4, 0, []), (.invokevirtual 288, 239, [3, 1, 46, 3]), (.ifCond .eq 12, 63, []), (.aload_n 0, 0, []), (.iload 4, 0, []), (.invokevirtual 285, 243, [2, 1, 46, 2]), (.goto 4, 64, [])]
  | 63 => [(.iconst 0, 0, []), (.nop, 64, [])]
  | 64 => [(.ior, 0, []), (.istore_n 2, 0, []), (.iinc 4 1, 0, []), (.goto (-37), 32, [])]
  | 72 => [(.iinc 3 1, 0, []), (.goto (-52), 23, [])]
  | 78 => [(.aload_n 0, 0, []), (.iload_n 2, 0, []), (.invokevirtual 98, 186, [2, 1, 46, 2]), (.ireturn, 0, [])]
  | _ => []
abbrev n_m_wins : Nat := 307
def b_m_wins : Nat → List Item
  | 0 => [(.aload_n 0, 0, []), (.iload_n 1, 0, []), (.i2l, 0, []), (.invokevirtual 294, 235, [2, 1, 46, 3]), (.ifCond .ne 9, 15, []), (.aload_n 0, 0, []), (.iconst 1, 0, []), (.invokevirtual 94, 185, [2, 1, 46, 2]), (.ireturn, 0, [])]
  | 15 => [(.aload_n 0, 0, []), (.invokevirtual 406, 297, [1, 0, 46, 6]), (.aload_n 0, 0, []), (.aload_n 0, 0, []), (.getfield 56, 12, [46, 31, 2, 58, 0]), (.bipush 6, 0, []), (.iconst 1, 0, []), (.iload_n 1, 0, []), (.ishl, 0, []), (.imul, 0, []), (.iload_n 1, 0, []), (.iadd, 0, []), (.baload, 0, []), (.ifCond .eq 7, 40, []), (.iconst 1, 0, []), (.goto 4, 41, [])]
  | 40 => [(.iconst 0, 0, []), (.nop, 41, [])]
  | 41 => [(.invokevirtual 98, 186, [2, 1, 46, 2]), (.ireturn, 0, [])]
  | _ => []
abbrev n_m_best : Nat := 308
def b_m_best : Nat → List Item
  | 0 => [(.aload_n 0, 0, []), (.iload_n 1, 0, []), (.i2l, 0, []), (.invokevirtual 294, 235, [2, 1, 46, 3]), (.ifCond .ne 9, 15, []), (.aload_n 0, 0, []), (.iconst 1, 0, []), (.invokevirtual 94, 185, [2, 1, 46, 2]), (.ireturn, 0, [])]
  | 15 => [(.aload_n 0, 0, []), (.invokevirtual 406, 297, [1, 0, 46, 6]), (.iconst 0, 0, []), (.istore_n 2, 0, []), (.nop, 21, [])]
  | 21 => [(.iload_n 2, 0, []), (.aload_n 0, 0, []), (.getfield 7, 12, [46, 0, 2, 47, 0]), (.iconst 0, 0, []), (.iaload, 0, []), (.if_icmp .ge 56, 84, []), (.aload_n 0, 0, []), (.aload_n 0, 0, []), (.iload_n 1, 0, []), (.invokevirtual 285, 243, [2, 1, 46, 2]), (.iload_n 2, 0, []), (.invokevirtual 288, 239, [3, 1, 46, 3]), (.ifCond .eq 37, 78, []), (.iload_n 2, 0, []), (.iload_n 1, 0, []), (.if_icmp .ne 6, 52, []), (.goto 29, 78, [])]
  | 52 => [(.aload_n 0, 0, []), (.getfield 56, 12, [46, 31, 2, 58, 0]), (.bipush 6, 0, []), (.iconst 1, 0, []), (.iload_n 1, 0, []), (.ishl, 0, []), (.iconst 1, 0, []), (.iload_n 2, 0, []), (.ishl, 0, []), (.ior, 0, []), (.imul, 0, []), (.iload_n 2, 0, []), (.iadd, 0, []), (.baload, 0, []), (.ifCond .ne 9, 78, []), (.aload_n 0, 0, []), (.iload_n 2, 0, []), (.invokevirtual 98, 186, [2, 1, 46, 2]), (.ireturn, 0, [])]
  | 78 => [(.iinc 2 1, 0, []), (.goto (-60), 21, [])]
  | 84 => [(.aload_n 0, 0, []), (.bipush 6, 0, []), (.invokevirtual 94, 185, [2, 1, 46, 2]), (.ireturn, 0, [])]
  | _ => []
abbrev n_m_wrongHeard : Nat := 309
def b_m_wrongHeard : Nat → List Item
  | 0 => [(.iload_n 1, 0, []), (.invokestatic 105, 189, [1, 1, 0, 1]), (.ifCond .eq 15, 19, []), (.iload_n 2, 0, []), (.i2l, 0, []), (.lconst 0, 0, []), (.ldc2_w 427, 4, []), (.invokestatic 278, 196, [3, 1, 0, 6]), (.ifCond .ne 5, 21, []), (.nop, 19, [])]
  | 19 => [(.iconst 1, 0, []), (.ireturn, 0, [])]
  | 21 => [(.aload_n 0, 0, []), (.getfield 24, 12, [46, 6, 2, 50, 0]), (.iload_n 1, 0, []), (.iaload, 0, []), (.iconst (-1), 0, []), (.if_icmp .ne 5, 33, []), (.iconst 2, 0, []), (.ireturn, 0, [])]
  | 33 => [(.aload_n 0, 0, []), (.getfield 24, 12, [46, 6, 2, 50, 0]), (.iload_n 1, 0, []), (.iaload, 0, []), (.iload_n 2, 0, []), (.if_icmp .ge 5, 45, []), (.iconst 3, 0, []), (.ireturn, 0, [])]
  | 45 => [(.iconst 0, 0, []), (.istore_n 3, 0, []), (.nop, 47, [])]
  | 47 => [(.iload_n 3, 0, []), (.iload_n 2, 0, []), (.if_icmp .ge 29, 78, []), (.aload_n 0, 0, []), (.aload_n 0, 0, []), (.getfield 27, 12, [46, 7, 2, 51, 0]), (.bipush 60, 0, []), (.iload_n 1, 0, []), (.imul, 0, []), (.iload_n 3, 0, []), (.iadd, 0, []), (.laload, 0, []), (.invokevirtual 294, 235, [2, 1, 46, 3]), (.ifCond .ne 5, 72, []), (.iconst 5, 0, []), (.ireturn, 0, [])]
  | 72 => [(.iinc 3 1, 0, []), (.goto (-28), 47, [])]
  | 78 => [(.iconst 0, 0, []), (.ireturn, 0, [])]
  | _ => []
abbrev n_m_counts : Nat := 310
def b_m_counts : Nat → List Item
  | 0 => [(.iconst 0, 0, []), (.istore_n 2, 0, []), (.nop, 2, [])]
  | 2 => [(.iload_n 2, 0, []), (.iload_n 1, 0, []), (.if_icmp .ge 49, 53, []), (.aload_n 0, 0, []), (.getfield 66, 12, [46, 36, 2, 61, 0]), (.iload_n 2, 0, []), (.aload_n 0, 0, []), (.getfield 429, 12, [46, 37, 0, 0, 0]), (.ifCond .eq 18, 34, []), (.aload_n 0, 0, []), (.getfield 66, 12, [46, 36, 2, 61, 0]), (.iload_n 2, 0, []), (.iaload, 0, []), (.aload_n 0, 0, []), (.getfield 63, 12, [46, 35, 2, 60, 0]), (.iload_n 2, 0, []), (.iaload, 0, []), (.if_icmp .ne 12, 43, []), (.nop, 34, [])]
  | 34 => [(.aload_n 0, 0, []), (.getfield 63, 12, [46, 35, 2, 60, 0]), (.iload_n 2, 0, []), (.iaload, 0, []), (.goto 6, 46, [])]
  | 43 => [(.ldc_w 371, 1000000, []), (.nop, 46, [])]
  | 46 => [(.iastore, 0, []), (.iinc 2 1, 0, []), (.goto (-48), 2, [])]
  | 53 => [(.aload_n 0, 0, []), (.dup, 0, []), (.getfield 429, 12, [46, 37, 0, 0, 0]), (.iconst 1, 0, []), (.iadd, 0, []), (.putfield 429, 12, [46, 37, 0, 0, 0]), (.return_, 0, [])]
  | _ => []
abbrev n_m_laysHeard : Nat := 311
def b_m_laysHeard : Nat → List Item
  | 0 => [(.aload_n 0, 0, []), (.iload_n 2, 0, []), (.ifCond .ne 7, 9, []), (.iconst 1, 0, []), (.goto 4, 10, [])]
  | 9 => [(.iconst 0, 0, []), (.nop, 10, [])]
  | 10 => [(.putfield 429, 12, [46, 37, 0, 0, 0]), (.iload_n 2, 0, []), (.ifCond .ne 4, 18, []), (.return_, 0, [])]
  | 18 => [(.iconst 0, 0, []), (.istore_n 3, 0, []), (.aload_n 0, 0, []), (.getfield 63, 12, [46, 35, 2, 60, 0]), (.iconst 0, 0, []), (.iconst (-1), 0, []), (.iastore, 0, []), (.aload_n 0, 0, []), (.iconst 0, 0, []), (.invokestatic 395, 292, [1, 1, 0, 1]), (.invokevirtual 362, 276, [2, 0, 46, 3]), (.nop, 35, [])]
  | 35 => [(.iload_n 3, 0, []), (.ifCond .lt 122, 158, []), (.aload_n 0, 0, []), (.iload_n 3, 0, []), (.invokestatic 395, 292, [1, 1, 0, 1]), (.invokevirtual 365, 277, [2, 0, 46, 3]), (.aload_n 0, 0, []), (.getfield 63, 12, [46, 35, 2, 60, 0]), (.iload_n 3, 0, []), (.dup2, 0, []), (.iaload, 0, []), (.iconst 1, 0, []), (.iadd, 0, []), (.iastore, 0, []), (.aload_n 0, 0, []), (.getfield 63, 12, [46, 35, 2, 60, 0]), (.iload_n 3, 0, []), (.iaload, 0, []), (.aload_n 0, 0, []), (.getfield 7, 12, [46, 0, 2, 47, 0]), (.iconst 1, 0, []), (.iaload, 0, []), (.if_icmp .ne 9, 78, []), (.iinc 3 (-1), 0, []), (.goto (-40), 35, [])]
  | 78 => [(.aload_n 0, 0, []), (.getfield 27, 12, [46, 7, 2, 51, 0]), (.bipush 60, 0, []), (.iload_n 1, 0, []), (.imul, 0, []), (.iload_n 3, 0, []), (.iadd, 0, []), (.laload, 0, []), (.l2i, 0, []), (.istore 4, 0, []), (.aload_n 0, 0, []), (.aload_n 0, 0, []), (.getfield 63, 12, [46, 35, 2, 60, 0]), (.iload_n 3, 0, []), (.iaload, 0, []), (.iload 4, 0, []), (.invokevirtual 316, 253, [3, 1, 46, 3]), (.ifCond .ne 6, 110, []), (.goto (-72), 35, [])]
  | 110 => [(.aload_n 0, 0, []), (.aload_n 0, 0, []), (.getfield 63, 12, [46, 35, 2, 60, 0]), (.iload_n 3, 0, []), (.iaload, 0, []), (.iload 4, 0, []), (.invokevirtual 335, 261, [3, 0, 46, 5]), (.iload_n 3, 0, []), (.iconst 1, 0, []), (.iadd, 0, []), (.iload_n 2, 0, []), (.if_icmp .ge 24, 150, []), (.iinc 3 1, 0, []), (.aload_n 0, 0, []), (.getfield 63, 12, [46, 35, 2, 60, 0]), (.iload_n 3, 0, []), (.iconst (-1), 0, []), (.iastore, 0, []), (.aload_n 0, 0, []), (.iload_n 3, 0, []), (.invokestatic 395, 292, [1, 1, 0, 1]), (.invokevirtual 362, 276, [2, 0, 46, 3]), (.goto 8, 155, [])]
  | 150 => [(.aload_n 0, 0, []), (.iload_n 2, 0, []), (.invokevirtual 432, 310, [2, 0, 46, 3]), (.nop, 155, [])]
  | 155 => [(.goto (-120), 35, [])]
  | 158 => [(.aload_n 0, 0, []), (.iconst 0, 0, []), (.invokestatic 395, 292, [1, 1, 0, 1]), (.invokevirtual 365, 277, [2, 0, 46, 3]), (.return_, 0, [])]
  | _ => []
abbrev n_m_heard : Nat := 312
def b_m_heard : Nat → List Item
  | 0 => [(.aload_n 0, 0, []), (.iload_n 1, 0, []), (.iload_n 2, 0, []), (.invokevirtual 435, 309, [3, 1, 46, 4]), (.istore_n 3, 0, []), (.iload_n 3, 0, []), (.ifCond .le 9, 17, []), (.aload_n 0, 0, []), (.iload_n 3, 0, []), (.invokevirtual 94, 185, [2, 1, 46, 2]), (.ireturn, 0, [])]
  | 17 => [(.aload_n 0, 0, []), (.iload_n 1, 0, []), (.iload_n 2, 0, []), (.invokevirtual 438, 311, [3, 0, 46, 5]), (.aload_n 0, 0, []), (.aload_n 0, 0, []), (.getfield 429, 12, [46, 37, 0, 0, 0]), (.invokevirtual 98, 186, [2, 1, 46, 2]), (.ireturn, 0, [])]
  | _ => []
abbrev n_m_sure : Nat := 313
def b_m_sure : Nat → List Item
  | 0 => [(.iload_n 3, 0, []), (.ifCond .lt 8, 9, []), (.iload_n 3, 0, []), (.iload_n 2, 0, []), (.if_icmp .lt 7, 13, []), (.nop, 9, [])]
  | 9 => [(.iconst 1, 0, []), (.goto 9, 19, [])]
  | 13 => [(.aload_n 0, 0, []), (.iload_n 1, 0, []), (.iload_n 2, 0, []), (.invokevirtual 435, 309, [3, 1, 46, 4]), (.nop, 19, [])]
  | 19 => [(.istore 4, 0, []), (.iload 4, 0, []), (.ifCond .le 10, 33, []), (.aload_n 0, 0, []), (.iload 4, 0, []), (.invokevirtual 94, 185, [2, 1, 46, 2]), (.ireturn, 0, [])]
  | 33 => [(.aload_n 0, 0, []), (.iload_n 1, 0, []), (.iload_n 2, 0, []), (.invokevirtual 438, 311, [3, 0, 46, 5]), (.aload_n 0, 0, []), (.getfield 429, 12, [46, 37, 0, 0, 0]), (.ifCond .eq 15, 58, []), (.aload_n 0, 0, []), (.getfield 66, 12, [46, 36, 2, 61, 0]), (.iload_n 3, 0, []), (.iaload, 0, []), (.ldc_w 371, 1000000, []), (.if_icmp .ne 12, 67, []), (.nop, 58, [])]
  | 58 => [(.aload_n 0, 0, []), (.bipush 6, 0, []), (.invokevirtual 94, 185, [2, 1, 46, 2]), (.goto 13, 77, [])]
  | 67 => [(.aload_n 0, 0, []), (.aload_n 0, 0, []), (.getfield 66, 12, [46, 36, 2, 61, 0]), (.iload_n 3, 0, []), (.iaload, 0, []), (.invokevirtual 98, 186, [2, 1, 46, 2]), (.nop, 77, [])]
  | 77 => [(.ireturn, 0, [])]
  | _ => []
abbrev n_m_couplesOf : Nat := 314
def b_m_couplesOf : Nat → List Item
  | 0 => [(.iconst 0, 0, []), (.istore_n 2, 0, []), (.nop, 2, [])]
  | 2 => [(.iload_n 2, 0, []), (.iload_n 1, 0, []), (.if_icmp .gt 122, 126, []), (.aload_n 0, 0, []), (.getfield 69, 12, [46, 38, 2, 62, 0]), (.iload_n 2, 0, []), (.iconst 0, 0, []), (.iastore, 0, []), (.iconst 0, 0, []), (.istore_n 3, 0, []), (.nop, 16, [])]
  | 16 => [(.iload_n 3, 0, []), (.bipush 7, 0, []), (.if_icmp .ge 101, 120, []), (.iload_n 3, 0, []), (.iconst 1, 0, []), (.iadd, 0, []), (.istore 4, 0, []), (.nop, 27, [])]
  | 27 => [(.iload 4, 0, []), (.bipush 7, 0, []), (.if_icmp .ge 83, 114, []), (.aload_n 0, 0, []), (.iload_n 2, 0, []), (.iload_n 3, 0, []), (.invokevirtual 288, 239, [3, 1, 46, 3]), (.ifCond .eq 68, 108, []), (.aload_n 0, 0, []), (.iload_n 2, 0, []), (.iload 4, 0, []), (.invokevirtual 288, 239, [3, 1, 46, 3]), (.ifCond .eq 58, 108, []), (.aload_n 0, 0, []), (.aload_n 0, 0, []), (.iload_n 3, 0, []), (.bipush 6, 0, []), (.invokevirtual 282, 241, [3, 1, 46, 3]), (.iload 4, 0, []), (.invokevirtual 288, 239, [3, 1, 46, 3]), (.ifCond .ne 6, 72, []), (.goto 39, 108, [])]
  | 72 => [(.aload_n 0, 0, []), (.getfield 69, 12, [46, 38, 2, 62, 0]), (.iload_n 2, 0, []), (.aload_n 0, 0, []), (.getfield 69, 12, [46, 38, 2, 62, 0]), (.iload_n 2, 0, []), (.iaload, 0, []), (.iconst 1, 0, []), (.aload_n 0, 0, []), (.getfield 69, 12, [46, 38, 2, 62, 0]), (.iload_n 2, 0, []), (.iconst 1, 0, []), (.iload_n 3, 0, []), (.ishl, 0, []), (.iconst (-1), 0, []), (.ixor, 0, []), (.iand, 0, []), (.iconst 1, 0, []), (.iload 4, 0, []), (.ishl, 0, []), (.iconst (-1), 0, []), (.ixor, 0, []), (.iand, 0, []), (.iaload, 0, []), (.iadd, 0, []), (.invokestatic 372, 334, [2, 1, 0, 2]), (.iastore, 0, []), (.nop, 108, [])]
  | 108 => [(.iinc 4 1, 0, []), (.goto (-84), 27, [])]
  | 114 => [(.iinc 3 1, 0, []), (.goto (-101), 16, [])]
  | 120 => [(.iinc 2 1, 0, []), (.goto (-121), 2, [])]
  | 126 => [(.aload_n 0, 0, []), (.getfield 69, 12, [46, 38, 2, 62, 0]), (.iload_n 1, 0, []), (.iaload, 0, []), (.ireturn, 0, [])]
  | _ => []
abbrev n_m_couples : Nat := 315
def b_m_couples : Nat → List Item
  | 0 => [(.aload_n 0, 0, []), (.iload_n 1, 0, []), (.invokevirtual 377, 238, [2, 1, 46, 2]), (.ifCond .eq 15, 20, []), (.aload_n 0, 0, []), (.aload_n 0, 0, []), (.iload_n 1, 0, []), (.invokevirtual 441, 314, [2, 1, 46, 5]), (.invokevirtual 98, 186, [2, 1, 46, 2]), (.goto 8, 25, [])]
  | 20 => [(.aload_n 0, 0, []), (.iconst 1, 0, []), (.invokevirtual 94, 185, [2, 1, 46, 2]), (.nop, 25, [])]
  | 25 => [(.ireturn, 0, [])]
  | _ => []
abbrev n_m_allRead : Nat := 316
def b_m_allRead : Nat → List Item
  | 0 => [(.aload_n 0, 0, []), (.iload_n 1, 0, []), (.invokevirtual 377, 238, [2, 1, 46, 2]), (.ifCond .eq 29, 34, []), (.aload_n 0, 0, []), (.iconst 2, 0, []), (.aload_n 0, 0, []), (.iload_n 1, 0, []), (.invokevirtual 441, 314, [2, 1, 46, 5]), (.imul, 0, []), (.iload_n 1, 0, []), (.invokestatic 386, 240, [1, 1, 0, 3]), (.if_icmp .ne 7, 27, []), (.iconst 1, 0, []), (.goto 4, 28, [])]
  | 27 => [(.iconst 0, 0, []), (.nop, 28, [])]
  | 28 => [(.invokevirtual 98, 186, [2, 1, 46, 2]), (.goto 8, 39, [])]
  | 34 => [(.aload_n 0, 0, []), (.iconst 1, 0, []), (.invokevirtual 94, 185, [2, 1, 46, 2]), (.nop, 39, [])]
  | 39 => [(.ireturn, 0, [])]
  | _ => []
abbrev n_m_coughs : Nat := 317
def b_m_coughs : Nat → List Item
  | 0 => [(.iload_n 1, 0, []), (.i2l, 0, []), (.lconst 0, 0, []), (.ldc2_w 444, 7, []), (.invokestatic 278, 196, [3, 1, 0, 6]), (.ifCond .ne 9, 18, []), (.aload_n 0, 0, []), (.iconst 1, 0, []), (.invokevirtual 101, 184, [2, 1, 46, 2]), (.ireturn, 1, [])]
  | 18 => [(.aload_n 0, 0, []), (.invokevirtual 291, 244, [1, 1, 46, 3]), (.iconst 1, 0, []), (.aload_n 0, 0, []), (.getfield 7, 12, [46, 0, 2, 47, 0]), (.bipush 8, 0, []), (.iaload, 0, []), (.ishl, 0, []), (.iconst (-1), 0, []), (.ixor, 0, []), (.iand, 0, []), (.invokestatic 386, 240, [1, 1, 0, 3]), (.istore_n 2, 0, []), (.lconst 1, 0, []), (.lstore_n 3, 0, []), (.iconst 0, 0, []), (.istore 5, 0, []), (.nop, 43, [])]
  | 43 => [(.iload 5, 0, []), (.bipush 8, 0, []), (.if_icmp .ge 26, 73, []), (.aload_n 0, 0, []), (.getfield 72, 12, [46, 39, 2, 63, 0]), (.iload 5, 0, []), (.iload 5, 0, []), (.ifCond .ne 7, 65, []), (.lconst 1, 0, []), (.goto 4, 66, [])]
  | 65 => [(.lconst 0, 0, []), (.nop, 66, [])]
  | 66 => [(.lastore, 0, []), (.iinc 5 1, 0, []), (.goto (-27), 43, [])]
  | 73 => [(.iconst 0, 0, []), (.istore 5, 0, []), (.nop, 76, [])]
  | 76 => [(.iload 5, 0, []), (.iload_n 2, 0, []), (.if_icmp .ge 82, 161, []), (.bipush 7, 0, []), (.istore 6, 0, []), (.nop, 86, [])]
  | 86 => [(.iload 6, 0, []), (.ifCond .lt 61, 149, []), (.aload_n 0, 0, []), (.getfield 72, 12, [46, 39, 2, 63, 0]), (.iload 6, 0, []), (.aload_n 0, 0, []), (.getfield 72, 12, [46, 39, 2, 63, 0]), (.iload 6, 0, []), (.laload, 0, []), (.bipush 16, 0, []), (.aload_n 0, 0, []), (.getfield 7, 12, [46, 0, 2, 47, 0]), (.iconst 4, 0, []), (.iaload, 0, []), (.isub, 0, []), (.i2l, 0, []), (.lmul, 0, []), (.iload 6, 0, []), (.ifCond .ne 7, 124, []), (.lconst 0, 0, []), (.goto 20, 141, [])]
  | 124 => [(.aload_n 0, 0, []), (.getfield 72, 12, [46, 39, 2, 63, 0]), (.iload 6, 0, []), (.iconst 1, 0, []), (.isub, 0, []), (.laload, 0, []), (.aload_n 0, 0, []), (.getfield 7, 12, [46, 0, 2, 47, 0]), (.iconst 4, 0, []), (.iaload, 0, []), (.i2l, 0, []), (.lmul, 0, []), (.nop, 141, [])]
  | 141 => [(.ladd, 0, []), (.lastore, 0, []), (.iinc 6 (-1), 0, []), (.goto (-60), 86, [])]
  | 149 => [(.lload_n 3, 0, []), (.ldc2_w 355, 16, []), (.lmul, 0, []), (.lstore_n 3, 0, []), (.iinc 5 1, 0, []), (.goto (-82), 76, [])]
  | 161 => [(.lconst 0, 0, []), (.lstore 5, 0, []), (.iload_n 1, 0, []), (.istore 7, 0, []), (.nop, 167, [])]
  | 167 => [(.iload 7, 0, []), (.bipush 8, 0, []), (.if_icmp .ge 21, 192, []), (.lload 5, 0, []), (.aload_n 0, 0, []), (.getfield 72, 12, [46, 39, 2, 63, 0]), (.iload 7, 0, []), (.laload, 0, []), (.ladd, 0, []), (.lstore 5, 0, []), (.iinc 7 1, 0, []), (.goto (-22), 167, [])]
  | 192 => [(.aload_n 0, 0, []), (.lload 5, 0, []), (.lload_n 3, 0, []), (.invokevirtual 446, 188, [3, 1, 46, 11]), (.ireturn, 1, [])]
  | _ => []
abbrev n_m_copyBreath : Nat := 318
def b_m_copyBreath : Nat → List Item
  | 0 => [(.iload_n 1, 0, []), (.invokestatic 105, 189, [1, 1, 0, 1]), (.ifCond .ne 9, 13, []), (.aload_n 0, 0, []), (.iconst 1, 0, []), (.invokevirtual 94, 185, [2, 1, 46, 2]), (.ireturn, 0, [])]
  | 13 => [(.aload_n 0, 0, []), (.getfield 24, 12, [46, 6, 2, 50, 0]), (.iload_n 1, 0, []), (.iaload, 0, []), (.iconst (-1), 0, []), (.if_icmp .ne 9, 29, []), (.aload_n 0, 0, []), (.iconst 2, 0, []), (.invokevirtual 94, 185, [2, 1, 46, 2]), (.ireturn, 0, [])]
  | 29 => [(.aload_n 0, 0, []), (.getfield 24, 12, [46, 6, 2, 50, 0]), (.iload_n 1, 0, []), (.iaload, 0, []), (.aload_n 0, 0, []), (.getfield 7, 12, [46, 0, 2, 47, 0]), (.iconst 1, 0, []), (.iaload, 0, []), (.if_icmp .ge 9, 50, []), (.aload_n 0, 0, []), (.iconst 3, 0, []), (.invokevirtual 94, 185, [2, 1, 46, 2]), (.ireturn, 0, [])]
  | 50 => [(.iconst 0, 0, []), (.istore_n 2, 0, []), (.nop, 52, [])]
  | 52 => [(.iload_n 2, 0, []), (.aload_n 0, 0, []), (.getfield 7, 12, [46, 0, 2, 47, 0]), (.iconst 1, 0, []), (.iaload, 0, []), (.if_icmp .ge 36, 95, []), (.aload_n 0, 0, []), (.getfield 27, 12, [46, 7, 2, 51, 0]), (.bipush 60, 0, []), (.iload_n 1, 0, []), (.imul, 0, []), (.iload_n 2, 0, []), (.iadd, 0, []), (.aload_n 0, 0, []), (.iload_n 2, 0, []), (.iconst 0, 0, []), (.invokevirtual 282, 241, [3, 1, 46, 3]), (.i2l, 0, []), (.aload_n 0, 0, []), (.getfield 21, 12, [46, 5, 2, 49, 0]), (.iload_n 1, 0, []), (.iaload, 0, []), (.invokestatic 112, 190, [2, 1, 0, 3]), (.lastore, 0, []), (.iinc 2 1, 0, []), (.goto (-40), 52, [])]
  | 95 => [(.aload_n 0, 0, []), (.aload_n 0, 0, []), (.getfield 7, 12, [46, 0, 2, 47, 0]), (.iconst 1, 0, []), (.iaload, 0, []), (.invokevirtual 98, 186, [2, 1, 46, 2]), (.ireturn, 0, [])]
  | _ => []
abbrev n_m_draw : Nat := 319
def b_m_draw : Nat → List Item
  | 0 => [(.aload_n 0, 0, []), (.aload_n 0, 0, []), (.getfield 450, 12, [46, 40, 0, 0, 0]), (.sipush 3119, 0, []), (.imul, 0, []), (.sipush 11329, 0, []), (.iadd, 0, []), (.ldc_w 453, 65536, []), (.irem, 0, []), (.putfield 450, 12, [46, 40, 0, 0, 0]), (.aload_n 0, 0, []), (.getfield 450, 12, [46, 40, 0, 0, 0]), (.bipush 8, 0, []), (.idiv, 0, []), (.iload_n 1, 0, []), (.irem, 0, []), (.ireturn, 0, [])]
  | _ => []
abbrev n_m_minutesBy : Nat := 320
def b_m_minutesBy : Nat → List Item
  | 0 => [(.aload_n 0, 0, []), (.getfield 7, 12, [46, 0, 2, 47, 0]), (.iconst 5, 0, []), (.iaload, 0, []), (.iload_n 1, 0, []), (.iadd, 0, []), (.sipush 9999, 0, []), (.if_icmp .le 5, 16, []), (.iconst 0, 0, []), (.ireturn, 1, [])]
  | 16 => [(.aload_n 0, 0, []), (.getfield 7, 12, [46, 0, 2, 47, 0]), (.bipush 7, 0, []), (.iaload, 0, []), (.istore_n 2, 0, []), (.aload_n 0, 0, []), (.getfield 78, 12, [46, 43, 2, 65, 0]), (.iconst 2, 0, []), (.dup2, 0, []), (.iaload, 0, []), (.aload_n 0, 0, []), (.iload_n 1, 0, []), (.invokevirtual 344, 263, [2, 1, 46, 4]), (.iadd, 0, []), (.iastore, 0, []), (.aload_n 0, 0, []), (.getfield 78, 12, [46, 43, 2, 65, 0]), (.iconst 1, 0, []), (.dup2, 0, []), (.iaload, 0, []), (.iload_n 1, 0, []), (.iadd, 0, []), (.iastore, 0, []), (.aload_n 0, 0, []), (.getfield 78, 12, [46, 43, 2, 65, 0]), (.iconst 3, 0, []), (.dup2, 0, []), (.iaload, 0, []), (.aload_n 0, 0, []), (.getfield 7, 12, [46, 0, 2, 47, 0]), (.bipush 7, 0, []), (.iaload, 0, []), (.iload_n 2, 0, []), (.isub, 0, []), (.iadd, 0, []), (.iastore, 0, []), (.iconst 1, 0, []), (.ireturn, 1, [])]
  | _ => []
abbrev n_m_coughsAny : Nat := 321
def b_m_coughsAny : Nat → List Item
  | 0 => [(.aload_n 0, 0, []), (.getfield 7, 12, [46, 0, 2, 47, 0]), (.iconst 1, 0, []), (.iaload, 0, []), (.ifCond .ne 5, 11, []), (.iconst 0, 0, []), (.ireturn, 1, [])]
  | 11 => [(.aload_n 0, 0, []), (.aload_n 0, 0, []), (.getfield 7, 12, [46, 0, 2, 47, 0]), (.iconst 1, 0, []), (.iaload, 0, []), (.invokevirtual 454, 319, [2, 1, 46, 2]), (.invokestatic 213, 233, [1, 1, 0, 1]), (.istore_n 1, 0, []), (.aload_n 0, 0, []), (.getfield 7, 12, [46, 0, 2, 47, 0]), (.iload_n 1, 0, []), (.iconst 0, 0, []), (.aload_n 0, 0, []), (.getfield 7, 12, [46, 0, 2, 47, 0]), (.iload_n 1, 0, []), (.iaload, 0, []), (.aload_n 0, 0, []), (.bipush 8, 0, []), (.invokevirtual 454, 319, [2, 1, 46, 2]), (.isub, 0, []), (.invokestatic 372, 334, [2, 1, 0, 2]), (.iastore, 0, []), (.iconst 1, 0, []), (.ireturn, 1, [])]
  | _ => []
abbrev n_m_does : Nat := 322
def b_m_does : Nat → List Item
  | 0 => [(.aload_n 0, 0, []), (.getfield 7, 12, [46, 0, 2, 47, 0]), (.iload_n 1, 0, []), (.iconst 1, 0, []), (.iadd, 0, []), (.iaload, 0, []), (.istore_n 2, 0, []), (.aload_n 0, 0, []), (.getfield 7, 12, [46, 0, 2, 47, 0]), (.iload_n 1, 0, []), (.iaload, 0, []), (.tableswitch 64 11 15 #[33, 39, 45, 52, 59], 79, [48, 54, 60, 67, 74])]
  | 48 => [(.aload_n 0, 0, []), (.iload_n 2, 0, []), (.invokevirtual 457, 320, [2, 1, 46, 3]), (.ireturn, 1, [])]
  | 54 => [(.aload_n 0, 0, []), (.iload_n 2, 0, []), (.invokevirtual 347, 265, [2, 1, 46, 3]), (.ireturn, 1, [])]
  | 60 => [(.aload_n 0, 0, []), (.iload_n 2, 0, []), (.iconst 1, 0, []), (.invokevirtual 350, 267, [3, 1, 46, 4]), (.ireturn, 1, [])]
  | 67 => [(.aload_n 0, 0, []), (.iload_n 2, 0, []), (.iconst 0, 0, []), (.invokevirtual 350, 267, [3, 1, 46, 4]), (.ireturn, 1, [])]
  | 74 => [(.aload_n 0, 0, []), (.invokevirtual 460, 321, [1, 1, 46, 2]), (.ireturn, 1, [])]
  | 79 => [(.iconst 1, 0, []), (.ireturn, 1, [])]
  | _ => []
abbrev n_m_holds : Nat := 323
def b_m_holds : Nat → List Item
  | 0 => [(.aload_n 0, 0, []), (.getfield 7, 12, [46, 0, 2, 47, 0]), (.iload_n 1, 0, []), (.iaload, 0, []), (.sipush 1600, 0, []), (.isub, 0, []), (.istore_n 2, 0, []), (.iload_n 2, 0, []), (.bipush 20, 0, []), (.if_icmp .ne 27, 41, []), (.aload_n 0, 0, []), (.getfield 7, 12, [46, 0, 2, 47, 0]), (.bipush 8, 0, []), (.iaload, 0, []), (.aload_n 0, 0, []), (.getfield 7, 12, [46, 0, 2, 47, 0]), (.iload_n 1, 0, []), (.iconst 1, 0, []), (.iadd, 0, []), (.iaload, 0, []), (.if_icmp .ne 7, 39, []), (.iconst 1, 0, []), (.goto 4, 40, [])]
  | 39 => [(.iconst 0, 0, []), (.nop, 40, [])]
  | 40 => [(.ireturn, 1, [])]
  | 41 => [(.iload_n 2, 0, []), (.bipush 21, 0, []), (.if_icmp .ne 27, 71, []), (.aload_n 0, 0, []), (.getfield 7, 12, [46, 0, 2, 47, 0]), (.bipush 9, 0, []), (.iaload, 0, []), (.aload_n 0, 0, []), (.getfield 7, 12, [46, 0, 2, 47, 0]), (.iload_n 1, 0, []), (.iconst 1, 0, []), (.iadd, 0, []), (.iaload, 0, []), (.if_icmp .ne 7, 69, []), (.iconst 1, 0, []), (.goto 4, 70, [])]
  | 69 => [(.iconst 0, 0, []), (.nop, 70, [])]
  | 70 => [(.ireturn, 1, [])]
  | 71 => [(.iload_n 2, 0, []), (.bipush 8, 0, []), (.if_icmp .ne 19, 93, []), (.aload_n 0, 0, []), (.aload_n 0, 0, []), (.getfield 7, 12, [46, 0, 2, 47, 0]), (.iload_n 1, 0, []), (.iconst 1, 0, []), (.iadd, 0, []), (.iaload, 0, []), (.iconst 0, 0, []), (.invokevirtual 282, 241, [3, 1, 46, 3]), (.goto 10, 100, [])]
  | 93 => [(.aload_n 0, 0, []), (.getfield 7, 12, [46, 0, 2, 47, 0]), (.bipush 6, 0, []), (.iaload, 0, []), (.nop, 100, [])]
  | 100 => [(.istore_n 3, 0, []), (.aload_n 0, 0, []), (.getfield 7, 12, [46, 0, 2, 47, 0]), (.iload_n 1, 0, []), (.iconst 5, 0, []), (.iadd, 0, []), (.iaload, 0, []), (.bipush 60, 0, []), (.if_icmp .ne 23, 134, []), (.iload_n 3, 0, []), (.aload_n 0, 0, []), (.getfield 7, 12, [46, 0, 2, 47, 0]), (.iload_n 1, 0, []), (.iconst 2, 0, []), (.iadd, 0, []), (.iaload, 0, []), (.if_icmp .ge 7, 130, []), (.iconst 1, 0, []), (.goto 57, 184, [])]
  | 130 => [(.iconst 0, 0, []), (.goto 53, 184, [])]
  | 134 => [(.aload_n 0, 0, []), (.getfield 7, 12, [46, 0, 2, 47, 0]), (.iload_n 1, 0, []), (.iconst 5, 0, []), (.iadd, 0, []), (.iaload, 0, []), (.bipush 62, 0, []), (.if_icmp .ne 23, 167, []), (.iload_n 3, 0, []), (.aload_n 0, 0, []), (.getfield 7, 12, [46, 0, 2, 47, 0]), (.iload_n 1, 0, []), (.iconst 2, 0, []), (.iadd, 0, []), (.iaload, 0, []), (.if_icmp .le 7, 163, []), (.iconst 1, 0, []), (.goto 24, 184, [])]
  | 163 => [(.iconst 0, 0, []), (.goto 20, 184, [])]
  | 167 => [(.iload_n 3, 0, []), (.aload_n 0, 0, []), (.getfield 7, 12, [46, 0, 2, 47, 0]), (.iload_n 1, 0, []), (.iconst 2, 0, []), (.iadd, 0, []), (.iaload, 0, []), (.if_icmp .ne 7, 183, []), (.iconst 1, 0, []), (.goto 4, 184, [])]
  | 183 => [(.iconst 0, 0, []), (.nop, 184, [])]
  | 184 => [(.ireturn, 1, [])]
  | _ => []
abbrev n_m_behindEnds : Nat := 324
def b_m_behindEnds : Nat → List Item
  | 0 => [(.iload_n 1, 0, []), (.istore_n 2, 0, []), (.nop, 2, [])]
  | 2 => [(.iload_n 2, 0, []), (.aload_n 0, 0, []), (.getfield 7, 12, [46, 0, 2, 47, 0]), (.bipush 10, 0, []), (.iaload, 0, []), (.if_icmp .ge 105, 115, []), (.aload_n 0, 0, []), (.getfield 7, 12, [46, 0, 2, 47, 0]), (.bipush 97, 0, []), (.bipush 6, 0, []), (.iload_n 2, 0, []), (.imul, 0, []), (.iadd, 0, []), (.iaload, 0, []), (.bipush 18, 0, []), (.if_icmp .ne 88, 115, []), (.aload_n 0, 0, []), (.getfield 7, 12, [46, 0, 2, 47, 0]), (.bipush 97, 0, []), (.bipush 6, 0, []), (.iload_n 2, 0, []), (.imul, 0, []), (.iadd, 0, []), (.iconst 4, 0, []), (.iadd, 0, []), (.iaload, 0, []), (.istore_n 3, 0, []), (.aload_n 0, 0, []), (.getfield 7, 12, [46, 0, 2, 47, 0]), (.bipush 97, 0, []), (.bipush 6, 0, []), (.iload_n 3, 0, []), (.imul, 0, []), (.iadd, 0, []), (.iaload, 0, []), (.bipush 17, 0, []), (.if_icmp .ne 16, 75, []), (.aload_n 0, 0, []), (.getfield 75, 12, [46, 42, 2, 64, 0]), (.iload_n 3, 0, []), (.iaload, 0, []), (.ifCond .le 7, 75, []), (.iconst 1, 0, []), (.goto 4, 76, [])]
  | 75 => [(.iconst 0, 0, []), (.nop, 76, [])]
  | 76 => [(.istore 4, 0, []), (.aload_n 0, 0, []), (.getfield 75, 12, [46, 42, 2, 64, 0]), (.iload_n 3, 0, []), (.dup2, 0, []), (.iaload, 0, []), (.iload 4, 0, []), (.ifCond .eq 7, 94, []), (.iconst 1, 0, []), (.goto 4, 95, [])]
  | 94 => [(.iconst 0, 0, []), (.nop, 95, [])]
  | 95 => [(.isub, 0, []), (.iastore, 0, []), (.iload 4, 0, []), (.ifCond .eq 9, 108, []), (.iload_n 3, 0, []), (.iconst 1, 0, []), (.iadd, 0, []), (.goto 6, 111, [])]
  | 108 => [(.iload_n 2, 0, []), (.iconst 1, 0, []), (.iadd, 0, []), (.nop, 111, [])]
  | 111 => [(.istore_n 2, 0, []), (.goto (-110), 2, [])]
  | 115 => [(.iload_n 2, 0, []), (.ireturn, 0, [])]
  | _ => []
abbrev n_m_lives : Nat := 325
def b_m_lives : Nat → List Item
  | 0 => [(.aload_n 0, 0, []), (.iload_n 1, 0, []), (.putfield 450, 12, [46, 40, 0, 0, 0]), (.aload_n 0, 0, []), (.iconst 0, 0, []), (.putfield 463, 12, [46, 41, 0, 0, 0]), (.iconst 0, 0, []), (.istore_n 2, 0, []), (.nop, 12, [])]
  | 12 => [(.iload_n 2, 0, []), (.iconst 5, 0, []), (.if_icmp .ge 16, 30, []), (.aload_n 0, 0, []), (.getfield 78, 12, [46, 43, 2, 65, 0]), (.iload_n 2, 0, []), (.iconst 0, 0, []), (.iastore, 0, []), (.iinc 2 1, 0, []), (.goto (-15), 12, [])]
  | 30 => [(.iconst 0, 0, []), (.istore_n 2, 0, []), (.nop, 32, [])]
  | 32 => [(.iload_n 2, 0, []), (.aload_n 0, 0, []), (.getfield 7, 12, [46, 0, 2, 47, 0]), (.bipush 10, 0, []), (.iaload, 0, []), (.if_icmp .ge 144, 184, []), (.aload_n 0, 0, []), (.getfield 463, 12, [46, 41, 0, 0, 0]), (.sipush 300, 0, []), (.if_icmp .ne 11, 61, []), (.aload_n 0, 0, []), (.getfield 78, 12, [46, 43, 2, 65, 0]), (.iconst 4, 0, []), (.iconst 1, 0, []), (.iastore, 0, []), (.return_, 0, [])]
  | 61 => [(.bipush 97, 0, []), (.bipush 6, 0, []), (.iload_n 2, 0, []), (.imul, 0, []), (.iadd, 0, []), (.istore_n 3, 0, []), (.aload_n 0, 0, []), (.dup, 0, []), (.getfield 463, 12, [46, 41, 0, 0, 0]), (.iconst 1, 0, []), (.iadd, 0, []), (.putfield 463, 12, [46, 41, 0, 0, 0]), (.aload_n 0, 0, []), (.getfield 7, 12, [46, 0, 2, 47, 0]), (.iload_n 3, 0, []), (.iaload, 0, []), (.bipush 19, 0, []), (.if_icmp .ne 4, 91, []), (.return_, 0, [])]
  | 91 => [(.aload_n 0, 0, []), (.getfield 78, 12, [46, 43, 2, 65, 0]), (.iconst 0, 0, []), (.dup2, 0, []), (.iaload, 0, []), (.aload_n 0, 0, []), (.iload_n 3, 0, []), (.invokevirtual 466, 322, [2, 1, 46, 3]), (.ifCond .eq 7, 110, []), (.iconst 0, 0, []), (.goto 4, 111, [])]
  | 110 => [(.iconst 1, 0, []), (.nop, 111, [])]
  | 111 => [(.iadd, 0, []), (.iastore, 0, []), (.aload_n 0, 0, []), (.getfield 7, 12, [46, 0, 2, 47, 0]), (.iload_n 3, 0, []), (.iaload, 0, []), (.bipush 17, 0, []), (.if_icmp .ne 19, 140, []), (.aload_n 0, 0, []), (.getfield 75, 12, [46, 42, 2, 64, 0]), (.iload_n 2, 0, []), (.aload_n 0, 0, []), (.getfield 7, 12, [46, 0, 2, 47, 0]), (.iload_n 3, 0, []), (.iconst 1, 0, []), (.iadd, 0, []), (.iaload, 0, []), (.iconst 1, 0, []), (.isub, 0, []), (.iastore, 0, []), (.nop, 140, [])]
  | 140 => [(.aload_n 0, 0, []), (.aload_n 0, 0, []), (.getfield 7, 12, [46, 0, 2, 47, 0]), (.iload_n 3, 0, []), (.iaload, 0, []), (.sipush 1600, 0, []), (.if_icmp .lt 24, 174, []), (.aload_n 0, 0, []), (.iload_n 3, 0, []), (.invokevirtual 469, 323, [2, 1, 46, 4]), (.ifCond .ne 16, 174, []), (.aload_n 0, 0, []), (.getfield 7, 12, [46, 0, 2, 47, 0]), (.iload_n 3, 0, []), (.iconst 4, 0, []), (.iadd, 0, []), (.iaload, 0, []), (.iconst 1, 0, []), (.iadd, 0, []), (.goto 6, 177, [])]
  | 174 => [(.iload_n 2, 0, []), (.iconst 1, 0, []), (.iadd, 0, []), (.nop, 177, [])]
  | 177 => [(.invokevirtual 472, 324, [2, 1, 46, 5]), (.istore_n 2, 0, []), (.goto (-149), 32, [])]
  | 184 => [(.return_, 0, [])]
  | _ => []
abbrev n_m_live : Nat := 326
def b_m_live : Nat → List Item
  | 0 => [(.iload_n 1, 0, []), (.i2l, 0, []), (.lconst 0, 0, []), (.ldc2_w 475, 9999, []), (.invokestatic 278, 196, [3, 1, 0, 6]), (.ifCond .ne 9, 18, []), (.aload_n 0, 0, []), (.iconst 1, 0, []), (.invokevirtual 94, 185, [2, 1, 46, 2]), (.ireturn, 0, [])]
  | 18 => [(.aload_n 0, 0, []), (.getfield 7, 12, [46, 0, 2, 47, 0]), (.bipush 10, 0, []), (.iaload, 0, []), (.iconst (-1), 0, []), (.if_icmp .ne 10, 36, []), (.aload_n 0, 0, []), (.bipush 6, 0, []), (.invokevirtual 94, 185, [2, 1, 46, 2]), (.ireturn, 0, [])]
  | 36 => [(.aload_n 0, 0, []), (.iload_n 1, 0, []), (.invokevirtual 477, 325, [2, 0, 46, 4]), (.iconst 0, 0, []), (.istore_n 2, 0, []), (.nop, 43, [])]
  | 43 => [(.iload_n 2, 0, []), (.iconst 5, 0, []), (.if_icmp .ge 21, 66, []), (.aload_n 0, 0, []), (.getfield 81, 12, [46, 44, 2, 66, 0]), (.iload_n 2, 0, []), (.aload_n 0, 0, []), (.getfield 78, 12, [46, 43, 2, 65, 0]), (.iload_n 2, 0, []), (.iaload, 0, []), (.iastore, 0, []), (.iinc 2 1, 0, []), (.goto (-20), 43, [])]
  | 66 => [(.aload_n 0, 0, []), (.iconst 1, 0, []), (.putfield 480, 12, [46, 45, 5, 0, 0]), (.aload_n 0, 0, []), (.aload_n 0, 0, []), (.getfield 463, 12, [46, 41, 0, 0, 0]), (.invokevirtual 98, 186, [2, 1, 46, 2]), (.ireturn, 0, [])]
  | _ => []
abbrev n_m_lived : Nat := 327
def b_m_lived : Nat → List Item
  | 0 => [(.iload_n 1, 0, []), (.ifCond .lt 8, 9, []), (.iload_n 1, 0, []), (.iconst 4, 0, []), (.if_icmp .le 11, 17, []), (.nop, 9, [])]
  | 9 => [(.aload_n 0, 0, []), (.iconst 1, 0, []), (.invokevirtual 94, 185, [2, 1, 46, 2]), (.goto 29, 43, [])]
  | 17 => [(.aload_n 0, 0, []), (.getfield 480, 12, [46, 45, 5, 0, 0]), (.ifCond .eq 16, 37, []), (.aload_n 0, 0, []), (.aload_n 0, 0, []), (.getfield 81, 12, [46, 44, 2, 66, 0]), (.iload_n 1, 0, []), (.iaload, 0, []), (.invokevirtual 98, 186, [2, 1, 46, 2]), (.goto 9, 43, [])]
  | 37 => [(.aload_n 0, 0, []), (.bipush 6, 0, []), (.invokevirtual 94, 185, [2, 1, 46, 2]), (.nop, 43, [])]
  | 43 => [(.ireturn, 0, [])]
  | _ => []
abbrev n_m_mean : Nat := 328
def b_m_mean : Nat → List Item
  | 0 => [(.iload_n 1, 0, []), (.i2l, 0, []), (.lconst 0, 0, []), (.ldc2_w 475, 9999, []), (.invokestatic 278, 196, [3, 1, 0, 6]), (.ifCond .eq 26, 35, []), (.iload_n 2, 0, []), (.i2l, 0, []), (.lconst 1, 0, []), (.ldc2_w 353, 20, []), (.invokestatic 278, 196, [3, 1, 0, 6]), (.ifCond .eq 14, 35, []), (.iload_n 1, 0, []), (.iload_n 2, 0, []), (.iadd, 0, []), (.iconst 1, 0, []), (.isub, 0, []), (.sipush 9999, 0, []), (.if_icmp .le 9, 41, []), (.nop, 35, [])]
  | 35 => [(.aload_n 0, 0, []), (.iconst 1, 0, []), (.invokevirtual 101, 184, [2, 1, 46, 2]), (.ireturn, 1, [])]
  | 41 => [(.aload_n 0, 0, []), (.getfield 7, 12, [46, 0, 2, 47, 0]), (.bipush 10, 0, []), (.iaload, 0, []), (.iconst (-1), 0, []), (.if_icmp .ne 10, 59, []), (.aload_n 0, 0, []), (.bipush 6, 0, []), (.invokevirtual 101, 184, [2, 1, 46, 2]), (.ireturn, 1, [])]
  | 59 => [(.aload_n 0, 0, []), (.sipush 2325, 0, []), (.invokevirtual 362, 276, [2, 0, 46, 3]), (.lconst 0, 0, []), (.lstore_n 3, 0, []), (.iconst 0, 0, []), (.istore 5, 0, []), (.nop, 71, [])]
  | 71 => [(.iload 5, 0, []), (.iload_n 2, 0, []), (.if_icmp .ge 35, 109, []), (.aload_n 0, 0, []), (.iload_n 1, 0, []), (.iload 5, 0, []), (.iadd, 0, []), (.invokevirtual 477, 325, [2, 0, 46, 4]), (.lload_n 3, 0, []), (.aload_n 0, 0, []), (.getfield 7, 12, [46, 0, 2, 47, 0]), (.bipush 6, 0, []), (.iaload, 0, []), (.i2l, 0, []), (.ladd, 0, []), (.lstore_n 3, 0, []), (.aload_n 0, 0, []), (.sipush 2325, 0, []), (.invokevirtual 365, 277, [2, 0, 46, 3]), (.iinc 5 1, 0, []), (.goto (-35), 71, [])]
  | 109 => [(.aload_n 0, 0, []), (.lload_n 3, 0, []), (.iload_n 2, 0, []), (.i2l, 0, []), (.invokevirtual 446, 188, [3, 1, 46, 11]), (.ireturn, 1, [])]
  | _ => []
abbrev n_m_copies : Nat := 329
def b_m_copies : Nat → List Item
  | 0 => [(.iconst 0, 0, []), (.istore_n 3, 0, []), (.nop, 2, [])]
  | 2 => [(.iload_n 3, 0, []), (.sipush 465, 0, []), (.if_icmp .ge 33, 39, []), (.aload_n 0, 0, []), (.getfield 7, 12, [46, 0, 2, 47, 0]), (.sipush 465, 0, []), (.iload_n 2, 0, []), (.imul, 0, []), (.iload_n 3, 0, []), (.iadd, 0, []), (.aload_n 0, 0, []), (.getfield 7, 12, [46, 0, 2, 47, 0]), (.sipush 465, 0, []), (.iload_n 1, 0, []), (.imul, 0, []), (.iload_n 3, 0, []), (.iadd, 0, []), (.iaload, 0, []), (.iastore, 0, []), (.iinc 3 1, 0, []), (.goto (-34), 2, [])]
  | 39 => [(.iconst 0, 0, []), (.istore_n 3, 0, []), (.nop, 41, [])]
  | 41 => [(.iload_n 3, 0, []), (.bipush 13, 0, []), (.if_icmp .ge 31, 75, []), (.aload_n 0, 0, []), (.getfield 13, 12, [46, 1, 2, 48, 0]), (.bipush 13, 0, []), (.iload_n 2, 0, []), (.imul, 0, []), (.iload_n 3, 0, []), (.iadd, 0, []), (.aload_n 0, 0, []), (.getfield 13, 12, [46, 1, 2, 48, 0]), (.bipush 13, 0, []), (.iload_n 1, 0, []), (.imul, 0, []), (.iload_n 3, 0, []), (.iadd, 0, []), (.laload, 0, []), (.lastore, 0, []), (.iinc 3 1, 0, []), (.goto (-31), 41, [])]
  | 75 => [(.return_, 0, [])]
  | _ => []
abbrev n_m_mark : Nat := 330
def b_m_mark : Nat → List Item
  | 0 => [(.aload_n 0, 0, []), (.getfield 483, 12, [46, 46, 0, 0, 0]), (.iconst 3, 0, []), (.if_icmp .ne 9, 14, []), (.aload_n 0, 0, []), (.iconst 4, 0, []), (.invokevirtual 94, 185, [2, 1, 46, 2]), (.ireturn, 0, [])]
  | 14 => [(.aload_n 0, 0, []), (.dup, 0, []), (.getfield 483, 12, [46, 46, 0, 0, 0]), (.iconst 1, 0, []), (.iadd, 0, []), (.putfield 483, 12, [46, 46, 0, 0, 0]), (.aload_n 0, 0, []), (.iconst 0, 0, []), (.aload_n 0, 0, []), (.getfield 483, 12, [46, 46, 0, 0, 0]), (.invokevirtual 486, 329, [3, 0, 46, 4]), (.aload_n 0, 0, []), (.aload_n 0, 0, []), (.getfield 483, 12, [46, 46, 0, 0, 0]), (.invokevirtual 98, 186, [2, 1, 46, 2]), (.ireturn, 0, [])]
  | _ => []
abbrev n_m_undo : Nat := 331
def b_m_undo : Nat → List Item
  | 0 => [(.aload_n 0, 0, []), (.getfield 483, 12, [46, 46, 0, 0, 0]), (.ifCond .ne 10, 14, []), (.aload_n 0, 0, []), (.bipush 6, 0, []), (.invokevirtual 94, 185, [2, 1, 46, 2]), (.ireturn, 0, [])]
  | 14 => [(.aload_n 0, 0, []), (.aload_n 0, 0, []), (.getfield 483, 12, [46, 46, 0, 0, 0]), (.iconst 0, 0, []), (.invokevirtual 486, 329, [3, 0, 46, 4]), (.aload_n 0, 0, []), (.dup, 0, []), (.getfield 483, 12, [46, 46, 0, 0, 0]), (.iconst 1, 0, []), (.isub, 0, []), (.putfield 483, 12, [46, 46, 0, 0, 0]), (.aload_n 0, 0, []), (.aload_n 0, 0, []), (.getfield 483, 12, [46, 46, 0, 0, 0]), (.invokevirtual 98, 186, [2, 1, 46, 2]), (.ireturn, 0, [])]
  | _ => []
abbrev n_Integer_bitCount : Nat := 332
def b_Integer_bitCount : Nat → List Item
  | 0 => [(.iload_n 0, 0, []), (.iload_n 0, 0, []), (.iconst 1, 0, []), (.iushr, 0, []), (.ldc_w 265, 1431655765, []), (.iand, 0, []), (.isub, 0, []), (.istore_n 0, 0, []), (.iload_n 0, 0, []), (.ldc_w 266, 858993459, []), (.iand, 0, []), (.iload_n 0, 0, []), (.iconst 2, 0, []), (.iushr, 0, []), (.ldc_w 266, 858993459, []), (.iand, 0, []), (.iadd, 0, []), (.istore_n 0, 0, []), (.iload_n 0, 0, []), (.iload_n 0, 0, []), (.iconst 4, 0, []), (.iushr, 0, []), (.iadd, 0, []), (.ldc_w 267, 252645135, []), (.iand, 0, []), (.istore_n 0, 0, []), (.iload_n 0, 0, []), (.iload_n 0, 0, []), (.bipush 8, 0, []), (.iushr, 0, []), (.iadd, 0, []), (.istore_n 0, 0, []), (.iload_n 0, 0, []), (.iload_n 0, 0, []), (.bipush 16, 0, []), (.iushr, 0, []), (.iadd, 0, []), (.istore_n 0, 0, []), (.iload_n 0, 0, []), (.bipush 63, 0, []), (.iand, 0, []), (.ireturn, 0, [])]
  | _ => []
abbrev n_Math_floorMod : Nat := 333
def b_Math_floorMod : Nat → List Item
  | 0 => [(.iload_n 0, 0, []), (.iload_n 1, 0, []), (.irem, 0, []), (.istore_n 2, 0, []), (.iload_n 0, 0, []), (.iload_n 1, 0, []), (.ixor, 0, []), (.ifCond .ge 11, 18, []), (.iload_n 2, 0, []), (.ifCond .eq 7, 18, []), (.iload_n 2, 0, []), (.iload_n 1, 0, []), (.iadd, 0, []), (.ireturn, 0, [])]
  | 18 => [(.iload_n 2, 0, []), (.ireturn, 0, [])]
  | _ => []
abbrev n_Math_max : Nat := 334
def b_Math_max : Nat → List Item
  | 0 => [(.iload_n 0, 0, []), (.iload_n 1, 0, []), (.if_icmp .lt 7, 9, []), (.iload_n 0, 0, []), (.goto 4, 10, [])]
  | 9 => [(.iload_n 1, 0, []), (.nop, 10, [])]
  | 10 => [(.ireturn, 0, [])]
  | _ => []
abbrev n_Math_min : Nat := 335
def b_Math_min : Nat → List Item
  | 0 => [(.iload_n 0, 0, []), (.iload_n 1, 0, []), (.if_icmp .gt 7, 9, []), (.iload_n 0, 0, []), (.goto 4, 10, [])]
  | 9 => [(.iload_n 1, 0, []), (.nop, 10, [])]
  | 10 => [(.ireturn, 0, [])]
  | _ => []
abbrev n_Arrays_fill : Nat := 336
def b_Arrays_fill : Nat → List Item
  | 0 => [(.iconst 0, 0, []), (.istore_n 3, 0, []), (.aload_n 0, 0, []), (.arraylength, 0, []), (.istore 4, 0, []), (.nop, 6, [])]
  | 6 => [(.iload_n 3, 0, []), (.iload 4, 0, []), (.if_icmp .ge 13, 22, []), (.aload_n 0, 0, []), (.iload_n 3, 0, []), (.lload_n 1, 0, []), (.lastore, 0, []), (.iinc 3 1, 0, []), (.goto (-13), 6, [])]
  | 22 => [(.return_, 0, [])]
  | _ => []
def blk (y : Nat) : Nat → List Item := (bif Nat.ble y 168 then (bif Nat.ble y 84 then (bif Nat.ble y 42 then (bif Nat.ble y 21 then (bif Nat.ble y 10 then (bif Nat.ble y 5 then (bif Nat.ble y 2 then (bif Nat.ble y 1 then (bif Nat.ble y 0 then b_Ahead_in else b_Ahead_in) else b_Ahead_firstPause) else (bif Nat.ble y 4 then (bif Nat.ble y 3 then b_Ahead_firstPauseOf else b_Ahead_suffices) else b_Ahead_smallest)) else (bif Nat.ble y 8 then (bif Nat.ble y 7 then (bif Nat.ble y 6 then b_Ahead_easiest else b_Ahead_tryMinute) else b_Ahead_weigh) else (bif Nat.ble y 9 then b_Ahead_next else b_Ahead_ways))) else (bif Nat.ble y 16 then (bif Nat.ble y 13 then (bif Nat.ble y 12 then (bif Nat.ble y 11 then b_Ahead_waysFrom else b_Days_clear) else b_Days_copy) else (bif Nat.ble y 15 then (bif Nat.ble y 14 then b_Days_add else b_DaysReader_takes) else b_DaysReader_takesEnd)) else (bif Nat.ble y 19 then (bif Nat.ble y 18 then (bif Nat.ble y 17 then b_DaysReader_takesStep else b_DaysReader_addStep) else b_DaysReader_isStepWord) else (bif Nat.ble y 20 then b_DaysReader_takesTest else b_DaysReader_takesMonk)))) else (bif Nat.ble y 32 then (bif Nat.ble y 27 then (bif Nat.ble y 24 then (bif Nat.ble y 23 then (bif Nat.ble y 22 then b_DaysReader_takesNumber else b_House_clear) else b_House_copy) else (bif Nat.ble y 26 then (bif Nat.ble y 25 then b_House_addEntry else b_House_dropEntry) else b_House_mayTalk)) else (bif Nat.ble y 30 then (bif Nat.ble y 29 then (bif Nat.ble y 28 then b_House_open else b_House_canSay) else b_House_sayable) else (bif Nat.ble y 31 then b_House_speech else b_House_rosteredSpeech))) else (bif Nat.ble y 37 then (bif Nat.ble y 35 then (bif Nat.ble y 34 then (bif Nat.ble y 33 then b_House_helpingSpeech else b_House_pass) else b_House_passOne) else (bif Nat.ble y 36 then b_House_goBy else b_House_untilSilent)) else (bif Nat.ble y 40 then (bif Nat.ble y 39 then (bif Nat.ble y 38 then b_HouseReader_takes else b_HouseReader_takesPart) else b_HouseReader_takesTurn) else (bif Nat.ble y 41 then b_HouseReader_takesOdds else b_HouseReader_takesTopic))))) else (bif Nat.ble y 63 then (bif Nat.ble y 53 then (bif Nat.ble y 48 then (bif Nat.ble y 45 then (bif Nat.ble y 44 then (bif Nat.ble y 43 then b_HouseReader_takesMonk else b_HouseReader_takeNewName) else b_HouseReader_takesFollows) else (bif Nat.ble y 47 then (bif Nat.ble y 46 then b_HouseReader_takesRoster else b_HouseReader_takesHears) else b_Life_run)) else (bif Nat.ble y 51 then (bif Nat.ble y 50 then (bif Nat.ble y 49 then b_Life_behindEnd else b_Life_behindStep) else b_Life_miss) else (bif Nat.ble y 52 then b_Life_coughed else b_Life_draw))) else (bif Nat.ble y 58 then (bif Nat.ble y 56 then (bif Nat.ble y 55 then (bif Nat.ble y 54 then b_Life_holds else b_Life_compares) else b_Monks_clear) else (bif Nat.ble y 57 then b_Monks_copy else b_Monks_add)) else (bif Nat.ble y 61 then (bif Nat.ble y 60 then (bif Nat.ble y 59 then b_Monks_find else b_Monks_isAwake) else b_Monks_rouse) else (bif Nat.ble y 62 then b_Monks_lend else b_Monks_rested)))) else (bif Nat.ble y 74 then (bif Nat.ble y 69 then (bif Nat.ble y 66 then (bif Nat.ble y 65 then (bif Nat.ble y 64 then b_Monks_leastRested else b_Monks_keptApart) else b_Monks_pairs) else (bif Nat.ble y 68 then (bif Nat.ble y 67 then b_Talk_longest else b_Talk_goOn) else b_Talk_shortestRing)) else (bif Nat.ble y 72 then (bif Nat.ble y 71 then (bif Nat.ble y 70 then b_Talk_closes else b_Talk_behind) else b_Talk_winner) else (bif Nat.ble y 73 then b_Tape_put else b_Tape_begin))) else (bif Nat.ble y 79 then (bif Nat.ble y 77 then (bif Nat.ble y 76 then (bif Nat.ble y 75 then b_Tape_advance else b_Tape_readWord) else b_Tape_readNumber) else (bif Nat.ble y 78 then b_Tape_readSign else b_Tape_fail)) else (bif Nat.ble y 82 then (bif Nat.ble y 81 then (bif Nat.ble y 80 then b_Tape_isName else b_Tape_skipWord) else b_Tape_skipSemicolon) else (bif Nat.ble y 83 then b_Tape_skipName else b_Tape_takeCompare)))))) else (bif Nat.ble y 126 then (bif Nat.ble y 105 then (bif Nat.ble y 95 then (bif Nat.ble y 90 then (bif Nat.ble y 87 then (bif Nat.ble y 86 then (bif Nat.ble y 85 then b_Tape_takeNumber else b_Topics_copy) else b_Topics_add) else (bif Nat.ble y 89 then (bif Nat.ble y 88 then b_Topics_find else b_Topics_before) else b_Topics_costingAtMost)) else (bif Nat.ble y 93 then (bif Nat.ble y 92 then (bif Nat.ble y 91 then b_Topics_firstCosting else b_Tray_lay) else b_Tray_holds) else (bif Nat.ble y 94 then b_Tray_put else b_Tray_cut))) else (bif Nat.ble y 100 then (bif Nat.ble y 98 then (bif Nat.ble y 97 then (bif Nat.ble y 96 then b_x_status else b_x_top) else b_x_bottom) else (bif Nat.ble y 99 then b_x_tray else b_x_write)) else (bif Nat.ble y 103 then (bif Nat.ble y 102 then (bif Nat.ble y 101 then b_x_read else b_x_pour) else b_x_feed) else (bif Nat.ble y 104 then b_x_house else b_x_days)))) else (bif Nat.ble y 116 then (bif Nat.ble y 111 then (bif Nat.ble y 108 then (bif Nat.ble y 107 then (bif Nat.ble y 106 then b_x_fault else b_x_told) else b_x_topic) else (bif Nat.ble y 110 then (bif Nat.ble y 109 then b_x_monk else b_x_entry) else b_x_silent)) else (bif Nat.ble y 114 then (bif Nat.ble y 113 then (bif Nat.ble y 112 then b_x_last else b_x_minute) else b_x_change) else (bif Nat.ble y 115 then b_x_wake else b_x_follow))) else (bif Nat.ble y 121 then (bif Nat.ble y 119 then (bif Nat.ble y 118 then (bif Nat.ble y 117 then b_x_hear else b_x_enter) else b_x_strike) else (bif Nat.ble y 120 then b_x_breathe else b_x_price)) else (bif Nat.ble y 124 then (bif Nat.ble y 123 then (bif Nat.ble y 122 then b_x_rule else b_x_can) else b_x_topics) else (bif Nat.ble y 125 then b_x_speakers else b_x_speaker))))) else (bif Nat.ble y 147 then (bif Nat.ble y 137 then (bif Nat.ble y 132 then (bif Nat.ble y 129 then (bif Nat.ble y 128 then (bif Nat.ble y 127 then b_x_spoken else b_x_speakerIn) else b_x_breathIn) else (bif Nat.ble y 131 then (bif Nat.ble y 130 then b_x_pauseIn else b_x_pausesIn) else b_x_turnIn)) else (bif Nat.ble y 135 then (bif Nat.ble y 134 then (bif Nat.ble y 133 then b_x_unfair else b_x_enough) else b_x_fewest) else (bif Nat.ble y 136 then b_x_fewestSet else b_x_shift))) else (bif Nat.ble y 142 then (bif Nat.ble y 140 then (bif Nat.ble y 139 then (bif Nat.ble y 138 then b_x_shiftAt else b_x_talk) else b_x_talkAt) else (bif Nat.ble y 141 then b_x_ring else b_x_ringAt)) else (bif Nat.ble y 145 then (bif Nat.ble y 144 then (bif Nat.ble y 143 then b_x_reach else b_x_wins) else b_x_best) else (bif Nat.ble y 146 then b_x_heard else b_x_sure)))) else (bif Nat.ble y 158 then (bif Nat.ble y 153 then (bif Nat.ble y 150 then (bif Nat.ble y 149 then (bif Nat.ble y 148 then b_x_couples else b_x_allRead) else b_x_coughs) else (bif Nat.ble y 152 then (bif Nat.ble y 151 then b_x_copyBreath else b_x_live) else b_x_lived)) else (bif Nat.ble y 156 then (bif Nat.ble y 155 then (bif Nat.ble y 154 then b_x_mean else b_x_mark) else b_x_undo) else (bif Nat.ble y 157 then b_x_give else b_x_giveOrNone))) else (bif Nat.ble y 163 then (bif Nat.ble y 161 then (bif Nat.ble y 160 then (bif Nat.ble y 159 then b_x_none else b_x_agree) else b_x_refuse) else (bif Nat.ble y 162 then b_x_isTray else b_x_isTopic)) else (bif Nat.ble y 166 then (bif Nat.ble y 165 then (bif Nat.ble y 164 then b_x_isMonk else b_x_isSet) else b_x_placeStatus) else (bif Nat.ble y 167 then b_x_heardStatus else b_x_weighCoughs))))))) else (bif Nat.ble y 252 then (bif Nat.ble y 210 then (bif Nat.ble y 189 then (bif Nat.ble y 179 then (bif Nat.ble y 174 then (bif Nat.ble y 171 then (bif Nat.ble y 170 then (bif Nat.ble y 169 then b_x_tellFraction else b_x_commonDivisor) else b_x_within) else (bif Nat.ble y 173 then (bif Nat.ble y 172 then b_x_truth else b_x_has) else b_x_with)) else (bif Nat.ble y 177 then (bif Nat.ble y 176 then (bif Nat.ble y 175 then b_x_leastOf else b_x_onlyOneOf) else b_x_speechOf) else (bif Nat.ble y 178 then b_x_monkOf else b_x_topicOf))) else (bif Nat.ble y 184 then (bif Nat.ble y 182 then (bif Nat.ble y 181 then (bif Nat.ble y 180 then b_m_plain else b_m_status) else b_m_top) else (bif Nat.ble y 183 then b_m_bottom else b_m_is)) else (bif Nat.ble y 187 then (bif Nat.ble y 186 then (bif Nat.ble y 185 then b_m_refuse else b_m_gives) else b_m_orNone) else (bif Nat.ble y 188 then b_m_tellsBy else b_m_isTray)))) else (bif Nat.ble y 200 then (bif Nat.ble y 195 then (bif Nat.ble y 192 then (bif Nat.ble y 191 then (bif Nat.ble y 190 then b_m_cut else b_m_tray) else b_m_wrongPlace) else (bif Nat.ble y 194 then (bif Nat.ble y 193 then b_m_write else b_m_read) else b_m_pour)) else (bif Nat.ble y 198 then (bif Nat.ble y 197 then (bif Nat.ble y 196 then b_m_isFrom else b_m_feed) else b_m_four) else (bif Nat.ble y 199 then b_m_byteAt else b_m_isSmall))) else (bif Nat.ble y 205 then (bif Nat.ble y 203 then (bif Nat.ble y 202 then (bif Nat.ble y 201 then b_m_isDigit else b_m_ahead) else b_m_isSign) else (bif Nat.ble y 204 then b_m_inWords else b_m_fails)) else (bif Nat.ble y 208 then (bif Nat.ble y 207 then (bif Nat.ble y 206 then b_m_begins else b_m_wantSign) else b_m_wantWord) else (bif Nat.ble y 209 then b_m_number else b_m_isName))))) else (bif Nat.ble y 231 then (bif Nat.ble y 221 then (bif Nat.ble y 216 then (bif Nat.ble y 213 then (bif Nat.ble y 212 then (bif Nat.ble y 211 then b_m_nameHere else b_m_findHere) else b_m_fault) else (bif Nat.ble y 215 then (bif Nat.ble y 214 then b_m_taken else b_m_isThere) else b_m_newOne)) else (bif Nat.ble y 219 then (bif Nat.ble y 218 then (bif Nat.ble y 217 then b_m_oldOne else b_m_newTopicTo) else b_m_newMonkTo) else (bif Nat.ble y 220 then b_m_aTopic else b_m_aMonk))) else (bif Nat.ble y 226 then (bif Nat.ble y 224 then (bif Nat.ble y 223 then (bif Nat.ble y 222 then b_m_aFollowing else b_m_anEntry) else b_m_aHearing) else (bif Nat.ble y 225 then b_m_housePart else b_m_house)) else (bif Nat.ble y 229 then (bif Nat.ble y 228 then (bif Nat.ble y 227 then b_m_monkTo else b_m_test) else b_m_dayOrder) else (bif Nat.ble y 230 then b_m_dayStep else b_m_days)))) else (bif Nat.ble y 242 then (bif Nat.ble y 237 then (bif Nat.ble y 234 then (bif Nat.ble y 233 then (bif Nat.ble y 232 then b_m_topicRow else b_m_monkRow) else b_m_entryRow) else (bif Nat.ble y 236 then (bif Nat.ble y 235 then b_m_isTopic else b_m_isMonk) else b_m_isEntry)) else (bif Nat.ble y 240 then (bif Nat.ble y 239 then (bif Nat.ble y 238 then b_m_areMonks else b_m_isIn) else b_m_bits) else (bif Nat.ble y 241 then b_m_monkOf else b_m_costOf))) else (bif Nat.ble y 247 then (bif Nat.ble y 245 then (bif Nat.ble y 244 then (bif Nat.ble y 243 then b_m_nextOf else b_m_awake) else b_m_aheadOf) else (bif Nat.ble y 246 then b_m_told else b_m_topic)) else (bif Nat.ble y 250 then (bif Nat.ble y 249 then (bif Nat.ble y 248 then b_m_monk else b_m_entry) else b_m_silent) else (bif Nat.ble y 251 then b_m_last else b_m_doesFollow)))))) else (bif Nat.ble y 294 then (bif Nat.ble y 273 then (bif Nat.ble y 263 then (bif Nat.ble y 258 then (bif Nat.ble y 255 then (bif Nat.ble y 254 then (bif Nat.ble y 253 then b_m_canSay else b_m_topicsOf) else b_m_can) else (bif Nat.ble y 257 then (bif Nat.ble y 256 then b_m_topics else b_m_speakers) else b_m_laysSpeaker)) else (bif Nat.ble y 261 then (bif Nat.ble y 260 then (bif Nat.ble y 259 then b_m_speaker else b_m_spoken) else b_m_saysBy) else (bif Nat.ble y 262 then b_m_minuteGoes else b_m_minutesGo))) else (bif Nat.ble y 268 then (bif Nat.ble y 266 then (bif Nat.ble y 265 then (bif Nat.ble y 264 then b_m_minute else b_m_changes) else b_m_change) else (bif Nat.ble y 267 then b_m_wakes else b_m_wake)) else (bif Nat.ble y 271 then (bif Nat.ble y 270 then (bif Nat.ble y 269 then b_m_follow else b_m_hear) else b_m_enter) else (bif Nat.ble y 272 then b_m_strike else b_m_breathe)))) else (bif Nat.ble y 284 then (bif Nat.ble y 279 then (bif Nat.ble y 276 then (bif Nat.ble y 275 then (bif Nat.ble y 274 then b_m_price else b_m_rule) else b_m_keeps) else (bif Nat.ble y 278 then (bif Nat.ble y 277 then b_m_restores else b_m_isSpan) else b_m_speakerIn)) else (bif Nat.ble y 282 then (bif Nat.ble y 281 then (bif Nat.ble y 280 then b_m_breathIn else b_m_firstPause) else b_m_pauseIn) else (bif Nat.ble y 283 then b_m_pausesIn else b_m_turnIn))) else (bif Nat.ble y 289 then (bif Nat.ble y 287 then (bif Nat.ble y 286 then (bif Nat.ble y 285 then b_m_unfair else b_m_areEnough) else b_m_isShort) else (bif Nat.ble y 288 then b_m_enough else b_m_fewestOf)) else (bif Nat.ble y 292 then (bif Nat.ble y 291 then (bif Nat.ble y 290 then b_m_fewest else b_m_fewestSet) else b_m_levelAt) else (bif Nat.ble y 293 then b_m_leastBreath else b_m_shifting))))) else (bif Nat.ble y 315 then (bif Nat.ble y 305 then (bif Nat.ble y 300 then (bif Nat.ble y 297 then (bif Nat.ble y 296 then (bif Nat.ble y 295 then b_m_shift else b_m_shiftAt) else b_m_laysTalk) else (bif Nat.ble y 299 then (bif Nat.ble y 298 then b_m_talkFrom else b_m_talk) else b_m_talkAt)) else (bif Nat.ble y 303 then (bif Nat.ble y 302 then (bif Nat.ble y 301 then b_m_laysFar else b_m_nearest) else b_m_laysRing) else (bif Nat.ble y 304 then b_m_ring else b_m_ringAt))) else (bif Nat.ble y 310 then (bif Nat.ble y 308 then (bif Nat.ble y 307 then (bif Nat.ble y 306 then b_m_reach else b_m_wins) else b_m_best) else (bif Nat.ble y 309 then b_m_wrongHeard else b_m_counts)) else (bif Nat.ble y 313 then (bif Nat.ble y 312 then (bif Nat.ble y 311 then b_m_laysHeard else b_m_heard) else b_m_sure) else (bif Nat.ble y 314 then b_m_couplesOf else b_m_couples)))) else (bif Nat.ble y 326 then (bif Nat.ble y 321 then (bif Nat.ble y 318 then (bif Nat.ble y 317 then (bif Nat.ble y 316 then b_m_allRead else b_m_coughs) else b_m_copyBreath) else (bif Nat.ble y 320 then (bif Nat.ble y 319 then b_m_draw else b_m_minutesBy) else b_m_coughsAny)) else (bif Nat.ble y 324 then (bif Nat.ble y 323 then (bif Nat.ble y 322 then b_m_does else b_m_holds) else b_m_behindEnds) else (bif Nat.ble y 325 then b_m_lives else b_m_live))) else (bif Nat.ble y 331 then (bif Nat.ble y 329 then (bif Nat.ble y 328 then (bif Nat.ble y 327 then b_m_lived else b_m_mean) else b_m_copies) else (bif Nat.ble y 330 then b_m_mark else b_m_undo)) else (bif Nat.ble y 334 then (bif Nat.ble y 333 then (bif Nat.ble y 332 then b_Integer_bitCount else b_Math_floorMod) else b_Math_max) else (bif Nat.ble y 335 then b_Math_min else b_Arrays_fill))))))))
def mxl (y : Nat) : Nat := (bif Nat.ble y 168 then (bif Nat.ble y 84 then (bif Nat.ble y 42 then (bif Nat.ble y 21 then (bif Nat.ble y 10 then (bif Nat.ble y 5 then (bif Nat.ble y 2 then (bif Nat.ble y 1 then (bif Nat.ble y 0 then 3 else 3) else 3) else (bif Nat.ble y 4 then (bif Nat.ble y 3 then 3 else 5) else 6)) else (bif Nat.ble y 8 then (bif Nat.ble y 7 then (bif Nat.ble y 6 then 3 else 8) else 2) else (bif Nat.ble y 9 then 4 else 6))) else (bif Nat.ble y 16 then (bif Nat.ble y 13 then (bif Nat.ble y 12 then (bif Nat.ble y 11 then 7 else 1) else 2) else (bif Nat.ble y 15 then (bif Nat.ble y 14 then 2 else 4) else 3)) else (bif Nat.ble y 19 then (bif Nat.ble y 18 then (bif Nat.ble y 17 then 3 else 5) else 1) else (bif Nat.ble y 20 then 3 else 2)))) else (bif Nat.ble y 32 then (bif Nat.ble y 27 then (bif Nat.ble y 24 then (bif Nat.ble y 23 then (bif Nat.ble y 22 then 4 else 1) else 2) else (bif Nat.ble y 26 then (bif Nat.ble y 25 then 3 else 3) else 2)) else (bif Nat.ble y 30 then (bif Nat.ble y 29 then (bif Nat.ble y 28 then 1 else 3) else 2) else (bif Nat.ble y 31 then 2 else 4))) else (bif Nat.ble y 37 then (bif Nat.ble y 35 then (bif Nat.ble y 34 then (bif Nat.ble y 33 then 3 else 4) else 2) else (bif Nat.ble y 36 then 4 else 3)) else (bif Nat.ble y 40 then (bif Nat.ble y 39 then (bif Nat.ble y 38 then 3 else 1) else 2) else (bif Nat.ble y 41 then 2 else 4))))) else (bif Nat.ble y 63 then (bif Nat.ble y 53 then (bif Nat.ble y 48 then (bif Nat.ble y 45 then (bif Nat.ble y 44 then (bif Nat.ble y 43 then 6 else 3) else 3) else (bif Nat.ble y 47 then (bif Nat.ble y 46 then 3 else 3) else 6)) else (bif Nat.ble y 51 then (bif Nat.ble y 50 then (bif Nat.ble y 49 then 3 else 4) else 2) else (bif Nat.ble y 52 then 3 else 2))) else (bif Nat.ble y 58 then (bif Nat.ble y 56 then (bif Nat.ble y 55 then (bif Nat.ble y 54 then 3 else 3) else 1) else (bif Nat.ble y 57 then 2 else 6)) else (bif Nat.ble y 61 then (bif Nat.ble y 60 then (bif Nat.ble y 59 then 4 else 2) else 3) else (bif Nat.ble y 62 then 4 else 4)))) else (bif Nat.ble y 74 then (bif Nat.ble y 69 then (bif Nat.ble y 66 then (bif Nat.ble y 65 then (bif Nat.ble y 64 then 5 else 4) else 6) else (bif Nat.ble y 68 then (bif Nat.ble y 67 then 3 else 8) else 4)) else (bif Nat.ble y 72 then (bif Nat.ble y 71 then (bif Nat.ble y 70 then 6 else 5) else 5) else (bif Nat.ble y 73 then 3 else 2))) else (bif Nat.ble y 79 then (bif Nat.ble y 77 then (bif Nat.ble y 76 then (bif Nat.ble y 75 then 1 else 4) else 1) else (bif Nat.ble y 78 then 3 else 2)) else (bif Nat.ble y 82 then (bif Nat.ble y 81 then (bif Nat.ble y 80 then 1 else 2) else 1) else (bif Nat.ble y 83 then 2 else 2)))))) else (bif Nat.ble y 126 then (bif Nat.ble y 105 then (bif Nat.ble y 95 then (bif Nat.ble y 90 then (bif Nat.ble y 87 then (bif Nat.ble y 86 then (bif Nat.ble y 85 then 4 else 2) else 4) else (bif Nat.ble y 89 then (bif Nat.ble y 88 then 4 else 4) else 5)) else (bif Nat.ble y 93 then (bif Nat.ble y 92 then (bif Nat.ble y 91 then 4 else 3) else 3) else (bif Nat.ble y 94 then 4 else 3))) else (bif Nat.ble y 100 then (bif Nat.ble y 98 then (bif Nat.ble y 97 then (bif Nat.ble y 96 then 1 else 1) else 1) else (bif Nat.ble y 99 then 4 else 6)) else (bif Nat.ble y 103 then (bif Nat.ble y 102 then (bif Nat.ble y 101 then 4 else 8) else 6) else (bif Nat.ble y 104 then 3 else 3)))) else (bif Nat.ble y 116 then (bif Nat.ble y 111 then (bif Nat.ble y 108 then (bif Nat.ble y 107 then (bif Nat.ble y 106 then 2 else 2) else 3) else (bif Nat.ble y 110 then (bif Nat.ble y 109 then 3 else 3) else 1)) else (bif Nat.ble y 114 then (bif Nat.ble y 113 then (bif Nat.ble y 112 then 1 else 2) else 3) else (bif Nat.ble y 115 then 3 else 4))) else (bif Nat.ble y 121 then (bif Nat.ble y 119 then (bif Nat.ble y 118 then (bif Nat.ble y 117 then 4 else 3) else 2) else (bif Nat.ble y 120 then 3 else 3)) else (bif Nat.ble y 124 then (bif Nat.ble y 123 then (bif Nat.ble y 122 then 3 else 3) else 2) else (bif Nat.ble y 125 then 4 else 1))))) else (bif Nat.ble y 147 then (bif Nat.ble y 137 then (bif Nat.ble y 132 then (bif Nat.ble y 129 then (bif Nat.ble y 128 then (bif Nat.ble y 127 then 1 else 2) else 3) else (bif Nat.ble y 131 then (bif Nat.ble y 130 then 1 else 2) else 2)) else (bif Nat.ble y 135 then (bif Nat.ble y 134 then (bif Nat.ble y 133 then 1 else 3) else 3) else (bif Nat.ble y 136 then 2 else 2))) else (bif Nat.ble y 142 then (bif Nat.ble y 140 then (bif Nat.ble y 139 then (bif Nat.ble y 138 then 5 else 2) else 3) else (bif Nat.ble y 141 then 1 else 2)) else (bif Nat.ble y 145 then (bif Nat.ble y 144 then (bif Nat.ble y 143 then 2 else 2) else 2) else (bif Nat.ble y 146 then 4 else 5)))) else (bif Nat.ble y 158 then (bif Nat.ble y 153 then (bif Nat.ble y 150 then (bif Nat.ble y 149 then (bif Nat.ble y 148 then 2 else 2) else 7) else (bif Nat.ble y 152 then (bif Nat.ble y 151 then 3 else 2) else 2)) else (bif Nat.ble y 156 then (bif Nat.ble y 155 then (bif Nat.ble y 154 then 7 else 1) else 1) else (bif Nat.ble y 157 then 2 else 2))) else (bif Nat.ble y 163 then (bif Nat.ble y 161 then (bif Nat.ble y 160 then (bif Nat.ble y 159 then 2 else 1) else 2) else (bif Nat.ble y 162 then 2 else 2)) else (bif Nat.ble y 166 then (bif Nat.ble y 165 then (bif Nat.ble y 164 then 2 else 2) else 3) else (bif Nat.ble y 167 then 6 else 3))))))) else (bif Nat.ble y 252 then (bif Nat.ble y 210 then (bif Nat.ble y 189 then (bif Nat.ble y 179 then (bif Nat.ble y 174 then (bif Nat.ble y 171 then (bif Nat.ble y 170 then (bif Nat.ble y 169 then 7 else 11) else 3) else (bif Nat.ble y 173 then (bif Nat.ble y 172 then 1 else 2) else 3)) else (bif Nat.ble y 177 then (bif Nat.ble y 176 then (bif Nat.ble y 175 then 2 else 1) else 2) else (bif Nat.ble y 178 then 1 else 1))) else (bif Nat.ble y 184 then (bif Nat.ble y 182 then (bif Nat.ble y 181 then (bif Nat.ble y 180 then 3 else 1) else 1) else (bif Nat.ble y 183 then 1 else 2)) else (bif Nat.ble y 187 then (bif Nat.ble y 186 then (bif Nat.ble y 185 then 2 else 2) else 2) else (bif Nat.ble y 188 then 11 else 1)))) else (bif Nat.ble y 200 then (bif Nat.ble y 195 then (bif Nat.ble y 192 then (bif Nat.ble y 191 then (bif Nat.ble y 190 then 3 else 5) else 3) else (bif Nat.ble y 194 then (bif Nat.ble y 193 then 6 else 3) else 8)) else (bif Nat.ble y 198 then (bif Nat.ble y 197 then (bif Nat.ble y 196 then 6 else 6) else 3) else (bif Nat.ble y 199 then 2 else 1))) else (bif Nat.ble y 205 then (bif Nat.ble y 203 then (bif Nat.ble y 202 then (bif Nat.ble y 201 then 1 else 2) else 2) else (bif Nat.ble y 204 then 7 else 2)) else (bif Nat.ble y 208 then (bif Nat.ble y 207 then (bif Nat.ble y 206 then 4 else 2) else 3) else (bif Nat.ble y 209 then 4 else 2))))) else (bif Nat.ble y 231 then (bif Nat.ble y 221 then (bif Nat.ble y 216 then (bif Nat.ble y 213 then (bif Nat.ble y 212 then (bif Nat.ble y 211 then 4 else 4) else 2) else (bif Nat.ble y 215 then (bif Nat.ble y 214 then 2 else 2) else 4)) else (bif Nat.ble y 219 then (bif Nat.ble y 218 then (bif Nat.ble y 217 then 4 else 2) else 2) else (bif Nat.ble y 220 then 2 else 2))) else (bif Nat.ble y 226 then (bif Nat.ble y 224 then (bif Nat.ble y 223 then (bif Nat.ble y 222 then 2 else 2) else 2) else (bif Nat.ble y 225 then 3 else 4)) else (bif Nat.ble y 229 then (bif Nat.ble y 228 then (bif Nat.ble y 227 then 2 else 3) else 3) else (bif Nat.ble y 230 then 6 else 4)))) else (bif Nat.ble y 242 then (bif Nat.ble y 237 then (bif Nat.ble y 234 then (bif Nat.ble y 233 then (bif Nat.ble y 232 then 1 else 1) else 1) else (bif Nat.ble y 236 then (bif Nat.ble y 235 then 3 else 2) else 2)) else (bif Nat.ble y 240 then (bif Nat.ble y 239 then (bif Nat.ble y 238 then 2 else 3) else 3) else (bif Nat.ble y 241 then 3 else 2))) else (bif Nat.ble y 247 then (bif Nat.ble y 245 then (bif Nat.ble y 244 then (bif Nat.ble y 243 then 2 else 3) else 4) else (bif Nat.ble y 246 then 2 else 3)) else (bif Nat.ble y 250 then (bif Nat.ble y 249 then (bif Nat.ble y 248 then 3 else 3) else 1) else (bif Nat.ble y 251 then 1 else 2)))))) else (bif Nat.ble y 294 then (bif Nat.ble y 273 then (bif Nat.ble y 263 then (bif Nat.ble y 258 then (bif Nat.ble y 255 then (bif Nat.ble y 254 then (bif Nat.ble y 253 then 3 else 4) else 3) else (bif Nat.ble y 257 then (bif Nat.ble y 256 then 2 else 4) else 3)) else (bif Nat.ble y 261 then (bif Nat.ble y 260 then (bif Nat.ble y 259 then 1 else 1) else 5) else (bif Nat.ble y 262 then 1 else 4))) else (bif Nat.ble y 268 then (bif Nat.ble y 266 then (bif Nat.ble y 265 then (bif Nat.ble y 264 then 2 else 3) else 3) else (bif Nat.ble y 267 then 4 else 3)) else (bif Nat.ble y 271 then (bif Nat.ble y 270 then (bif Nat.ble y 269 then 4 else 4) else 4) else (bif Nat.ble y 272 then 3 else 3)))) else (bif Nat.ble y 284 then (bif Nat.ble y 279 then (bif Nat.ble y 276 then (bif Nat.ble y 275 then (bif Nat.ble y 274 then 3 else 3) else 3) else (bif Nat.ble y 278 then (bif Nat.ble y 277 then 3 else 1) else 2)) else (bif Nat.ble y 282 then (bif Nat.ble y 281 then (bif Nat.ble y 280 then 4 else 4) else 1) else (bif Nat.ble y 283 then 3 else 4))) else (bif Nat.ble y 289 then (bif Nat.ble y 287 then (bif Nat.ble y 286 then (bif Nat.ble y 285 then 4 else 4) else 1) else (bif Nat.ble y 288 then 3 else 4)) else (bif Nat.ble y 292 then (bif Nat.ble y 291 then (bif Nat.ble y 290 then 3 else 2) else 1) else (bif Nat.ble y 293 then 3 else 6))))) else (bif Nat.ble y 315 then (bif Nat.ble y 305 then (bif Nat.ble y 300 then (bif Nat.ble y 297 then (bif Nat.ble y 296 then (bif Nat.ble y 295 then 2 else 4) else 6) else (bif Nat.ble y 299 then (bif Nat.ble y 298 then 2 else 2) else 8)) else (bif Nat.ble y 303 then (bif Nat.ble y 302 then (bif Nat.ble y 301 then 4 else 4) else 3) else (bif Nat.ble y 304 then 1 else 5))) else (bif Nat.ble y 310 then (bif Nat.ble y 308 then (bif Nat.ble y 307 then (bif Nat.ble y 306 then 5 else 2) else 3) else (bif Nat.ble y 309 then 4 else 3)) else (bif Nat.ble y 313 then (bif Nat.ble y 312 then (bif Nat.ble y 311 then 5 else 4) else 5) else (bif Nat.ble y 314 then 5 else 2)))) else (bif Nat.ble y 326 then (bif Nat.ble y 321 then (bif Nat.ble y 318 then (bif Nat.ble y 317 then (bif Nat.ble y 316 then 2 else 8) else 3) else (bif Nat.ble y 320 then (bif Nat.ble y 319 then 2 else 3) else 2)) else (bif Nat.ble y 324 then (bif Nat.ble y 323 then (bif Nat.ble y 322 then 3 else 4) else 5) else (bif Nat.ble y 325 then 4 else 3))) else (bif Nat.ble y 331 then (bif Nat.ble y 329 then (bif Nat.ble y 328 then (bif Nat.ble y 327 then 2 else 6) else 4) else (bif Nat.ble y 330 then 1 else 1)) else (bif Nat.ble y 334 then (bif Nat.ble y 333 then (bif Nat.ble y 332 then 1 else 3) else 2) else (bif Nat.ble y 335 then 2 else 5))))))))
/-- a method is done by its blocks, its calls a level below -/
def RuleAll (CALL : Nat → Nat → List AV → AM → (AV → AM → Prop) → Prop) : Prop := ∀ (r y : Nat) (args : List AV) (σ : AM) (K : AV → AM → Prop), (∀ J : Nat → List AV → List AV → AM → Prop, (∀ pc lv st σ, wpb (CALL r) K J (blk y pc) lv st σ → J pc lv st σ) → J 0 (ent (mxl y) args) [] σ) → CALL (r + 1) y args σ K
end
section
theorem r_Ahead_in {CALL : Nat → Nat → List AV → AM → (AV → AM → Prop) → Prop} (hC : RuleAll CALL) {r : Nat} {args : List AV} {σ : AM} {K : AV → AM → Prop} (h : ∀ J : Nat → List AV → List AV → AM → Prop, (∀ pc lv st σ, wpb (CALL r) K J (b_Ahead_in pc) lv st σ → J pc lv st σ) → J 0 (ent 3 args) [] σ) : CALL (r + 1) 1 args σ K := hC r 1 args σ K h
theorem r_Ahead_firstPause {CALL : Nat → Nat → List AV → AM → (AV → AM → Prop) → Prop} (hC : RuleAll CALL) {r : Nat} {args : List AV} {σ : AM} {K : AV → AM → Prop} (h : ∀ J : Nat → List AV → List AV → AM → Prop, (∀ pc lv st σ, wpb (CALL r) K J (b_Ahead_firstPause pc) lv st σ → J pc lv st σ) → J 0 (ent 3 args) [] σ) : CALL (r + 1) 2 args σ K := hC r 2 args σ K h
theorem r_Ahead_firstPauseOf {CALL : Nat → Nat → List AV → AM → (AV → AM → Prop) → Prop} (hC : RuleAll CALL) {r : Nat} {args : List AV} {σ : AM} {K : AV → AM → Prop} (h : ∀ J : Nat → List AV → List AV → AM → Prop, (∀ pc lv st σ, wpb (CALL r) K J (b_Ahead_firstPauseOf pc) lv st σ → J pc lv st σ) → J 0 (ent 3 args) [] σ) : CALL (r + 1) 3 args σ K := hC r 3 args σ K h
theorem r_Ahead_suffices {CALL : Nat → Nat → List AV → AM → (AV → AM → Prop) → Prop} (hC : RuleAll CALL) {r : Nat} {args : List AV} {σ : AM} {K : AV → AM → Prop} (h : ∀ J : Nat → List AV → List AV → AM → Prop, (∀ pc lv st σ, wpb (CALL r) K J (b_Ahead_suffices pc) lv st σ → J pc lv st σ) → J 0 (ent 5 args) [] σ) : CALL (r + 1) 4 args σ K := hC r 4 args σ K h
theorem r_Ahead_smallest {CALL : Nat → Nat → List AV → AM → (AV → AM → Prop) → Prop} (hC : RuleAll CALL) {r : Nat} {args : List AV} {σ : AM} {K : AV → AM → Prop} (h : ∀ J : Nat → List AV → List AV → AM → Prop, (∀ pc lv st σ, wpb (CALL r) K J (b_Ahead_smallest pc) lv st σ → J pc lv st σ) → J 0 (ent 6 args) [] σ) : CALL (r + 1) 5 args σ K := hC r 5 args σ K h
theorem r_Ahead_easiest {CALL : Nat → Nat → List AV → AM → (AV → AM → Prop) → Prop} (hC : RuleAll CALL) {r : Nat} {args : List AV} {σ : AM} {K : AV → AM → Prop} (h : ∀ J : Nat → List AV → List AV → AM → Prop, (∀ pc lv st σ, wpb (CALL r) K J (b_Ahead_easiest pc) lv st σ → J pc lv st σ) → J 0 (ent 3 args) [] σ) : CALL (r + 1) 6 args σ K := hC r 6 args σ K h
theorem r_Ahead_tryMinute {CALL : Nat → Nat → List AV → AM → (AV → AM → Prop) → Prop} (hC : RuleAll CALL) {r : Nat} {args : List AV} {σ : AM} {K : AV → AM → Prop} (h : ∀ J : Nat → List AV → List AV → AM → Prop, (∀ pc lv st σ, wpb (CALL r) K J (b_Ahead_tryMinute pc) lv st σ → J pc lv st σ) → J 0 (ent 8 args) [] σ) : CALL (r + 1) 7 args σ K := hC r 7 args σ K h
theorem r_Ahead_weigh {CALL : Nat → Nat → List AV → AM → (AV → AM → Prop) → Prop} (hC : RuleAll CALL) {r : Nat} {args : List AV} {σ : AM} {K : AV → AM → Prop} (h : ∀ J : Nat → List AV → List AV → AM → Prop, (∀ pc lv st σ, wpb (CALL r) K J (b_Ahead_weigh pc) lv st σ → J pc lv st σ) → J 0 (ent 2 args) [] σ) : CALL (r + 1) 8 args σ K := hC r 8 args σ K h
theorem r_Ahead_next {CALL : Nat → Nat → List AV → AM → (AV → AM → Prop) → Prop} (hC : RuleAll CALL) {r : Nat} {args : List AV} {σ : AM} {K : AV → AM → Prop} (h : ∀ J : Nat → List AV → List AV → AM → Prop, (∀ pc lv st σ, wpb (CALL r) K J (b_Ahead_next pc) lv st σ → J pc lv st σ) → J 0 (ent 4 args) [] σ) : CALL (r + 1) 9 args σ K := hC r 9 args σ K h
theorem r_Ahead_ways {CALL : Nat → Nat → List AV → AM → (AV → AM → Prop) → Prop} (hC : RuleAll CALL) {r : Nat} {args : List AV} {σ : AM} {K : AV → AM → Prop} (h : ∀ J : Nat → List AV → List AV → AM → Prop, (∀ pc lv st σ, wpb (CALL r) K J (b_Ahead_ways pc) lv st σ → J pc lv st σ) → J 0 (ent 6 args) [] σ) : CALL (r + 1) 10 args σ K := hC r 10 args σ K h
theorem r_Ahead_waysFrom {CALL : Nat → Nat → List AV → AM → (AV → AM → Prop) → Prop} (hC : RuleAll CALL) {r : Nat} {args : List AV} {σ : AM} {K : AV → AM → Prop} (h : ∀ J : Nat → List AV → List AV → AM → Prop, (∀ pc lv st σ, wpb (CALL r) K J (b_Ahead_waysFrom pc) lv st σ → J pc lv st σ) → J 0 (ent 7 args) [] σ) : CALL (r + 1) 11 args σ K := hC r 11 args σ K h
theorem r_Days_clear {CALL : Nat → Nat → List AV → AM → (AV → AM → Prop) → Prop} (hC : RuleAll CALL) {r : Nat} {args : List AV} {σ : AM} {K : AV → AM → Prop} (h : ∀ J : Nat → List AV → List AV → AM → Prop, (∀ pc lv st σ, wpb (CALL r) K J (b_Days_clear pc) lv st σ → J pc lv st σ) → J 0 (ent 1 args) [] σ) : CALL (r + 1) 12 args σ K := hC r 12 args σ K h
theorem r_Days_copy {CALL : Nat → Nat → List AV → AM → (AV → AM → Prop) → Prop} (hC : RuleAll CALL) {r : Nat} {args : List AV} {σ : AM} {K : AV → AM → Prop} (h : ∀ J : Nat → List AV → List AV → AM → Prop, (∀ pc lv st σ, wpb (CALL r) K J (b_Days_copy pc) lv st σ → J pc lv st σ) → J 0 (ent 2 args) [] σ) : CALL (r + 1) 13 args σ K := hC r 13 args σ K h
theorem r_Days_add {CALL : Nat → Nat → List AV → AM → (AV → AM → Prop) → Prop} (hC : RuleAll CALL) {r : Nat} {args : List AV} {σ : AM} {K : AV → AM → Prop} (h : ∀ J : Nat → List AV → List AV → AM → Prop, (∀ pc lv st σ, wpb (CALL r) K J (b_Days_add pc) lv st σ → J pc lv st σ) → J 0 (ent 2 args) [] σ) : CALL (r + 1) 14 args σ K := hC r 14 args σ K h
theorem r_DaysReader_takes {CALL : Nat → Nat → List AV → AM → (AV → AM → Prop) → Prop} (hC : RuleAll CALL) {r : Nat} {args : List AV} {σ : AM} {K : AV → AM → Prop} (h : ∀ J : Nat → List AV → List AV → AM → Prop, (∀ pc lv st σ, wpb (CALL r) K J (b_DaysReader_takes pc) lv st σ → J pc lv st σ) → J 0 (ent 4 args) [] σ) : CALL (r + 1) 15 args σ K := hC r 15 args σ K h
theorem r_DaysReader_takesEnd {CALL : Nat → Nat → List AV → AM → (AV → AM → Prop) → Prop} (hC : RuleAll CALL) {r : Nat} {args : List AV} {σ : AM} {K : AV → AM → Prop} (h : ∀ J : Nat → List AV → List AV → AM → Prop, (∀ pc lv st σ, wpb (CALL r) K J (b_DaysReader_takesEnd pc) lv st σ → J pc lv st σ) → J 0 (ent 3 args) [] σ) : CALL (r + 1) 16 args σ K := hC r 16 args σ K h
theorem r_DaysReader_takesStep {CALL : Nat → Nat → List AV → AM → (AV → AM → Prop) → Prop} (hC : RuleAll CALL) {r : Nat} {args : List AV} {σ : AM} {K : AV → AM → Prop} (h : ∀ J : Nat → List AV → List AV → AM → Prop, (∀ pc lv st σ, wpb (CALL r) K J (b_DaysReader_takesStep pc) lv st σ → J pc lv st σ) → J 0 (ent 3 args) [] σ) : CALL (r + 1) 17 args σ K := hC r 17 args σ K h
theorem r_DaysReader_addStep {CALL : Nat → Nat → List AV → AM → (AV → AM → Prop) → Prop} (hC : RuleAll CALL) {r : Nat} {args : List AV} {σ : AM} {K : AV → AM → Prop} (h : ∀ J : Nat → List AV → List AV → AM → Prop, (∀ pc lv st σ, wpb (CALL r) K J (b_DaysReader_addStep pc) lv st σ → J pc lv st σ) → J 0 (ent 5 args) [] σ) : CALL (r + 1) 18 args σ K := hC r 18 args σ K h
theorem r_DaysReader_isStepWord {CALL : Nat → Nat → List AV → AM → (AV → AM → Prop) → Prop} (hC : RuleAll CALL) {r : Nat} {args : List AV} {σ : AM} {K : AV → AM → Prop} (h : ∀ J : Nat → List AV → List AV → AM → Prop, (∀ pc lv st σ, wpb (CALL r) K J (b_DaysReader_isStepWord pc) lv st σ → J pc lv st σ) → J 0 (ent 1 args) [] σ) : CALL (r + 1) 19 args σ K := hC r 19 args σ K h
theorem r_DaysReader_takesTest {CALL : Nat → Nat → List AV → AM → (AV → AM → Prop) → Prop} (hC : RuleAll CALL) {r : Nat} {args : List AV} {σ : AM} {K : AV → AM → Prop} (h : ∀ J : Nat → List AV → List AV → AM → Prop, (∀ pc lv st σ, wpb (CALL r) K J (b_DaysReader_takesTest pc) lv st σ → J pc lv st σ) → J 0 (ent 3 args) [] σ) : CALL (r + 1) 20 args σ K := hC r 20 args σ K h
theorem r_DaysReader_takesMonk {CALL : Nat → Nat → List AV → AM → (AV → AM → Prop) → Prop} (hC : RuleAll CALL) {r : Nat} {args : List AV} {σ : AM} {K : AV → AM → Prop} (h : ∀ J : Nat → List AV → List AV → AM → Prop, (∀ pc lv st σ, wpb (CALL r) K J (b_DaysReader_takesMonk pc) lv st σ → J pc lv st σ) → J 0 (ent 2 args) [] σ) : CALL (r + 1) 21 args σ K := hC r 21 args σ K h
theorem r_DaysReader_takesNumber {CALL : Nat → Nat → List AV → AM → (AV → AM → Prop) → Prop} (hC : RuleAll CALL) {r : Nat} {args : List AV} {σ : AM} {K : AV → AM → Prop} (h : ∀ J : Nat → List AV → List AV → AM → Prop, (∀ pc lv st σ, wpb (CALL r) K J (b_DaysReader_takesNumber pc) lv st σ → J pc lv st σ) → J 0 (ent 4 args) [] σ) : CALL (r + 1) 22 args σ K := hC r 22 args σ K h
theorem r_House_clear {CALL : Nat → Nat → List AV → AM → (AV → AM → Prop) → Prop} (hC : RuleAll CALL) {r : Nat} {args : List AV} {σ : AM} {K : AV → AM → Prop} (h : ∀ J : Nat → List AV → List AV → AM → Prop, (∀ pc lv st σ, wpb (CALL r) K J (b_House_clear pc) lv st σ → J pc lv st σ) → J 0 (ent 1 args) [] σ) : CALL (r + 1) 23 args σ K := hC r 23 args σ K h
theorem r_House_copy {CALL : Nat → Nat → List AV → AM → (AV → AM → Prop) → Prop} (hC : RuleAll CALL) {r : Nat} {args : List AV} {σ : AM} {K : AV → AM → Prop} (h : ∀ J : Nat → List AV → List AV → AM → Prop, (∀ pc lv st σ, wpb (CALL r) K J (b_House_copy pc) lv st σ → J pc lv st σ) → J 0 (ent 2 args) [] σ) : CALL (r + 1) 24 args σ K := hC r 24 args σ K h
theorem r_House_addEntry {CALL : Nat → Nat → List AV → AM → (AV → AM → Prop) → Prop} (hC : RuleAll CALL) {r : Nat} {args : List AV} {σ : AM} {K : AV → AM → Prop} (h : ∀ J : Nat → List AV → List AV → AM → Prop, (∀ pc lv st σ, wpb (CALL r) K J (b_House_addEntry pc) lv st σ → J pc lv st σ) → J 0 (ent 3 args) [] σ) : CALL (r + 1) 25 args σ K := hC r 25 args σ K h
theorem r_House_dropEntry {CALL : Nat → Nat → List AV → AM → (AV → AM → Prop) → Prop} (hC : RuleAll CALL) {r : Nat} {args : List AV} {σ : AM} {K : AV → AM → Prop} (h : ∀ J : Nat → List AV → List AV → AM → Prop, (∀ pc lv st σ, wpb (CALL r) K J (b_House_dropEntry pc) lv st σ → J pc lv st σ) → J 0 (ent 3 args) [] σ) : CALL (r + 1) 26 args σ K := hC r 26 args σ K h
theorem r_House_mayTalk {CALL : Nat → Nat → List AV → AM → (AV → AM → Prop) → Prop} (hC : RuleAll CALL) {r : Nat} {args : List AV} {σ : AM} {K : AV → AM → Prop} (h : ∀ J : Nat → List AV → List AV → AM → Prop, (∀ pc lv st σ, wpb (CALL r) K J (b_House_mayTalk pc) lv st σ → J pc lv st σ) → J 0 (ent 2 args) [] σ) : CALL (r + 1) 27 args σ K := hC r 27 args σ K h
theorem r_House_open {CALL : Nat → Nat → List AV → AM → (AV → AM → Prop) → Prop} (hC : RuleAll CALL) {r : Nat} {args : List AV} {σ : AM} {K : AV → AM → Prop} (h : ∀ J : Nat → List AV → List AV → AM → Prop, (∀ pc lv st σ, wpb (CALL r) K J (b_House_open pc) lv st σ → J pc lv st σ) → J 0 (ent 1 args) [] σ) : CALL (r + 1) 28 args σ K := hC r 28 args σ K h
theorem r_House_canSay {CALL : Nat → Nat → List AV → AM → (AV → AM → Prop) → Prop} (hC : RuleAll CALL) {r : Nat} {args : List AV} {σ : AM} {K : AV → AM → Prop} (h : ∀ J : Nat → List AV → List AV → AM → Prop, (∀ pc lv st σ, wpb (CALL r) K J (b_House_canSay pc) lv st σ → J pc lv st σ) → J 0 (ent 3 args) [] σ) : CALL (r + 1) 29 args σ K := hC r 29 args σ K h
theorem r_House_sayable {CALL : Nat → Nat → List AV → AM → (AV → AM → Prop) → Prop} (hC : RuleAll CALL) {r : Nat} {args : List AV} {σ : AM} {K : AV → AM → Prop} (h : ∀ J : Nat → List AV → List AV → AM → Prop, (∀ pc lv st σ, wpb (CALL r) K J (b_House_sayable pc) lv st σ → J pc lv st σ) → J 0 (ent 2 args) [] σ) : CALL (r + 1) 30 args σ K := hC r 30 args σ K h
theorem r_House_speech {CALL : Nat → Nat → List AV → AM → (AV → AM → Prop) → Prop} (hC : RuleAll CALL) {r : Nat} {args : List AV} {σ : AM} {K : AV → AM → Prop} (h : ∀ J : Nat → List AV → List AV → AM → Prop, (∀ pc lv st σ, wpb (CALL r) K J (b_House_speech pc) lv st σ → J pc lv st σ) → J 0 (ent 2 args) [] σ) : CALL (r + 1) 31 args σ K := hC r 31 args σ K h
theorem r_House_rosteredSpeech {CALL : Nat → Nat → List AV → AM → (AV → AM → Prop) → Prop} (hC : RuleAll CALL) {r : Nat} {args : List AV} {σ : AM} {K : AV → AM → Prop} (h : ∀ J : Nat → List AV → List AV → AM → Prop, (∀ pc lv st σ, wpb (CALL r) K J (b_House_rosteredSpeech pc) lv st σ → J pc lv st σ) → J 0 (ent 4 args) [] σ) : CALL (r + 1) 32 args σ K := hC r 32 args σ K h
theorem r_House_helpingSpeech {CALL : Nat → Nat → List AV → AM → (AV → AM → Prop) → Prop} (hC : RuleAll CALL) {r : Nat} {args : List AV} {σ : AM} {K : AV → AM → Prop} (h : ∀ J : Nat → List AV → List AV → AM → Prop, (∀ pc lv st σ, wpb (CALL r) K J (b_House_helpingSpeech pc) lv st σ → J pc lv st σ) → J 0 (ent 3 args) [] σ) : CALL (r + 1) 33 args σ K := hC r 33 args σ K h
theorem r_House_pass {CALL : Nat → Nat → List AV → AM → (AV → AM → Prop) → Prop} (hC : RuleAll CALL) {r : Nat} {args : List AV} {σ : AM} {K : AV → AM → Prop} (h : ∀ J : Nat → List AV → List AV → AM → Prop, (∀ pc lv st σ, wpb (CALL r) K J (b_House_pass pc) lv st σ → J pc lv st σ) → J 0 (ent 4 args) [] σ) : CALL (r + 1) 34 args σ K := hC r 34 args σ K h
theorem r_House_passOne {CALL : Nat → Nat → List AV → AM → (AV → AM → Prop) → Prop} (hC : RuleAll CALL) {r : Nat} {args : List AV} {σ : AM} {K : AV → AM → Prop} (h : ∀ J : Nat → List AV → List AV → AM → Prop, (∀ pc lv st σ, wpb (CALL r) K J (b_House_passOne pc) lv st σ → J pc lv st σ) → J 0 (ent 2 args) [] σ) : CALL (r + 1) 35 args σ K := hC r 35 args σ K h
theorem r_House_goBy {CALL : Nat → Nat → List AV → AM → (AV → AM → Prop) → Prop} (hC : RuleAll CALL) {r : Nat} {args : List AV} {σ : AM} {K : AV → AM → Prop} (h : ∀ J : Nat → List AV → List AV → AM → Prop, (∀ pc lv st σ, wpb (CALL r) K J (b_House_goBy pc) lv st σ → J pc lv st σ) → J 0 (ent 4 args) [] σ) : CALL (r + 1) 36 args σ K := hC r 36 args σ K h
theorem r_House_untilSilent {CALL : Nat → Nat → List AV → AM → (AV → AM → Prop) → Prop} (hC : RuleAll CALL) {r : Nat} {args : List AV} {σ : AM} {K : AV → AM → Prop} (h : ∀ J : Nat → List AV → List AV → AM → Prop, (∀ pc lv st σ, wpb (CALL r) K J (b_House_untilSilent pc) lv st σ → J pc lv st σ) → J 0 (ent 3 args) [] σ) : CALL (r + 1) 37 args σ K := hC r 37 args σ K h
theorem r_HouseReader_takes {CALL : Nat → Nat → List AV → AM → (AV → AM → Prop) → Prop} (hC : RuleAll CALL) {r : Nat} {args : List AV} {σ : AM} {K : AV → AM → Prop} (h : ∀ J : Nat → List AV → List AV → AM → Prop, (∀ pc lv st σ, wpb (CALL r) K J (b_HouseReader_takes pc) lv st σ → J pc lv st σ) → J 0 (ent 3 args) [] σ) : CALL (r + 1) 38 args σ K := hC r 38 args σ K h
theorem r_HouseReader_takesPart {CALL : Nat → Nat → List AV → AM → (AV → AM → Prop) → Prop} (hC : RuleAll CALL) {r : Nat} {args : List AV} {σ : AM} {K : AV → AM → Prop} (h : ∀ J : Nat → List AV → List AV → AM → Prop, (∀ pc lv st σ, wpb (CALL r) K J (b_HouseReader_takesPart pc) lv st σ → J pc lv st σ) → J 0 (ent 1 args) [] σ) : CALL (r + 1) 39 args σ K := hC r 39 args σ K h
theorem r_HouseReader_takesTurn {CALL : Nat → Nat → List AV → AM → (AV → AM → Prop) → Prop} (hC : RuleAll CALL) {r : Nat} {args : List AV} {σ : AM} {K : AV → AM → Prop} (h : ∀ J : Nat → List AV → List AV → AM → Prop, (∀ pc lv st σ, wpb (CALL r) K J (b_HouseReader_takesTurn pc) lv st σ → J pc lv st σ) → J 0 (ent 2 args) [] σ) : CALL (r + 1) 40 args σ K := hC r 40 args σ K h
theorem r_HouseReader_takesOdds {CALL : Nat → Nat → List AV → AM → (AV → AM → Prop) → Prop} (hC : RuleAll CALL) {r : Nat} {args : List AV} {σ : AM} {K : AV → AM → Prop} (h : ∀ J : Nat → List AV → List AV → AM → Prop, (∀ pc lv st σ, wpb (CALL r) K J (b_HouseReader_takesOdds pc) lv st σ → J pc lv st σ) → J 0 (ent 2 args) [] σ) : CALL (r + 1) 41 args σ K := hC r 41 args σ K h
theorem r_HouseReader_takesTopic {CALL : Nat → Nat → List AV → AM → (AV → AM → Prop) → Prop} (hC : RuleAll CALL) {r : Nat} {args : List AV} {σ : AM} {K : AV → AM → Prop} (h : ∀ J : Nat → List AV → List AV → AM → Prop, (∀ pc lv st σ, wpb (CALL r) K J (b_HouseReader_takesTopic pc) lv st σ → J pc lv st σ) → J 0 (ent 4 args) [] σ) : CALL (r + 1) 42 args σ K := hC r 42 args σ K h
theorem r_HouseReader_takesMonk {CALL : Nat → Nat → List AV → AM → (AV → AM → Prop) → Prop} (hC : RuleAll CALL) {r : Nat} {args : List AV} {σ : AM} {K : AV → AM → Prop} (h : ∀ J : Nat → List AV → List AV → AM → Prop, (∀ pc lv st σ, wpb (CALL r) K J (b_HouseReader_takesMonk pc) lv st σ → J pc lv st σ) → J 0 (ent 6 args) [] σ) : CALL (r + 1) 43 args σ K := hC r 43 args σ K h
theorem r_HouseReader_takeNewName {CALL : Nat → Nat → List AV → AM → (AV → AM → Prop) → Prop} (hC : RuleAll CALL) {r : Nat} {args : List AV} {σ : AM} {K : AV → AM → Prop} (h : ∀ J : Nat → List AV → List AV → AM → Prop, (∀ pc lv st σ, wpb (CALL r) K J (b_HouseReader_takeNewName pc) lv st σ → J pc lv st σ) → J 0 (ent 3 args) [] σ) : CALL (r + 1) 44 args σ K := hC r 44 args σ K h
theorem r_HouseReader_takesFollows {CALL : Nat → Nat → List AV → AM → (AV → AM → Prop) → Prop} (hC : RuleAll CALL) {r : Nat} {args : List AV} {σ : AM} {K : AV → AM → Prop} (h : ∀ J : Nat → List AV → List AV → AM → Prop, (∀ pc lv st σ, wpb (CALL r) K J (b_HouseReader_takesFollows pc) lv st σ → J pc lv st σ) → J 0 (ent 3 args) [] σ) : CALL (r + 1) 45 args σ K := hC r 45 args σ K h
theorem r_HouseReader_takesRoster {CALL : Nat → Nat → List AV → AM → (AV → AM → Prop) → Prop} (hC : RuleAll CALL) {r : Nat} {args : List AV} {σ : AM} {K : AV → AM → Prop} (h : ∀ J : Nat → List AV → List AV → AM → Prop, (∀ pc lv st σ, wpb (CALL r) K J (b_HouseReader_takesRoster pc) lv st σ → J pc lv st σ) → J 0 (ent 3 args) [] σ) : CALL (r + 1) 46 args σ K := hC r 46 args σ K h
theorem r_HouseReader_takesHears {CALL : Nat → Nat → List AV → AM → (AV → AM → Prop) → Prop} (hC : RuleAll CALL) {r : Nat} {args : List AV} {σ : AM} {K : AV → AM → Prop} (h : ∀ J : Nat → List AV → List AV → AM → Prop, (∀ pc lv st σ, wpb (CALL r) K J (b_HouseReader_takesHears pc) lv st σ → J pc lv st σ) → J 0 (ent 3 args) [] σ) : CALL (r + 1) 47 args σ K := hC r 47 args σ K h
theorem r_Life_run {CALL : Nat → Nat → List AV → AM → (AV → AM → Prop) → Prop} (hC : RuleAll CALL) {r : Nat} {args : List AV} {σ : AM} {K : AV → AM → Prop} (h : ∀ J : Nat → List AV → List AV → AM → Prop, (∀ pc lv st σ, wpb (CALL r) K J (b_Life_run pc) lv st σ → J pc lv st σ) → J 0 (ent 6 args) [] σ) : CALL (r + 1) 48 args σ K := hC r 48 args σ K h
theorem r_Life_behindEnd {CALL : Nat → Nat → List AV → AM → (AV → AM → Prop) → Prop} (hC : RuleAll CALL) {r : Nat} {args : List AV} {σ : AM} {K : AV → AM → Prop} (h : ∀ J : Nat → List AV → List AV → AM → Prop, (∀ pc lv st σ, wpb (CALL r) K J (b_Life_behindEnd pc) lv st σ → J pc lv st σ) → J 0 (ent 3 args) [] σ) : CALL (r + 1) 49 args σ K := hC r 49 args σ K h
theorem r_Life_behindStep {CALL : Nat → Nat → List AV → AM → (AV → AM → Prop) → Prop} (hC : RuleAll CALL) {r : Nat} {args : List AV} {σ : AM} {K : AV → AM → Prop} (h : ∀ J : Nat → List AV → List AV → AM → Prop, (∀ pc lv st σ, wpb (CALL r) K J (b_Life_behindStep pc) lv st σ → J pc lv st σ) → J 0 (ent 4 args) [] σ) : CALL (r + 1) 50 args σ K := hC r 50 args σ K h
theorem r_Life_miss {CALL : Nat → Nat → List AV → AM → (AV → AM → Prop) → Prop} (hC : RuleAll CALL) {r : Nat} {args : List AV} {σ : AM} {K : AV → AM → Prop} (h : ∀ J : Nat → List AV → List AV → AM → Prop, (∀ pc lv st σ, wpb (CALL r) K J (b_Life_miss pc) lv st σ → J pc lv st σ) → J 0 (ent 2 args) [] σ) : CALL (r + 1) 51 args σ K := hC r 51 args σ K h
theorem r_Life_coughed {CALL : Nat → Nat → List AV → AM → (AV → AM → Prop) → Prop} (hC : RuleAll CALL) {r : Nat} {args : List AV} {σ : AM} {K : AV → AM → Prop} (h : ∀ J : Nat → List AV → List AV → AM → Prop, (∀ pc lv st σ, wpb (CALL r) K J (b_Life_coughed pc) lv st σ → J pc lv st σ) → J 0 (ent 3 args) [] σ) : CALL (r + 1) 52 args σ K := hC r 52 args σ K h
theorem r_Life_draw {CALL : Nat → Nat → List AV → AM → (AV → AM → Prop) → Prop} (hC : RuleAll CALL) {r : Nat} {args : List AV} {σ : AM} {K : AV → AM → Prop} (h : ∀ J : Nat → List AV → List AV → AM → Prop, (∀ pc lv st σ, wpb (CALL r) K J (b_Life_draw pc) lv st σ → J pc lv st σ) → J 0 (ent 2 args) [] σ) : CALL (r + 1) 53 args σ K := hC r 53 args σ K h
theorem r_Life_holds {CALL : Nat → Nat → List AV → AM → (AV → AM → Prop) → Prop} (hC : RuleAll CALL) {r : Nat} {args : List AV} {σ : AM} {K : AV → AM → Prop} (h : ∀ J : Nat → List AV → List AV → AM → Prop, (∀ pc lv st σ, wpb (CALL r) K J (b_Life_holds pc) lv st σ → J pc lv st σ) → J 0 (ent 3 args) [] σ) : CALL (r + 1) 54 args σ K := hC r 54 args σ K h
theorem r_Life_compares {CALL : Nat → Nat → List AV → AM → (AV → AM → Prop) → Prop} (hC : RuleAll CALL) {r : Nat} {args : List AV} {σ : AM} {K : AV → AM → Prop} (h : ∀ J : Nat → List AV → List AV → AM → Prop, (∀ pc lv st σ, wpb (CALL r) K J (b_Life_compares pc) lv st σ → J pc lv st σ) → J 0 (ent 3 args) [] σ) : CALL (r + 1) 55 args σ K := hC r 55 args σ K h
theorem r_Monks_clear {CALL : Nat → Nat → List AV → AM → (AV → AM → Prop) → Prop} (hC : RuleAll CALL) {r : Nat} {args : List AV} {σ : AM} {K : AV → AM → Prop} (h : ∀ J : Nat → List AV → List AV → AM → Prop, (∀ pc lv st σ, wpb (CALL r) K J (b_Monks_clear pc) lv st σ → J pc lv st σ) → J 0 (ent 1 args) [] σ) : CALL (r + 1) 56 args σ K := hC r 56 args σ K h
theorem r_Monks_copy {CALL : Nat → Nat → List AV → AM → (AV → AM → Prop) → Prop} (hC : RuleAll CALL) {r : Nat} {args : List AV} {σ : AM} {K : AV → AM → Prop} (h : ∀ J : Nat → List AV → List AV → AM → Prop, (∀ pc lv st σ, wpb (CALL r) K J (b_Monks_copy pc) lv st σ → J pc lv st σ) → J 0 (ent 2 args) [] σ) : CALL (r + 1) 57 args σ K := hC r 57 args σ K h
theorem r_Monks_add {CALL : Nat → Nat → List AV → AM → (AV → AM → Prop) → Prop} (hC : RuleAll CALL) {r : Nat} {args : List AV} {σ : AM} {K : AV → AM → Prop} (h : ∀ J : Nat → List AV → List AV → AM → Prop, (∀ pc lv st σ, wpb (CALL r) K J (b_Monks_add pc) lv st σ → J pc lv st σ) → J 0 (ent 6 args) [] σ) : CALL (r + 1) 58 args σ K := hC r 58 args σ K h
theorem r_Monks_find {CALL : Nat → Nat → List AV → AM → (AV → AM → Prop) → Prop} (hC : RuleAll CALL) {r : Nat} {args : List AV} {σ : AM} {K : AV → AM → Prop} (h : ∀ J : Nat → List AV → List AV → AM → Prop, (∀ pc lv st σ, wpb (CALL r) K J (b_Monks_find pc) lv st σ → J pc lv st σ) → J 0 (ent 4 args) [] σ) : CALL (r + 1) 59 args σ K := hC r 59 args σ K h
theorem r_Monks_isAwake {CALL : Nat → Nat → List AV → AM → (AV → AM → Prop) → Prop} (hC : RuleAll CALL) {r : Nat} {args : List AV} {σ : AM} {K : AV → AM → Prop} (h : ∀ J : Nat → List AV → List AV → AM → Prop, (∀ pc lv st σ, wpb (CALL r) K J (b_Monks_isAwake pc) lv st σ → J pc lv st σ) → J 0 (ent 2 args) [] σ) : CALL (r + 1) 60 args σ K := hC r 60 args σ K h
theorem r_Monks_rouse {CALL : Nat → Nat → List AV → AM → (AV → AM → Prop) → Prop} (hC : RuleAll CALL) {r : Nat} {args : List AV} {σ : AM} {K : AV → AM → Prop} (h : ∀ J : Nat → List AV → List AV → AM → Prop, (∀ pc lv st σ, wpb (CALL r) K J (b_Monks_rouse pc) lv st σ → J pc lv st σ) → J 0 (ent 3 args) [] σ) : CALL (r + 1) 61 args σ K := hC r 61 args σ K h
theorem r_Monks_lend {CALL : Nat → Nat → List AV → AM → (AV → AM → Prop) → Prop} (hC : RuleAll CALL) {r : Nat} {args : List AV} {σ : AM} {K : AV → AM → Prop} (h : ∀ J : Nat → List AV → List AV → AM → Prop, (∀ pc lv st σ, wpb (CALL r) K J (b_Monks_lend pc) lv st σ → J pc lv st σ) → J 0 (ent 4 args) [] σ) : CALL (r + 1) 62 args σ K := hC r 62 args σ K h
theorem r_Monks_rested {CALL : Nat → Nat → List AV → AM → (AV → AM → Prop) → Prop} (hC : RuleAll CALL) {r : Nat} {args : List AV} {σ : AM} {K : AV → AM → Prop} (h : ∀ J : Nat → List AV → List AV → AM → Prop, (∀ pc lv st σ, wpb (CALL r) K J (b_Monks_rested pc) lv st σ → J pc lv st σ) → J 0 (ent 4 args) [] σ) : CALL (r + 1) 63 args σ K := hC r 63 args σ K h
theorem r_Monks_leastRested {CALL : Nat → Nat → List AV → AM → (AV → AM → Prop) → Prop} (hC : RuleAll CALL) {r : Nat} {args : List AV} {σ : AM} {K : AV → AM → Prop} (h : ∀ J : Nat → List AV → List AV → AM → Prop, (∀ pc lv st σ, wpb (CALL r) K J (b_Monks_leastRested pc) lv st σ → J pc lv st σ) → J 0 (ent 5 args) [] σ) : CALL (r + 1) 64 args σ K := hC r 64 args σ K h
theorem r_Monks_keptApart {CALL : Nat → Nat → List AV → AM → (AV → AM → Prop) → Prop} (hC : RuleAll CALL) {r : Nat} {args : List AV} {σ : AM} {K : AV → AM → Prop} (h : ∀ J : Nat → List AV → List AV → AM → Prop, (∀ pc lv st σ, wpb (CALL r) K J (b_Monks_keptApart pc) lv st σ → J pc lv st σ) → J 0 (ent 4 args) [] σ) : CALL (r + 1) 65 args σ K := hC r 65 args σ K h
theorem r_Monks_pairs {CALL : Nat → Nat → List AV → AM → (AV → AM → Prop) → Prop} (hC : RuleAll CALL) {r : Nat} {args : List AV} {σ : AM} {K : AV → AM → Prop} (h : ∀ J : Nat → List AV → List AV → AM → Prop, (∀ pc lv st σ, wpb (CALL r) K J (b_Monks_pairs pc) lv st σ → J pc lv st σ) → J 0 (ent 6 args) [] σ) : CALL (r + 1) 66 args σ K := hC r 66 args σ K h
theorem r_Talk_longest {CALL : Nat → Nat → List AV → AM → (AV → AM → Prop) → Prop} (hC : RuleAll CALL) {r : Nat} {args : List AV} {σ : AM} {K : AV → AM → Prop} (h : ∀ J : Nat → List AV → List AV → AM → Prop, (∀ pc lv st σ, wpb (CALL r) K J (b_Talk_longest pc) lv st σ → J pc lv st σ) → J 0 (ent 3 args) [] σ) : CALL (r + 1) 67 args σ K := hC r 67 args σ K h
theorem r_Talk_goOn {CALL : Nat → Nat → List AV → AM → (AV → AM → Prop) → Prop} (hC : RuleAll CALL) {r : Nat} {args : List AV} {σ : AM} {K : AV → AM → Prop} (h : ∀ J : Nat → List AV → List AV → AM → Prop, (∀ pc lv st σ, wpb (CALL r) K J (b_Talk_goOn pc) lv st σ → J pc lv st σ) → J 0 (ent 8 args) [] σ) : CALL (r + 1) 68 args σ K := hC r 68 args σ K h
theorem r_Talk_shortestRing {CALL : Nat → Nat → List AV → AM → (AV → AM → Prop) → Prop} (hC : RuleAll CALL) {r : Nat} {args : List AV} {σ : AM} {K : AV → AM → Prop} (h : ∀ J : Nat → List AV → List AV → AM → Prop, (∀ pc lv st σ, wpb (CALL r) K J (b_Talk_shortestRing pc) lv st σ → J pc lv st σ) → J 0 (ent 4 args) [] σ) : CALL (r + 1) 69 args σ K := hC r 69 args σ K h
theorem r_Talk_closes {CALL : Nat → Nat → List AV → AM → (AV → AM → Prop) → Prop} (hC : RuleAll CALL) {r : Nat} {args : List AV} {σ : AM} {K : AV → AM → Prop} (h : ∀ J : Nat → List AV → List AV → AM → Prop, (∀ pc lv st σ, wpb (CALL r) K J (b_Talk_closes pc) lv st σ → J pc lv st σ) → J 0 (ent 6 args) [] σ) : CALL (r + 1) 70 args σ K := hC r 70 args σ K h
theorem r_Talk_behind {CALL : Nat → Nat → List AV → AM → (AV → AM → Prop) → Prop} (hC : RuleAll CALL) {r : Nat} {args : List AV} {σ : AM} {K : AV → AM → Prop} (h : ∀ J : Nat → List AV → List AV → AM → Prop, (∀ pc lv st σ, wpb (CALL r) K J (b_Talk_behind pc) lv st σ → J pc lv st σ) → J 0 (ent 5 args) [] σ) : CALL (r + 1) 71 args σ K := hC r 71 args σ K h
theorem r_Talk_winner {CALL : Nat → Nat → List AV → AM → (AV → AM → Prop) → Prop} (hC : RuleAll CALL) {r : Nat} {args : List AV} {σ : AM} {K : AV → AM → Prop} (h : ∀ J : Nat → List AV → List AV → AM → Prop, (∀ pc lv st σ, wpb (CALL r) K J (b_Talk_winner pc) lv st σ → J pc lv st σ) → J 0 (ent 5 args) [] σ) : CALL (r + 1) 72 args σ K := hC r 72 args σ K h
theorem r_Tape_put {CALL : Nat → Nat → List AV → AM → (AV → AM → Prop) → Prop} (hC : RuleAll CALL) {r : Nat} {args : List AV} {σ : AM} {K : AV → AM → Prop} (h : ∀ J : Nat → List AV → List AV → AM → Prop, (∀ pc lv st σ, wpb (CALL r) K J (b_Tape_put pc) lv st σ → J pc lv st σ) → J 0 (ent 3 args) [] σ) : CALL (r + 1) 73 args σ K := hC r 73 args σ K h
theorem r_Tape_begin {CALL : Nat → Nat → List AV → AM → (AV → AM → Prop) → Prop} (hC : RuleAll CALL) {r : Nat} {args : List AV} {σ : AM} {K : AV → AM → Prop} (h : ∀ J : Nat → List AV → List AV → AM → Prop, (∀ pc lv st σ, wpb (CALL r) K J (b_Tape_begin pc) lv st σ → J pc lv st σ) → J 0 (ent 2 args) [] σ) : CALL (r + 1) 74 args σ K := hC r 74 args σ K h
theorem r_Tape_advance {CALL : Nat → Nat → List AV → AM → (AV → AM → Prop) → Prop} (hC : RuleAll CALL) {r : Nat} {args : List AV} {σ : AM} {K : AV → AM → Prop} (h : ∀ J : Nat → List AV → List AV → AM → Prop, (∀ pc lv st σ, wpb (CALL r) K J (b_Tape_advance pc) lv st σ → J pc lv st σ) → J 0 (ent 1 args) [] σ) : CALL (r + 1) 75 args σ K := hC r 75 args σ K h
theorem r_Tape_readWord {CALL : Nat → Nat → List AV → AM → (AV → AM → Prop) → Prop} (hC : RuleAll CALL) {r : Nat} {args : List AV} {σ : AM} {K : AV → AM → Prop} (h : ∀ J : Nat → List AV → List AV → AM → Prop, (∀ pc lv st σ, wpb (CALL r) K J (b_Tape_readWord pc) lv st σ → J pc lv st σ) → J 0 (ent 4 args) [] σ) : CALL (r + 1) 76 args σ K := hC r 76 args σ K h
theorem r_Tape_readNumber {CALL : Nat → Nat → List AV → AM → (AV → AM → Prop) → Prop} (hC : RuleAll CALL) {r : Nat} {args : List AV} {σ : AM} {K : AV → AM → Prop} (h : ∀ J : Nat → List AV → List AV → AM → Prop, (∀ pc lv st σ, wpb (CALL r) K J (b_Tape_readNumber pc) lv st σ → J pc lv st σ) → J 0 (ent 1 args) [] σ) : CALL (r + 1) 77 args σ K := hC r 77 args σ K h
theorem r_Tape_readSign {CALL : Nat → Nat → List AV → AM → (AV → AM → Prop) → Prop} (hC : RuleAll CALL) {r : Nat} {args : List AV} {σ : AM} {K : AV → AM → Prop} (h : ∀ J : Nat → List AV → List AV → AM → Prop, (∀ pc lv st σ, wpb (CALL r) K J (b_Tape_readSign pc) lv st σ → J pc lv st σ) → J 0 (ent 3 args) [] σ) : CALL (r + 1) 78 args σ K := hC r 78 args σ K h
theorem r_Tape_fail {CALL : Nat → Nat → List AV → AM → (AV → AM → Prop) → Prop} (hC : RuleAll CALL) {r : Nat} {args : List AV} {σ : AM} {K : AV → AM → Prop} (h : ∀ J : Nat → List AV → List AV → AM → Prop, (∀ pc lv st σ, wpb (CALL r) K J (b_Tape_fail pc) lv st σ → J pc lv st σ) → J 0 (ent 2 args) [] σ) : CALL (r + 1) 79 args σ K := hC r 79 args σ K h
theorem r_Tape_isName {CALL : Nat → Nat → List AV → AM → (AV → AM → Prop) → Prop} (hC : RuleAll CALL) {r : Nat} {args : List AV} {σ : AM} {K : AV → AM → Prop} (h : ∀ J : Nat → List AV → List AV → AM → Prop, (∀ pc lv st σ, wpb (CALL r) K J (b_Tape_isName pc) lv st σ → J pc lv st σ) → J 0 (ent 1 args) [] σ) : CALL (r + 1) 80 args σ K := hC r 80 args σ K h
theorem r_Tape_skipWord {CALL : Nat → Nat → List AV → AM → (AV → AM → Prop) → Prop} (hC : RuleAll CALL) {r : Nat} {args : List AV} {σ : AM} {K : AV → AM → Prop} (h : ∀ J : Nat → List AV → List AV → AM → Prop, (∀ pc lv st σ, wpb (CALL r) K J (b_Tape_skipWord pc) lv st σ → J pc lv st σ) → J 0 (ent 2 args) [] σ) : CALL (r + 1) 81 args σ K := hC r 81 args σ K h
theorem r_Tape_skipSemicolon {CALL : Nat → Nat → List AV → AM → (AV → AM → Prop) → Prop} (hC : RuleAll CALL) {r : Nat} {args : List AV} {σ : AM} {K : AV → AM → Prop} (h : ∀ J : Nat → List AV → List AV → AM → Prop, (∀ pc lv st σ, wpb (CALL r) K J (b_Tape_skipSemicolon pc) lv st σ → J pc lv st σ) → J 0 (ent 1 args) [] σ) : CALL (r + 1) 82 args σ K := hC r 82 args σ K h
theorem r_Tape_skipName {CALL : Nat → Nat → List AV → AM → (AV → AM → Prop) → Prop} (hC : RuleAll CALL) {r : Nat} {args : List AV} {σ : AM} {K : AV → AM → Prop} (h : ∀ J : Nat → List AV → List AV → AM → Prop, (∀ pc lv st σ, wpb (CALL r) K J (b_Tape_skipName pc) lv st σ → J pc lv st σ) → J 0 (ent 2 args) [] σ) : CALL (r + 1) 83 args σ K := hC r 83 args σ K h
theorem r_Tape_takeCompare {CALL : Nat → Nat → List AV → AM → (AV → AM → Prop) → Prop} (hC : RuleAll CALL) {r : Nat} {args : List AV} {σ : AM} {K : AV → AM → Prop} (h : ∀ J : Nat → List AV → List AV → AM → Prop, (∀ pc lv st σ, wpb (CALL r) K J (b_Tape_takeCompare pc) lv st σ → J pc lv st σ) → J 0 (ent 2 args) [] σ) : CALL (r + 1) 84 args σ K := hC r 84 args σ K h
theorem r_Tape_takeNumber {CALL : Nat → Nat → List AV → AM → (AV → AM → Prop) → Prop} (hC : RuleAll CALL) {r : Nat} {args : List AV} {σ : AM} {K : AV → AM → Prop} (h : ∀ J : Nat → List AV → List AV → AM → Prop, (∀ pc lv st σ, wpb (CALL r) K J (b_Tape_takeNumber pc) lv st σ → J pc lv st σ) → J 0 (ent 4 args) [] σ) : CALL (r + 1) 85 args σ K := hC r 85 args σ K h
theorem r_Topics_copy {CALL : Nat → Nat → List AV → AM → (AV → AM → Prop) → Prop} (hC : RuleAll CALL) {r : Nat} {args : List AV} {σ : AM} {K : AV → AM → Prop} (h : ∀ J : Nat → List AV → List AV → AM → Prop, (∀ pc lv st σ, wpb (CALL r) K J (b_Topics_copy pc) lv st σ → J pc lv st σ) → J 0 (ent 2 args) [] σ) : CALL (r + 1) 86 args σ K := hC r 86 args σ K h
theorem r_Topics_add {CALL : Nat → Nat → List AV → AM → (AV → AM → Prop) → Prop} (hC : RuleAll CALL) {r : Nat} {args : List AV} {σ : AM} {K : AV → AM → Prop} (h : ∀ J : Nat → List AV → List AV → AM → Prop, (∀ pc lv st σ, wpb (CALL r) K J (b_Topics_add pc) lv st σ → J pc lv st σ) → J 0 (ent 4 args) [] σ) : CALL (r + 1) 87 args σ K := hC r 87 args σ K h
theorem r_Topics_find {CALL : Nat → Nat → List AV → AM → (AV → AM → Prop) → Prop} (hC : RuleAll CALL) {r : Nat} {args : List AV} {σ : AM} {K : AV → AM → Prop} (h : ∀ J : Nat → List AV → List AV → AM → Prop, (∀ pc lv st σ, wpb (CALL r) K J (b_Topics_find pc) lv st σ → J pc lv st σ) → J 0 (ent 4 args) [] σ) : CALL (r + 1) 88 args σ K := hC r 88 args σ K h
theorem r_Topics_before {CALL : Nat → Nat → List AV → AM → (AV → AM → Prop) → Prop} (hC : RuleAll CALL) {r : Nat} {args : List AV} {σ : AM} {K : AV → AM → Prop} (h : ∀ J : Nat → List AV → List AV → AM → Prop, (∀ pc lv st σ, wpb (CALL r) K J (b_Topics_before pc) lv st σ → J pc lv st σ) → J 0 (ent 4 args) [] σ) : CALL (r + 1) 89 args σ K := hC r 89 args σ K h
theorem r_Topics_costingAtMost {CALL : Nat → Nat → List AV → AM → (AV → AM → Prop) → Prop} (hC : RuleAll CALL) {r : Nat} {args : List AV} {σ : AM} {K : AV → AM → Prop} (h : ∀ J : Nat → List AV → List AV → AM → Prop, (∀ pc lv st σ, wpb (CALL r) K J (b_Topics_costingAtMost pc) lv st σ → J pc lv st σ) → J 0 (ent 5 args) [] σ) : CALL (r + 1) 90 args σ K := hC r 90 args σ K h
theorem r_Topics_firstCosting {CALL : Nat → Nat → List AV → AM → (AV → AM → Prop) → Prop} (hC : RuleAll CALL) {r : Nat} {args : List AV} {σ : AM} {K : AV → AM → Prop} (h : ∀ J : Nat → List AV → List AV → AM → Prop, (∀ pc lv st σ, wpb (CALL r) K J (b_Topics_firstCosting pc) lv st σ → J pc lv st σ) → J 0 (ent 4 args) [] σ) : CALL (r + 1) 91 args σ K := hC r 91 args σ K h
theorem r_Tray_lay {CALL : Nat → Nat → List AV → AM → (AV → AM → Prop) → Prop} (hC : RuleAll CALL) {r : Nat} {args : List AV} {σ : AM} {K : AV → AM → Prop} (h : ∀ J : Nat → List AV → List AV → AM → Prop, (∀ pc lv st σ, wpb (CALL r) K J (b_Tray_lay pc) lv st σ → J pc lv st σ) → J 0 (ent 3 args) [] σ) : CALL (r + 1) 92 args σ K := hC r 92 args σ K h
theorem r_Tray_holds {CALL : Nat → Nat → List AV → AM → (AV → AM → Prop) → Prop} (hC : RuleAll CALL) {r : Nat} {args : List AV} {σ : AM} {K : AV → AM → Prop} (h : ∀ J : Nat → List AV → List AV → AM → Prop, (∀ pc lv st σ, wpb (CALL r) K J (b_Tray_holds pc) lv st σ → J pc lv st σ) → J 0 (ent 3 args) [] σ) : CALL (r + 1) 93 args σ K := hC r 93 args σ K h
theorem r_Tray_put {CALL : Nat → Nat → List AV → AM → (AV → AM → Prop) → Prop} (hC : RuleAll CALL) {r : Nat} {args : List AV} {σ : AM} {K : AV → AM → Prop} (h : ∀ J : Nat → List AV → List AV → AM → Prop, (∀ pc lv st σ, wpb (CALL r) K J (b_Tray_put pc) lv st σ → J pc lv st σ) → J 0 (ent 4 args) [] σ) : CALL (r + 1) 94 args σ K := hC r 94 args σ K h
theorem r_Tray_cut {CALL : Nat → Nat → List AV → AM → (AV → AM → Prop) → Prop} (hC : RuleAll CALL) {r : Nat} {args : List AV} {σ : AM} {K : AV → AM → Prop} (h : ∀ J : Nat → List AV → List AV → AM → Prop, (∀ pc lv st σ, wpb (CALL r) K J (b_Tray_cut pc) lv st σ → J pc lv st σ) → J 0 (ent 3 args) [] σ) : CALL (r + 1) 95 args σ K := hC r 95 args σ K h
theorem r_x_status {CALL : Nat → Nat → List AV → AM → (AV → AM → Prop) → Prop} (hC : RuleAll CALL) {r : Nat} {args : List AV} {σ : AM} {K : AV → AM → Prop} (h : ∀ J : Nat → List AV → List AV → AM → Prop, (∀ pc lv st σ, wpb (CALL r) K J (b_x_status pc) lv st σ → J pc lv st σ) → J 0 (ent 1 args) [] σ) : CALL (r + 1) 96 args σ K := hC r 96 args σ K h
theorem r_x_top {CALL : Nat → Nat → List AV → AM → (AV → AM → Prop) → Prop} (hC : RuleAll CALL) {r : Nat} {args : List AV} {σ : AM} {K : AV → AM → Prop} (h : ∀ J : Nat → List AV → List AV → AM → Prop, (∀ pc lv st σ, wpb (CALL r) K J (b_x_top pc) lv st σ → J pc lv st σ) → J 0 (ent 1 args) [] σ) : CALL (r + 1) 97 args σ K := hC r 97 args σ K h
theorem r_x_bottom {CALL : Nat → Nat → List AV → AM → (AV → AM → Prop) → Prop} (hC : RuleAll CALL) {r : Nat} {args : List AV} {σ : AM} {K : AV → AM → Prop} (h : ∀ J : Nat → List AV → List AV → AM → Prop, (∀ pc lv st σ, wpb (CALL r) K J (b_x_bottom pc) lv st σ → J pc lv st σ) → J 0 (ent 1 args) [] σ) : CALL (r + 1) 98 args σ K := hC r 98 args σ K h
theorem r_x_tray {CALL : Nat → Nat → List AV → AM → (AV → AM → Prop) → Prop} (hC : RuleAll CALL) {r : Nat} {args : List AV} {σ : AM} {K : AV → AM → Prop} (h : ∀ J : Nat → List AV → List AV → AM → Prop, (∀ pc lv st σ, wpb (CALL r) K J (b_x_tray pc) lv st σ → J pc lv st σ) → J 0 (ent 4 args) [] σ) : CALL (r + 1) 99 args σ K := hC r 99 args σ K h
theorem r_x_write {CALL : Nat → Nat → List AV → AM → (AV → AM → Prop) → Prop} (hC : RuleAll CALL) {r : Nat} {args : List AV} {σ : AM} {K : AV → AM → Prop} (h : ∀ J : Nat → List AV → List AV → AM → Prop, (∀ pc lv st σ, wpb (CALL r) K J (b_x_write pc) lv st σ → J pc lv st σ) → J 0 (ent 6 args) [] σ) : CALL (r + 1) 100 args σ K := hC r 100 args σ K h
theorem r_x_read {CALL : Nat → Nat → List AV → AM → (AV → AM → Prop) → Prop} (hC : RuleAll CALL) {r : Nat} {args : List AV} {σ : AM} {K : AV → AM → Prop} (h : ∀ J : Nat → List AV → List AV → AM → Prop, (∀ pc lv st σ, wpb (CALL r) K J (b_x_read pc) lv st σ → J pc lv st σ) → J 0 (ent 4 args) [] σ) : CALL (r + 1) 101 args σ K := hC r 101 args σ K h
theorem r_x_pour {CALL : Nat → Nat → List AV → AM → (AV → AM → Prop) → Prop} (hC : RuleAll CALL) {r : Nat} {args : List AV} {σ : AM} {K : AV → AM → Prop} (h : ∀ J : Nat → List AV → List AV → AM → Prop, (∀ pc lv st σ, wpb (CALL r) K J (b_x_pour pc) lv st σ → J pc lv st σ) → J 0 (ent 8 args) [] σ) : CALL (r + 1) 102 args σ K := hC r 102 args σ K h
theorem r_x_feed {CALL : Nat → Nat → List AV → AM → (AV → AM → Prop) → Prop} (hC : RuleAll CALL) {r : Nat} {args : List AV} {σ : AM} {K : AV → AM → Prop} (h : ∀ J : Nat → List AV → List AV → AM → Prop, (∀ pc lv st σ, wpb (CALL r) K J (b_x_feed pc) lv st σ → J pc lv st σ) → J 0 (ent 6 args) [] σ) : CALL (r + 1) 103 args σ K := hC r 103 args σ K h
theorem r_x_house {CALL : Nat → Nat → List AV → AM → (AV → AM → Prop) → Prop} (hC : RuleAll CALL) {r : Nat} {args : List AV} {σ : AM} {K : AV → AM → Prop} (h : ∀ J : Nat → List AV → List AV → AM → Prop, (∀ pc lv st σ, wpb (CALL r) K J (b_x_house pc) lv st σ → J pc lv st σ) → J 0 (ent 3 args) [] σ) : CALL (r + 1) 104 args σ K := hC r 104 args σ K h
theorem r_x_days {CALL : Nat → Nat → List AV → AM → (AV → AM → Prop) → Prop} (hC : RuleAll CALL) {r : Nat} {args : List AV} {σ : AM} {K : AV → AM → Prop} (h : ∀ J : Nat → List AV → List AV → AM → Prop, (∀ pc lv st σ, wpb (CALL r) K J (b_x_days pc) lv st σ → J pc lv st σ) → J 0 (ent 3 args) [] σ) : CALL (r + 1) 105 args σ K := hC r 105 args σ K h
theorem r_x_fault {CALL : Nat → Nat → List AV → AM → (AV → AM → Prop) → Prop} (hC : RuleAll CALL) {r : Nat} {args : List AV} {σ : AM} {K : AV → AM → Prop} (h : ∀ J : Nat → List AV → List AV → AM → Prop, (∀ pc lv st σ, wpb (CALL r) K J (b_x_fault pc) lv st σ → J pc lv st σ) → J 0 (ent 2 args) [] σ) : CALL (r + 1) 106 args σ K := hC r 106 args σ K h
theorem r_x_told {CALL : Nat → Nat → List AV → AM → (AV → AM → Prop) → Prop} (hC : RuleAll CALL) {r : Nat} {args : List AV} {σ : AM} {K : AV → AM → Prop} (h : ∀ J : Nat → List AV → List AV → AM → Prop, (∀ pc lv st σ, wpb (CALL r) K J (b_x_told pc) lv st σ → J pc lv st σ) → J 0 (ent 2 args) [] σ) : CALL (r + 1) 107 args σ K := hC r 107 args σ K h
theorem r_x_topic {CALL : Nat → Nat → List AV → AM → (AV → AM → Prop) → Prop} (hC : RuleAll CALL) {r : Nat} {args : List AV} {σ : AM} {K : AV → AM → Prop} (h : ∀ J : Nat → List AV → List AV → AM → Prop, (∀ pc lv st σ, wpb (CALL r) K J (b_x_topic pc) lv st σ → J pc lv st σ) → J 0 (ent 3 args) [] σ) : CALL (r + 1) 108 args σ K := hC r 108 args σ K h
theorem r_x_monk {CALL : Nat → Nat → List AV → AM → (AV → AM → Prop) → Prop} (hC : RuleAll CALL) {r : Nat} {args : List AV} {σ : AM} {K : AV → AM → Prop} (h : ∀ J : Nat → List AV → List AV → AM → Prop, (∀ pc lv st σ, wpb (CALL r) K J (b_x_monk pc) lv st σ → J pc lv st σ) → J 0 (ent 3 args) [] σ) : CALL (r + 1) 109 args σ K := hC r 109 args σ K h
theorem r_x_entry {CALL : Nat → Nat → List AV → AM → (AV → AM → Prop) → Prop} (hC : RuleAll CALL) {r : Nat} {args : List AV} {σ : AM} {K : AV → AM → Prop} (h : ∀ J : Nat → List AV → List AV → AM → Prop, (∀ pc lv st σ, wpb (CALL r) K J (b_x_entry pc) lv st σ → J pc lv st σ) → J 0 (ent 3 args) [] σ) : CALL (r + 1) 110 args σ K := hC r 110 args σ K h
theorem r_x_silent {CALL : Nat → Nat → List AV → AM → (AV → AM → Prop) → Prop} (hC : RuleAll CALL) {r : Nat} {args : List AV} {σ : AM} {K : AV → AM → Prop} (h : ∀ J : Nat → List AV → List AV → AM → Prop, (∀ pc lv st σ, wpb (CALL r) K J (b_x_silent pc) lv st σ → J pc lv st σ) → J 0 (ent 1 args) [] σ) : CALL (r + 1) 111 args σ K := hC r 111 args σ K h
theorem r_x_last {CALL : Nat → Nat → List AV → AM → (AV → AM → Prop) → Prop} (hC : RuleAll CALL) {r : Nat} {args : List AV} {σ : AM} {K : AV → AM → Prop} (h : ∀ J : Nat → List AV → List AV → AM → Prop, (∀ pc lv st σ, wpb (CALL r) K J (b_x_last pc) lv st σ → J pc lv st σ) → J 0 (ent 1 args) [] σ) : CALL (r + 1) 112 args σ K := hC r 112 args σ K h
theorem r_x_minute {CALL : Nat → Nat → List AV → AM → (AV → AM → Prop) → Prop} (hC : RuleAll CALL) {r : Nat} {args : List AV} {σ : AM} {K : AV → AM → Prop} (h : ∀ J : Nat → List AV → List AV → AM → Prop, (∀ pc lv st σ, wpb (CALL r) K J (b_x_minute pc) lv st σ → J pc lv st σ) → J 0 (ent 2 args) [] σ) : CALL (r + 1) 113 args σ K := hC r 113 args σ K h
theorem r_x_change {CALL : Nat → Nat → List AV → AM → (AV → AM → Prop) → Prop} (hC : RuleAll CALL) {r : Nat} {args : List AV} {σ : AM} {K : AV → AM → Prop} (h : ∀ J : Nat → List AV → List AV → AM → Prop, (∀ pc lv st σ, wpb (CALL r) K J (b_x_change pc) lv st σ → J pc lv st σ) → J 0 (ent 3 args) [] σ) : CALL (r + 1) 114 args σ K := hC r 114 args σ K h
theorem r_x_wake {CALL : Nat → Nat → List AV → AM → (AV → AM → Prop) → Prop} (hC : RuleAll CALL) {r : Nat} {args : List AV} {σ : AM} {K : AV → AM → Prop} (h : ∀ J : Nat → List AV → List AV → AM → Prop, (∀ pc lv st σ, wpb (CALL r) K J (b_x_wake pc) lv st σ → J pc lv st σ) → J 0 (ent 3 args) [] σ) : CALL (r + 1) 115 args σ K := hC r 115 args σ K h
theorem r_x_follow {CALL : Nat → Nat → List AV → AM → (AV → AM → Prop) → Prop} (hC : RuleAll CALL) {r : Nat} {args : List AV} {σ : AM} {K : AV → AM → Prop} (h : ∀ J : Nat → List AV → List AV → AM → Prop, (∀ pc lv st σ, wpb (CALL r) K J (b_x_follow pc) lv st σ → J pc lv st σ) → J 0 (ent 4 args) [] σ) : CALL (r + 1) 116 args σ K := hC r 116 args σ K h
theorem r_x_hear {CALL : Nat → Nat → List AV → AM → (AV → AM → Prop) → Prop} (hC : RuleAll CALL) {r : Nat} {args : List AV} {σ : AM} {K : AV → AM → Prop} (h : ∀ J : Nat → List AV → List AV → AM → Prop, (∀ pc lv st σ, wpb (CALL r) K J (b_x_hear pc) lv st σ → J pc lv st σ) → J 0 (ent 4 args) [] σ) : CALL (r + 1) 117 args σ K := hC r 117 args σ K h
theorem r_x_enter {CALL : Nat → Nat → List AV → AM → (AV → AM → Prop) → Prop} (hC : RuleAll CALL) {r : Nat} {args : List AV} {σ : AM} {K : AV → AM → Prop} (h : ∀ J : Nat → List AV → List AV → AM → Prop, (∀ pc lv st σ, wpb (CALL r) K J (b_x_enter pc) lv st σ → J pc lv st σ) → J 0 (ent 3 args) [] σ) : CALL (r + 1) 118 args σ K := hC r 118 args σ K h
theorem r_x_strike {CALL : Nat → Nat → List AV → AM → (AV → AM → Prop) → Prop} (hC : RuleAll CALL) {r : Nat} {args : List AV} {σ : AM} {K : AV → AM → Prop} (h : ∀ J : Nat → List AV → List AV → AM → Prop, (∀ pc lv st σ, wpb (CALL r) K J (b_x_strike pc) lv st σ → J pc lv st σ) → J 0 (ent 2 args) [] σ) : CALL (r + 1) 119 args σ K := hC r 119 args σ K h
theorem r_x_breathe {CALL : Nat → Nat → List AV → AM → (AV → AM → Prop) → Prop} (hC : RuleAll CALL) {r : Nat} {args : List AV} {σ : AM} {K : AV → AM → Prop} (h : ∀ J : Nat → List AV → List AV → AM → Prop, (∀ pc lv st σ, wpb (CALL r) K J (b_x_breathe pc) lv st σ → J pc lv st σ) → J 0 (ent 3 args) [] σ) : CALL (r + 1) 120 args σ K := hC r 120 args σ K h
theorem r_x_price {CALL : Nat → Nat → List AV → AM → (AV → AM → Prop) → Prop} (hC : RuleAll CALL) {r : Nat} {args : List AV} {σ : AM} {K : AV → AM → Prop} (h : ∀ J : Nat → List AV → List AV → AM → Prop, (∀ pc lv st σ, wpb (CALL r) K J (b_x_price pc) lv st σ → J pc lv st σ) → J 0 (ent 3 args) [] σ) : CALL (r + 1) 121 args σ K := hC r 121 args σ K h
theorem r_x_rule {CALL : Nat → Nat → List AV → AM → (AV → AM → Prop) → Prop} (hC : RuleAll CALL) {r : Nat} {args : List AV} {σ : AM} {K : AV → AM → Prop} (h : ∀ J : Nat → List AV → List AV → AM → Prop, (∀ pc lv st σ, wpb (CALL r) K J (b_x_rule pc) lv st σ → J pc lv st σ) → J 0 (ent 3 args) [] σ) : CALL (r + 1) 122 args σ K := hC r 122 args σ K h
theorem r_x_can {CALL : Nat → Nat → List AV → AM → (AV → AM → Prop) → Prop} (hC : RuleAll CALL) {r : Nat} {args : List AV} {σ : AM} {K : AV → AM → Prop} (h : ∀ J : Nat → List AV → List AV → AM → Prop, (∀ pc lv st σ, wpb (CALL r) K J (b_x_can pc) lv st σ → J pc lv st σ) → J 0 (ent 3 args) [] σ) : CALL (r + 1) 123 args σ K := hC r 123 args σ K h
theorem r_x_topics {CALL : Nat → Nat → List AV → AM → (AV → AM → Prop) → Prop} (hC : RuleAll CALL) {r : Nat} {args : List AV} {σ : AM} {K : AV → AM → Prop} (h : ∀ J : Nat → List AV → List AV → AM → Prop, (∀ pc lv st σ, wpb (CALL r) K J (b_x_topics pc) lv st σ → J pc lv st σ) → J 0 (ent 2 args) [] σ) : CALL (r + 1) 124 args σ K := hC r 124 args σ K h
theorem r_x_speakers {CALL : Nat → Nat → List AV → AM → (AV → AM → Prop) → Prop} (hC : RuleAll CALL) {r : Nat} {args : List AV} {σ : AM} {K : AV → AM → Prop} (h : ∀ J : Nat → List AV → List AV → AM → Prop, (∀ pc lv st σ, wpb (CALL r) K J (b_x_speakers pc) lv st σ → J pc lv st σ) → J 0 (ent 4 args) [] σ) : CALL (r + 1) 125 args σ K := hC r 125 args σ K h
theorem r_x_speaker {CALL : Nat → Nat → List AV → AM → (AV → AM → Prop) → Prop} (hC : RuleAll CALL) {r : Nat} {args : List AV} {σ : AM} {K : AV → AM → Prop} (h : ∀ J : Nat → List AV → List AV → AM → Prop, (∀ pc lv st σ, wpb (CALL r) K J (b_x_speaker pc) lv st σ → J pc lv st σ) → J 0 (ent 1 args) [] σ) : CALL (r + 1) 126 args σ K := hC r 126 args σ K h
theorem r_x_spoken {CALL : Nat → Nat → List AV → AM → (AV → AM → Prop) → Prop} (hC : RuleAll CALL) {r : Nat} {args : List AV} {σ : AM} {K : AV → AM → Prop} (h : ∀ J : Nat → List AV → List AV → AM → Prop, (∀ pc lv st σ, wpb (CALL r) K J (b_x_spoken pc) lv st σ → J pc lv st σ) → J 0 (ent 1 args) [] σ) : CALL (r + 1) 127 args σ K := hC r 127 args σ K h
theorem r_x_speakerIn {CALL : Nat → Nat → List AV → AM → (AV → AM → Prop) → Prop} (hC : RuleAll CALL) {r : Nat} {args : List AV} {σ : AM} {K : AV → AM → Prop} (h : ∀ J : Nat → List AV → List AV → AM → Prop, (∀ pc lv st σ, wpb (CALL r) K J (b_x_speakerIn pc) lv st σ → J pc lv st σ) → J 0 (ent 2 args) [] σ) : CALL (r + 1) 128 args σ K := hC r 128 args σ K h
theorem r_x_breathIn {CALL : Nat → Nat → List AV → AM → (AV → AM → Prop) → Prop} (hC : RuleAll CALL) {r : Nat} {args : List AV} {σ : AM} {K : AV → AM → Prop} (h : ∀ J : Nat → List AV → List AV → AM → Prop, (∀ pc lv st σ, wpb (CALL r) K J (b_x_breathIn pc) lv st σ → J pc lv st σ) → J 0 (ent 3 args) [] σ) : CALL (r + 1) 129 args σ K := hC r 129 args σ K h
theorem r_x_pauseIn {CALL : Nat → Nat → List AV → AM → (AV → AM → Prop) → Prop} (hC : RuleAll CALL) {r : Nat} {args : List AV} {σ : AM} {K : AV → AM → Prop} (h : ∀ J : Nat → List AV → List AV → AM → Prop, (∀ pc lv st σ, wpb (CALL r) K J (b_x_pauseIn pc) lv st σ → J pc lv st σ) → J 0 (ent 1 args) [] σ) : CALL (r + 1) 130 args σ K := hC r 130 args σ K h
theorem r_x_pausesIn {CALL : Nat → Nat → List AV → AM → (AV → AM → Prop) → Prop} (hC : RuleAll CALL) {r : Nat} {args : List AV} {σ : AM} {K : AV → AM → Prop} (h : ∀ J : Nat → List AV → List AV → AM → Prop, (∀ pc lv st σ, wpb (CALL r) K J (b_x_pausesIn pc) lv st σ → J pc lv st σ) → J 0 (ent 2 args) [] σ) : CALL (r + 1) 131 args σ K := hC r 131 args σ K h
theorem r_x_turnIn {CALL : Nat → Nat → List AV → AM → (AV → AM → Prop) → Prop} (hC : RuleAll CALL) {r : Nat} {args : List AV} {σ : AM} {K : AV → AM → Prop} (h : ∀ J : Nat → List AV → List AV → AM → Prop, (∀ pc lv st σ, wpb (CALL r) K J (b_x_turnIn pc) lv st σ → J pc lv st σ) → J 0 (ent 2 args) [] σ) : CALL (r + 1) 132 args σ K := hC r 132 args σ K h
theorem r_x_unfair {CALL : Nat → Nat → List AV → AM → (AV → AM → Prop) → Prop} (hC : RuleAll CALL) {r : Nat} {args : List AV} {σ : AM} {K : AV → AM → Prop} (h : ∀ J : Nat → List AV → List AV → AM → Prop, (∀ pc lv st σ, wpb (CALL r) K J (b_x_unfair pc) lv st σ → J pc lv st σ) → J 0 (ent 1 args) [] σ) : CALL (r + 1) 133 args σ K := hC r 133 args σ K h
theorem r_x_enough {CALL : Nat → Nat → List AV → AM → (AV → AM → Prop) → Prop} (hC : RuleAll CALL) {r : Nat} {args : List AV} {σ : AM} {K : AV → AM → Prop} (h : ∀ J : Nat → List AV → List AV → AM → Prop, (∀ pc lv st σ, wpb (CALL r) K J (b_x_enough pc) lv st σ → J pc lv st σ) → J 0 (ent 3 args) [] σ) : CALL (r + 1) 134 args σ K := hC r 134 args σ K h
theorem r_x_fewest {CALL : Nat → Nat → List AV → AM → (AV → AM → Prop) → Prop} (hC : RuleAll CALL) {r : Nat} {args : List AV} {σ : AM} {K : AV → AM → Prop} (h : ∀ J : Nat → List AV → List AV → AM → Prop, (∀ pc lv st σ, wpb (CALL r) K J (b_x_fewest pc) lv st σ → J pc lv st σ) → J 0 (ent 3 args) [] σ) : CALL (r + 1) 135 args σ K := hC r 135 args σ K h
theorem r_x_fewestSet {CALL : Nat → Nat → List AV → AM → (AV → AM → Prop) → Prop} (hC : RuleAll CALL) {r : Nat} {args : List AV} {σ : AM} {K : AV → AM → Prop} (h : ∀ J : Nat → List AV → List AV → AM → Prop, (∀ pc lv st σ, wpb (CALL r) K J (b_x_fewestSet pc) lv st σ → J pc lv st σ) → J 0 (ent 2 args) [] σ) : CALL (r + 1) 136 args σ K := hC r 136 args σ K h
theorem r_x_shift {CALL : Nat → Nat → List AV → AM → (AV → AM → Prop) → Prop} (hC : RuleAll CALL) {r : Nat} {args : List AV} {σ : AM} {K : AV → AM → Prop} (h : ∀ J : Nat → List AV → List AV → AM → Prop, (∀ pc lv st σ, wpb (CALL r) K J (b_x_shift pc) lv st σ → J pc lv st σ) → J 0 (ent 2 args) [] σ) : CALL (r + 1) 137 args σ K := hC r 137 args σ K h
theorem r_x_shiftAt {CALL : Nat → Nat → List AV → AM → (AV → AM → Prop) → Prop} (hC : RuleAll CALL) {r : Nat} {args : List AV} {σ : AM} {K : AV → AM → Prop} (h : ∀ J : Nat → List AV → List AV → AM → Prop, (∀ pc lv st σ, wpb (CALL r) K J (b_x_shiftAt pc) lv st σ → J pc lv st σ) → J 0 (ent 5 args) [] σ) : CALL (r + 1) 138 args σ K := hC r 138 args σ K h
theorem r_x_talk {CALL : Nat → Nat → List AV → AM → (AV → AM → Prop) → Prop} (hC : RuleAll CALL) {r : Nat} {args : List AV} {σ : AM} {K : AV → AM → Prop} (h : ∀ J : Nat → List AV → List AV → AM → Prop, (∀ pc lv st σ, wpb (CALL r) K J (b_x_talk pc) lv st σ → J pc lv st σ) → J 0 (ent 2 args) [] σ) : CALL (r + 1) 139 args σ K := hC r 139 args σ K h
theorem r_x_talkAt {CALL : Nat → Nat → List AV → AM → (AV → AM → Prop) → Prop} (hC : RuleAll CALL) {r : Nat} {args : List AV} {σ : AM} {K : AV → AM → Prop} (h : ∀ J : Nat → List AV → List AV → AM → Prop, (∀ pc lv st σ, wpb (CALL r) K J (b_x_talkAt pc) lv st σ → J pc lv st σ) → J 0 (ent 3 args) [] σ) : CALL (r + 1) 140 args σ K := hC r 140 args σ K h
theorem r_x_ring {CALL : Nat → Nat → List AV → AM → (AV → AM → Prop) → Prop} (hC : RuleAll CALL) {r : Nat} {args : List AV} {σ : AM} {K : AV → AM → Prop} (h : ∀ J : Nat → List AV → List AV → AM → Prop, (∀ pc lv st σ, wpb (CALL r) K J (b_x_ring pc) lv st σ → J pc lv st σ) → J 0 (ent 1 args) [] σ) : CALL (r + 1) 141 args σ K := hC r 141 args σ K h
theorem r_x_ringAt {CALL : Nat → Nat → List AV → AM → (AV → AM → Prop) → Prop} (hC : RuleAll CALL) {r : Nat} {args : List AV} {σ : AM} {K : AV → AM → Prop} (h : ∀ J : Nat → List AV → List AV → AM → Prop, (∀ pc lv st σ, wpb (CALL r) K J (b_x_ringAt pc) lv st σ → J pc lv st σ) → J 0 (ent 2 args) [] σ) : CALL (r + 1) 142 args σ K := hC r 142 args σ K h
theorem r_x_reach {CALL : Nat → Nat → List AV → AM → (AV → AM → Prop) → Prop} (hC : RuleAll CALL) {r : Nat} {args : List AV} {σ : AM} {K : AV → AM → Prop} (h : ∀ J : Nat → List AV → List AV → AM → Prop, (∀ pc lv st σ, wpb (CALL r) K J (b_x_reach pc) lv st σ → J pc lv st σ) → J 0 (ent 2 args) [] σ) : CALL (r + 1) 143 args σ K := hC r 143 args σ K h
theorem r_x_wins {CALL : Nat → Nat → List AV → AM → (AV → AM → Prop) → Prop} (hC : RuleAll CALL) {r : Nat} {args : List AV} {σ : AM} {K : AV → AM → Prop} (h : ∀ J : Nat → List AV → List AV → AM → Prop, (∀ pc lv st σ, wpb (CALL r) K J (b_x_wins pc) lv st σ → J pc lv st σ) → J 0 (ent 2 args) [] σ) : CALL (r + 1) 144 args σ K := hC r 144 args σ K h
theorem r_x_best {CALL : Nat → Nat → List AV → AM → (AV → AM → Prop) → Prop} (hC : RuleAll CALL) {r : Nat} {args : List AV} {σ : AM} {K : AV → AM → Prop} (h : ∀ J : Nat → List AV → List AV → AM → Prop, (∀ pc lv st σ, wpb (CALL r) K J (b_x_best pc) lv st σ → J pc lv st σ) → J 0 (ent 2 args) [] σ) : CALL (r + 1) 145 args σ K := hC r 145 args σ K h
theorem r_x_heard {CALL : Nat → Nat → List AV → AM → (AV → AM → Prop) → Prop} (hC : RuleAll CALL) {r : Nat} {args : List AV} {σ : AM} {K : AV → AM → Prop} (h : ∀ J : Nat → List AV → List AV → AM → Prop, (∀ pc lv st σ, wpb (CALL r) K J (b_x_heard pc) lv st σ → J pc lv st σ) → J 0 (ent 4 args) [] σ) : CALL (r + 1) 146 args σ K := hC r 146 args σ K h
theorem r_x_sure {CALL : Nat → Nat → List AV → AM → (AV → AM → Prop) → Prop} (hC : RuleAll CALL) {r : Nat} {args : List AV} {σ : AM} {K : AV → AM → Prop} (h : ∀ J : Nat → List AV → List AV → AM → Prop, (∀ pc lv st σ, wpb (CALL r) K J (b_x_sure pc) lv st σ → J pc lv st σ) → J 0 (ent 5 args) [] σ) : CALL (r + 1) 147 args σ K := hC r 147 args σ K h
theorem r_x_couples {CALL : Nat → Nat → List AV → AM → (AV → AM → Prop) → Prop} (hC : RuleAll CALL) {r : Nat} {args : List AV} {σ : AM} {K : AV → AM → Prop} (h : ∀ J : Nat → List AV → List AV → AM → Prop, (∀ pc lv st σ, wpb (CALL r) K J (b_x_couples pc) lv st σ → J pc lv st σ) → J 0 (ent 2 args) [] σ) : CALL (r + 1) 148 args σ K := hC r 148 args σ K h
theorem r_x_allRead {CALL : Nat → Nat → List AV → AM → (AV → AM → Prop) → Prop} (hC : RuleAll CALL) {r : Nat} {args : List AV} {σ : AM} {K : AV → AM → Prop} (h : ∀ J : Nat → List AV → List AV → AM → Prop, (∀ pc lv st σ, wpb (CALL r) K J (b_x_allRead pc) lv st σ → J pc lv st σ) → J 0 (ent 2 args) [] σ) : CALL (r + 1) 149 args σ K := hC r 149 args σ K h
theorem r_x_coughs {CALL : Nat → Nat → List AV → AM → (AV → AM → Prop) → Prop} (hC : RuleAll CALL) {r : Nat} {args : List AV} {σ : AM} {K : AV → AM → Prop} (h : ∀ J : Nat → List AV → List AV → AM → Prop, (∀ pc lv st σ, wpb (CALL r) K J (b_x_coughs pc) lv st σ → J pc lv st σ) → J 0 (ent 7 args) [] σ) : CALL (r + 1) 150 args σ K := hC r 150 args σ K h
theorem r_x_copyBreath {CALL : Nat → Nat → List AV → AM → (AV → AM → Prop) → Prop} (hC : RuleAll CALL) {r : Nat} {args : List AV} {σ : AM} {K : AV → AM → Prop} (h : ∀ J : Nat → List AV → List AV → AM → Prop, (∀ pc lv st σ, wpb (CALL r) K J (b_x_copyBreath pc) lv st σ → J pc lv st σ) → J 0 (ent 3 args) [] σ) : CALL (r + 1) 151 args σ K := hC r 151 args σ K h
theorem r_x_live {CALL : Nat → Nat → List AV → AM → (AV → AM → Prop) → Prop} (hC : RuleAll CALL) {r : Nat} {args : List AV} {σ : AM} {K : AV → AM → Prop} (h : ∀ J : Nat → List AV → List AV → AM → Prop, (∀ pc lv st σ, wpb (CALL r) K J (b_x_live pc) lv st σ → J pc lv st σ) → J 0 (ent 2 args) [] σ) : CALL (r + 1) 152 args σ K := hC r 152 args σ K h
theorem r_x_lived {CALL : Nat → Nat → List AV → AM → (AV → AM → Prop) → Prop} (hC : RuleAll CALL) {r : Nat} {args : List AV} {σ : AM} {K : AV → AM → Prop} (h : ∀ J : Nat → List AV → List AV → AM → Prop, (∀ pc lv st σ, wpb (CALL r) K J (b_x_lived pc) lv st σ → J pc lv st σ) → J 0 (ent 2 args) [] σ) : CALL (r + 1) 153 args σ K := hC r 153 args σ K h
theorem r_x_mean {CALL : Nat → Nat → List AV → AM → (AV → AM → Prop) → Prop} (hC : RuleAll CALL) {r : Nat} {args : List AV} {σ : AM} {K : AV → AM → Prop} (h : ∀ J : Nat → List AV → List AV → AM → Prop, (∀ pc lv st σ, wpb (CALL r) K J (b_x_mean pc) lv st σ → J pc lv st σ) → J 0 (ent 7 args) [] σ) : CALL (r + 1) 154 args σ K := hC r 154 args σ K h
theorem r_x_mark {CALL : Nat → Nat → List AV → AM → (AV → AM → Prop) → Prop} (hC : RuleAll CALL) {r : Nat} {args : List AV} {σ : AM} {K : AV → AM → Prop} (h : ∀ J : Nat → List AV → List AV → AM → Prop, (∀ pc lv st σ, wpb (CALL r) K J (b_x_mark pc) lv st σ → J pc lv st σ) → J 0 (ent 1 args) [] σ) : CALL (r + 1) 155 args σ K := hC r 155 args σ K h
theorem r_x_undo {CALL : Nat → Nat → List AV → AM → (AV → AM → Prop) → Prop} (hC : RuleAll CALL) {r : Nat} {args : List AV} {σ : AM} {K : AV → AM → Prop} (h : ∀ J : Nat → List AV → List AV → AM → Prop, (∀ pc lv st σ, wpb (CALL r) K J (b_x_undo pc) lv st σ → J pc lv st σ) → J 0 (ent 1 args) [] σ) : CALL (r + 1) 156 args σ K := hC r 156 args σ K h
theorem r_x_give {CALL : Nat → Nat → List AV → AM → (AV → AM → Prop) → Prop} (hC : RuleAll CALL) {r : Nat} {args : List AV} {σ : AM} {K : AV → AM → Prop} (h : ∀ J : Nat → List AV → List AV → AM → Prop, (∀ pc lv st σ, wpb (CALL r) K J (b_x_give pc) lv st σ → J pc lv st σ) → J 0 (ent 2 args) [] σ) : CALL (r + 1) 157 args σ K := hC r 157 args σ K h
theorem r_x_giveOrNone {CALL : Nat → Nat → List AV → AM → (AV → AM → Prop) → Prop} (hC : RuleAll CALL) {r : Nat} {args : List AV} {σ : AM} {K : AV → AM → Prop} (h : ∀ J : Nat → List AV → List AV → AM → Prop, (∀ pc lv st σ, wpb (CALL r) K J (b_x_giveOrNone pc) lv st σ → J pc lv st σ) → J 0 (ent 2 args) [] σ) : CALL (r + 1) 158 args σ K := hC r 158 args σ K h
theorem r_x_none {CALL : Nat → Nat → List AV → AM → (AV → AM → Prop) → Prop} (hC : RuleAll CALL) {r : Nat} {args : List AV} {σ : AM} {K : AV → AM → Prop} (h : ∀ J : Nat → List AV → List AV → AM → Prop, (∀ pc lv st σ, wpb (CALL r) K J (b_x_none pc) lv st σ → J pc lv st σ) → J 0 (ent 2 args) [] σ) : CALL (r + 1) 159 args σ K := hC r 159 args σ K h
theorem r_x_agree {CALL : Nat → Nat → List AV → AM → (AV → AM → Prop) → Prop} (hC : RuleAll CALL) {r : Nat} {args : List AV} {σ : AM} {K : AV → AM → Prop} (h : ∀ J : Nat → List AV → List AV → AM → Prop, (∀ pc lv st σ, wpb (CALL r) K J (b_x_agree pc) lv st σ → J pc lv st σ) → J 0 (ent 1 args) [] σ) : CALL (r + 1) 160 args σ K := hC r 160 args σ K h
theorem r_x_refuse {CALL : Nat → Nat → List AV → AM → (AV → AM → Prop) → Prop} (hC : RuleAll CALL) {r : Nat} {args : List AV} {σ : AM} {K : AV → AM → Prop} (h : ∀ J : Nat → List AV → List AV → AM → Prop, (∀ pc lv st σ, wpb (CALL r) K J (b_x_refuse pc) lv st σ → J pc lv st σ) → J 0 (ent 2 args) [] σ) : CALL (r + 1) 161 args σ K := hC r 161 args σ K h
theorem r_x_isTray {CALL : Nat → Nat → List AV → AM → (AV → AM → Prop) → Prop} (hC : RuleAll CALL) {r : Nat} {args : List AV} {σ : AM} {K : AV → AM → Prop} (h : ∀ J : Nat → List AV → List AV → AM → Prop, (∀ pc lv st σ, wpb (CALL r) K J (b_x_isTray pc) lv st σ → J pc lv st σ) → J 0 (ent 2 args) [] σ) : CALL (r + 1) 162 args σ K := hC r 162 args σ K h
theorem r_x_isTopic {CALL : Nat → Nat → List AV → AM → (AV → AM → Prop) → Prop} (hC : RuleAll CALL) {r : Nat} {args : List AV} {σ : AM} {K : AV → AM → Prop} (h : ∀ J : Nat → List AV → List AV → AM → Prop, (∀ pc lv st σ, wpb (CALL r) K J (b_x_isTopic pc) lv st σ → J pc lv st σ) → J 0 (ent 2 args) [] σ) : CALL (r + 1) 163 args σ K := hC r 163 args σ K h
theorem r_x_isMonk {CALL : Nat → Nat → List AV → AM → (AV → AM → Prop) → Prop} (hC : RuleAll CALL) {r : Nat} {args : List AV} {σ : AM} {K : AV → AM → Prop} (h : ∀ J : Nat → List AV → List AV → AM → Prop, (∀ pc lv st σ, wpb (CALL r) K J (b_x_isMonk pc) lv st σ → J pc lv st σ) → J 0 (ent 2 args) [] σ) : CALL (r + 1) 164 args σ K := hC r 164 args σ K h
theorem r_x_isSet {CALL : Nat → Nat → List AV → AM → (AV → AM → Prop) → Prop} (hC : RuleAll CALL) {r : Nat} {args : List AV} {σ : AM} {K : AV → AM → Prop} (h : ∀ J : Nat → List AV → List AV → AM → Prop, (∀ pc lv st σ, wpb (CALL r) K J (b_x_isSet pc) lv st σ → J pc lv st σ) → J 0 (ent 2 args) [] σ) : CALL (r + 1) 165 args σ K := hC r 165 args σ K h
theorem r_x_placeStatus {CALL : Nat → Nat → List AV → AM → (AV → AM → Prop) → Prop} (hC : RuleAll CALL) {r : Nat} {args : List AV} {σ : AM} {K : AV → AM → Prop} (h : ∀ J : Nat → List AV → List AV → AM → Prop, (∀ pc lv st σ, wpb (CALL r) K J (b_x_placeStatus pc) lv st σ → J pc lv st σ) → J 0 (ent 3 args) [] σ) : CALL (r + 1) 166 args σ K := hC r 166 args σ K h
theorem r_x_heardStatus {CALL : Nat → Nat → List AV → AM → (AV → AM → Prop) → Prop} (hC : RuleAll CALL) {r : Nat} {args : List AV} {σ : AM} {K : AV → AM → Prop} (h : ∀ J : Nat → List AV → List AV → AM → Prop, (∀ pc lv st σ, wpb (CALL r) K J (b_x_heardStatus pc) lv st σ → J pc lv st σ) → J 0 (ent 6 args) [] σ) : CALL (r + 1) 167 args σ K := hC r 167 args σ K h
theorem r_x_weighCoughs {CALL : Nat → Nat → List AV → AM → (AV → AM → Prop) → Prop} (hC : RuleAll CALL) {r : Nat} {args : List AV} {σ : AM} {K : AV → AM → Prop} (h : ∀ J : Nat → List AV → List AV → AM → Prop, (∀ pc lv st σ, wpb (CALL r) K J (b_x_weighCoughs pc) lv st σ → J pc lv st σ) → J 0 (ent 3 args) [] σ) : CALL (r + 1) 168 args σ K := hC r 168 args σ K h
theorem r_x_tellFraction {CALL : Nat → Nat → List AV → AM → (AV → AM → Prop) → Prop} (hC : RuleAll CALL) {r : Nat} {args : List AV} {σ : AM} {K : AV → AM → Prop} (h : ∀ J : Nat → List AV → List AV → AM → Prop, (∀ pc lv st σ, wpb (CALL r) K J (b_x_tellFraction pc) lv st σ → J pc lv st σ) → J 0 (ent 7 args) [] σ) : CALL (r + 1) 169 args σ K := hC r 169 args σ K h
theorem r_x_commonDivisor {CALL : Nat → Nat → List AV → AM → (AV → AM → Prop) → Prop} (hC : RuleAll CALL) {r : Nat} {args : List AV} {σ : AM} {K : AV → AM → Prop} (h : ∀ J : Nat → List AV → List AV → AM → Prop, (∀ pc lv st σ, wpb (CALL r) K J (b_x_commonDivisor pc) lv st σ → J pc lv st σ) → J 0 (ent 11 args) [] σ) : CALL (r + 1) 170 args σ K := hC r 170 args σ K h
theorem r_x_within {CALL : Nat → Nat → List AV → AM → (AV → AM → Prop) → Prop} (hC : RuleAll CALL) {r : Nat} {args : List AV} {σ : AM} {K : AV → AM → Prop} (h : ∀ J : Nat → List AV → List AV → AM → Prop, (∀ pc lv st σ, wpb (CALL r) K J (b_x_within pc) lv st σ → J pc lv st σ) → J 0 (ent 3 args) [] σ) : CALL (r + 1) 171 args σ K := hC r 171 args σ K h
theorem r_x_truth {CALL : Nat → Nat → List AV → AM → (AV → AM → Prop) → Prop} (hC : RuleAll CALL) {r : Nat} {args : List AV} {σ : AM} {K : AV → AM → Prop} (h : ∀ J : Nat → List AV → List AV → AM → Prop, (∀ pc lv st σ, wpb (CALL r) K J (b_x_truth pc) lv st σ → J pc lv st σ) → J 0 (ent 1 args) [] σ) : CALL (r + 1) 172 args σ K := hC r 172 args σ K h
theorem r_x_has {CALL : Nat → Nat → List AV → AM → (AV → AM → Prop) → Prop} (hC : RuleAll CALL) {r : Nat} {args : List AV} {σ : AM} {K : AV → AM → Prop} (h : ∀ J : Nat → List AV → List AV → AM → Prop, (∀ pc lv st σ, wpb (CALL r) K J (b_x_has pc) lv st σ → J pc lv st σ) → J 0 (ent 2 args) [] σ) : CALL (r + 1) 173 args σ K := hC r 173 args σ K h
theorem r_x_with {CALL : Nat → Nat → List AV → AM → (AV → AM → Prop) → Prop} (hC : RuleAll CALL) {r : Nat} {args : List AV} {σ : AM} {K : AV → AM → Prop} (h : ∀ J : Nat → List AV → List AV → AM → Prop, (∀ pc lv st σ, wpb (CALL r) K J (b_x_with pc) lv st σ → J pc lv st σ) → J 0 (ent 3 args) [] σ) : CALL (r + 1) 174 args σ K := hC r 174 args σ K h
theorem r_x_leastOf {CALL : Nat → Nat → List AV → AM → (AV → AM → Prop) → Prop} (hC : RuleAll CALL) {r : Nat} {args : List AV} {σ : AM} {K : AV → AM → Prop} (h : ∀ J : Nat → List AV → List AV → AM → Prop, (∀ pc lv st σ, wpb (CALL r) K J (b_x_leastOf pc) lv st σ → J pc lv st σ) → J 0 (ent 2 args) [] σ) : CALL (r + 1) 175 args σ K := hC r 175 args σ K h
theorem r_x_onlyOneOf {CALL : Nat → Nat → List AV → AM → (AV → AM → Prop) → Prop} (hC : RuleAll CALL) {r : Nat} {args : List AV} {σ : AM} {K : AV → AM → Prop} (h : ∀ J : Nat → List AV → List AV → AM → Prop, (∀ pc lv st σ, wpb (CALL r) K J (b_x_onlyOneOf pc) lv st σ → J pc lv st σ) → J 0 (ent 1 args) [] σ) : CALL (r + 1) 176 args σ K := hC r 176 args σ K h
theorem r_x_speechOf {CALL : Nat → Nat → List AV → AM → (AV → AM → Prop) → Prop} (hC : RuleAll CALL) {r : Nat} {args : List AV} {σ : AM} {K : AV → AM → Prop} (h : ∀ J : Nat → List AV → List AV → AM → Prop, (∀ pc lv st σ, wpb (CALL r) K J (b_x_speechOf pc) lv st σ → J pc lv st σ) → J 0 (ent 2 args) [] σ) : CALL (r + 1) 177 args σ K := hC r 177 args σ K h
theorem r_x_monkOf {CALL : Nat → Nat → List AV → AM → (AV → AM → Prop) → Prop} (hC : RuleAll CALL) {r : Nat} {args : List AV} {σ : AM} {K : AV → AM → Prop} (h : ∀ J : Nat → List AV → List AV → AM → Prop, (∀ pc lv st σ, wpb (CALL r) K J (b_x_monkOf pc) lv st σ → J pc lv st σ) → J 0 (ent 1 args) [] σ) : CALL (r + 1) 178 args σ K := hC r 178 args σ K h
theorem r_x_topicOf {CALL : Nat → Nat → List AV → AM → (AV → AM → Prop) → Prop} (hC : RuleAll CALL) {r : Nat} {args : List AV} {σ : AM} {K : AV → AM → Prop} (h : ∀ J : Nat → List AV → List AV → AM → Prop, (∀ pc lv st σ, wpb (CALL r) K J (b_x_topicOf pc) lv st σ → J pc lv st σ) → J 0 (ent 1 args) [] σ) : CALL (r + 1) 179 args σ K := hC r 179 args σ K h
theorem r_m_plain {CALL : Nat → Nat → List AV → AM → (AV → AM → Prop) → Prop} (hC : RuleAll CALL) {r : Nat} {args : List AV} {σ : AM} {K : AV → AM → Prop} (h : ∀ J : Nat → List AV → List AV → AM → Prop, (∀ pc lv st σ, wpb (CALL r) K J (b_m_plain pc) lv st σ → J pc lv st σ) → J 0 (ent 3 args) [] σ) : CALL (r + 1) 180 args σ K := hC r 180 args σ K h
theorem r_m_status {CALL : Nat → Nat → List AV → AM → (AV → AM → Prop) → Prop} (hC : RuleAll CALL) {r : Nat} {args : List AV} {σ : AM} {K : AV → AM → Prop} (h : ∀ J : Nat → List AV → List AV → AM → Prop, (∀ pc lv st σ, wpb (CALL r) K J (b_m_status pc) lv st σ → J pc lv st σ) → J 0 (ent 1 args) [] σ) : CALL (r + 1) 181 args σ K := hC r 181 args σ K h
theorem r_m_top {CALL : Nat → Nat → List AV → AM → (AV → AM → Prop) → Prop} (hC : RuleAll CALL) {r : Nat} {args : List AV} {σ : AM} {K : AV → AM → Prop} (h : ∀ J : Nat → List AV → List AV → AM → Prop, (∀ pc lv st σ, wpb (CALL r) K J (b_m_top pc) lv st σ → J pc lv st σ) → J 0 (ent 1 args) [] σ) : CALL (r + 1) 182 args σ K := hC r 182 args σ K h
theorem r_m_bottom {CALL : Nat → Nat → List AV → AM → (AV → AM → Prop) → Prop} (hC : RuleAll CALL) {r : Nat} {args : List AV} {σ : AM} {K : AV → AM → Prop} (h : ∀ J : Nat → List AV → List AV → AM → Prop, (∀ pc lv st σ, wpb (CALL r) K J (b_m_bottom pc) lv st σ → J pc lv st σ) → J 0 (ent 1 args) [] σ) : CALL (r + 1) 183 args σ K := hC r 183 args σ K h
theorem r_m_is {CALL : Nat → Nat → List AV → AM → (AV → AM → Prop) → Prop} (hC : RuleAll CALL) {r : Nat} {args : List AV} {σ : AM} {K : AV → AM → Prop} (h : ∀ J : Nat → List AV → List AV → AM → Prop, (∀ pc lv st σ, wpb (CALL r) K J (b_m_is pc) lv st σ → J pc lv st σ) → J 0 (ent 2 args) [] σ) : CALL (r + 1) 184 args σ K := hC r 184 args σ K h
theorem r_m_refuse {CALL : Nat → Nat → List AV → AM → (AV → AM → Prop) → Prop} (hC : RuleAll CALL) {r : Nat} {args : List AV} {σ : AM} {K : AV → AM → Prop} (h : ∀ J : Nat → List AV → List AV → AM → Prop, (∀ pc lv st σ, wpb (CALL r) K J (b_m_refuse pc) lv st σ → J pc lv st σ) → J 0 (ent 2 args) [] σ) : CALL (r + 1) 185 args σ K := hC r 185 args σ K h
theorem r_m_gives {CALL : Nat → Nat → List AV → AM → (AV → AM → Prop) → Prop} (hC : RuleAll CALL) {r : Nat} {args : List AV} {σ : AM} {K : AV → AM → Prop} (h : ∀ J : Nat → List AV → List AV → AM → Prop, (∀ pc lv st σ, wpb (CALL r) K J (b_m_gives pc) lv st σ → J pc lv st σ) → J 0 (ent 2 args) [] σ) : CALL (r + 1) 186 args σ K := hC r 186 args σ K h
theorem r_m_orNone {CALL : Nat → Nat → List AV → AM → (AV → AM → Prop) → Prop} (hC : RuleAll CALL) {r : Nat} {args : List AV} {σ : AM} {K : AV → AM → Prop} (h : ∀ J : Nat → List AV → List AV → AM → Prop, (∀ pc lv st σ, wpb (CALL r) K J (b_m_orNone pc) lv st σ → J pc lv st σ) → J 0 (ent 2 args) [] σ) : CALL (r + 1) 187 args σ K := hC r 187 args σ K h
theorem r_m_tellsBy {CALL : Nat → Nat → List AV → AM → (AV → AM → Prop) → Prop} (hC : RuleAll CALL) {r : Nat} {args : List AV} {σ : AM} {K : AV → AM → Prop} (h : ∀ J : Nat → List AV → List AV → AM → Prop, (∀ pc lv st σ, wpb (CALL r) K J (b_m_tellsBy pc) lv st σ → J pc lv st σ) → J 0 (ent 11 args) [] σ) : CALL (r + 1) 188 args σ K := hC r 188 args σ K h
theorem r_m_isTray {CALL : Nat → Nat → List AV → AM → (AV → AM → Prop) → Prop} (hC : RuleAll CALL) {r : Nat} {args : List AV} {σ : AM} {K : AV → AM → Prop} (h : ∀ J : Nat → List AV → List AV → AM → Prop, (∀ pc lv st σ, wpb (CALL r) K J (b_m_isTray pc) lv st σ → J pc lv st σ) → J 0 (ent 1 args) [] σ) : CALL (r + 1) 189 args σ K := hC r 189 args σ K h
theorem r_m_cut {CALL : Nat → Nat → List AV → AM → (AV → AM → Prop) → Prop} (hC : RuleAll CALL) {r : Nat} {args : List AV} {σ : AM} {K : AV → AM → Prop} (h : ∀ J : Nat → List AV → List AV → AM → Prop, (∀ pc lv st σ, wpb (CALL r) K J (b_m_cut pc) lv st σ → J pc lv st σ) → J 0 (ent 3 args) [] σ) : CALL (r + 1) 190 args σ K := hC r 190 args σ K h
theorem r_m_tray {CALL : Nat → Nat → List AV → AM → (AV → AM → Prop) → Prop} (hC : RuleAll CALL) {r : Nat} {args : List AV} {σ : AM} {K : AV → AM → Prop} (h : ∀ J : Nat → List AV → List AV → AM → Prop, (∀ pc lv st σ, wpb (CALL r) K J (b_m_tray pc) lv st σ → J pc lv st σ) → J 0 (ent 5 args) [] σ) : CALL (r + 1) 191 args σ K := hC r 191 args σ K h
theorem r_m_wrongPlace {CALL : Nat → Nat → List AV → AM → (AV → AM → Prop) → Prop} (hC : RuleAll CALL) {r : Nat} {args : List AV} {σ : AM} {K : AV → AM → Prop} (h : ∀ J : Nat → List AV → List AV → AM → Prop, (∀ pc lv st σ, wpb (CALL r) K J (b_m_wrongPlace pc) lv st σ → J pc lv st σ) → J 0 (ent 3 args) [] σ) : CALL (r + 1) 192 args σ K := hC r 192 args σ K h
theorem r_m_write {CALL : Nat → Nat → List AV → AM → (AV → AM → Prop) → Prop} (hC : RuleAll CALL) {r : Nat} {args : List AV} {σ : AM} {K : AV → AM → Prop} (h : ∀ J : Nat → List AV → List AV → AM → Prop, (∀ pc lv st σ, wpb (CALL r) K J (b_m_write pc) lv st σ → J pc lv st σ) → J 0 (ent 6 args) [] σ) : CALL (r + 1) 193 args σ K := hC r 193 args σ K h
theorem r_m_read {CALL : Nat → Nat → List AV → AM → (AV → AM → Prop) → Prop} (hC : RuleAll CALL) {r : Nat} {args : List AV} {σ : AM} {K : AV → AM → Prop} (h : ∀ J : Nat → List AV → List AV → AM → Prop, (∀ pc lv st σ, wpb (CALL r) K J (b_m_read pc) lv st σ → J pc lv st σ) → J 0 (ent 3 args) [] σ) : CALL (r + 1) 194 args σ K := hC r 194 args σ K h
theorem r_m_pour {CALL : Nat → Nat → List AV → AM → (AV → AM → Prop) → Prop} (hC : RuleAll CALL) {r : Nat} {args : List AV} {σ : AM} {K : AV → AM → Prop} (h : ∀ J : Nat → List AV → List AV → AM → Prop, (∀ pc lv st σ, wpb (CALL r) K J (b_m_pour pc) lv st σ → J pc lv st σ) → J 0 (ent 8 args) [] σ) : CALL (r + 1) 195 args σ K := hC r 195 args σ K h
theorem r_m_isFrom {CALL : Nat → Nat → List AV → AM → (AV → AM → Prop) → Prop} (hC : RuleAll CALL) {r : Nat} {args : List AV} {σ : AM} {K : AV → AM → Prop} (h : ∀ J : Nat → List AV → List AV → AM → Prop, (∀ pc lv st σ, wpb (CALL r) K J (b_m_isFrom pc) lv st σ → J pc lv st σ) → J 0 (ent 6 args) [] σ) : CALL (r + 1) 196 args σ K := hC r 196 args σ K h
theorem r_m_feed {CALL : Nat → Nat → List AV → AM → (AV → AM → Prop) → Prop} (hC : RuleAll CALL) {r : Nat} {args : List AV} {σ : AM} {K : AV → AM → Prop} (h : ∀ J : Nat → List AV → List AV → AM → Prop, (∀ pc lv st σ, wpb (CALL r) K J (b_m_feed pc) lv st σ → J pc lv st σ) → J 0 (ent 6 args) [] σ) : CALL (r + 1) 197 args σ K := hC r 197 args σ K h
theorem r_m_four {CALL : Nat → Nat → List AV → AM → (AV → AM → Prop) → Prop} (hC : RuleAll CALL) {r : Nat} {args : List AV} {σ : AM} {K : AV → AM → Prop} (h : ∀ J : Nat → List AV → List AV → AM → Prop, (∀ pc lv st σ, wpb (CALL r) K J (b_m_four pc) lv st σ → J pc lv st σ) → J 0 (ent 3 args) [] σ) : CALL (r + 1) 198 args σ K := hC r 198 args σ K h
theorem r_m_byteAt {CALL : Nat → Nat → List AV → AM → (AV → AM → Prop) → Prop} (hC : RuleAll CALL) {r : Nat} {args : List AV} {σ : AM} {K : AV → AM → Prop} (h : ∀ J : Nat → List AV → List AV → AM → Prop, (∀ pc lv st σ, wpb (CALL r) K J (b_m_byteAt pc) lv st σ → J pc lv st σ) → J 0 (ent 2 args) [] σ) : CALL (r + 1) 199 args σ K := hC r 199 args σ K h
theorem r_m_isSmall {CALL : Nat → Nat → List AV → AM → (AV → AM → Prop) → Prop} (hC : RuleAll CALL) {r : Nat} {args : List AV} {σ : AM} {K : AV → AM → Prop} (h : ∀ J : Nat → List AV → List AV → AM → Prop, (∀ pc lv st σ, wpb (CALL r) K J (b_m_isSmall pc) lv st σ → J pc lv st σ) → J 0 (ent 1 args) [] σ) : CALL (r + 1) 200 args σ K := hC r 200 args σ K h
theorem r_m_isDigit {CALL : Nat → Nat → List AV → AM → (AV → AM → Prop) → Prop} (hC : RuleAll CALL) {r : Nat} {args : List AV} {σ : AM} {K : AV → AM → Prop} (h : ∀ J : Nat → List AV → List AV → AM → Prop, (∀ pc lv st σ, wpb (CALL r) K J (b_m_isDigit pc) lv st σ → J pc lv st σ) → J 0 (ent 1 args) [] σ) : CALL (r + 1) 201 args σ K := hC r 201 args σ K h
theorem r_m_ahead {CALL : Nat → Nat → List AV → AM → (AV → AM → Prop) → Prop} (hC : RuleAll CALL) {r : Nat} {args : List AV} {σ : AM} {K : AV → AM → Prop} (h : ∀ J : Nat → List AV → List AV → AM → Prop, (∀ pc lv st σ, wpb (CALL r) K J (b_m_ahead pc) lv st σ → J pc lv st σ) → J 0 (ent 2 args) [] σ) : CALL (r + 1) 202 args σ K := hC r 202 args σ K h
theorem r_m_isSign {CALL : Nat → Nat → List AV → AM → (AV → AM → Prop) → Prop} (hC : RuleAll CALL) {r : Nat} {args : List AV} {σ : AM} {K : AV → AM → Prop} (h : ∀ J : Nat → List AV → List AV → AM → Prop, (∀ pc lv st σ, wpb (CALL r) K J (b_m_isSign pc) lv st σ → J pc lv st σ) → J 0 (ent 2 args) [] σ) : CALL (r + 1) 203 args σ K := hC r 203 args σ K h
theorem r_m_inWords {CALL : Nat → Nat → List AV → AM → (AV → AM → Prop) → Prop} (hC : RuleAll CALL) {r : Nat} {args : List AV} {σ : AM} {K : AV → AM → Prop} (h : ∀ J : Nat → List AV → List AV → AM → Prop, (∀ pc lv st σ, wpb (CALL r) K J (b_m_inWords pc) lv st σ → J pc lv st σ) → J 0 (ent 7 args) [] σ) : CALL (r + 1) 204 args σ K := hC r 204 args σ K h
theorem r_m_fails {CALL : Nat → Nat → List AV → AM → (AV → AM → Prop) → Prop} (hC : RuleAll CALL) {r : Nat} {args : List AV} {σ : AM} {K : AV → AM → Prop} (h : ∀ J : Nat → List AV → List AV → AM → Prop, (∀ pc lv st σ, wpb (CALL r) K J (b_m_fails pc) lv st σ → J pc lv st σ) → J 0 (ent 2 args) [] σ) : CALL (r + 1) 205 args σ K := hC r 205 args σ K h
theorem r_m_begins {CALL : Nat → Nat → List AV → AM → (AV → AM → Prop) → Prop} (hC : RuleAll CALL) {r : Nat} {args : List AV} {σ : AM} {K : AV → AM → Prop} (h : ∀ J : Nat → List AV → List AV → AM → Prop, (∀ pc lv st σ, wpb (CALL r) K J (b_m_begins pc) lv st σ → J pc lv st σ) → J 0 (ent 4 args) [] σ) : CALL (r + 1) 206 args σ K := hC r 206 args σ K h
theorem r_m_wantSign {CALL : Nat → Nat → List AV → AM → (AV → AM → Prop) → Prop} (hC : RuleAll CALL) {r : Nat} {args : List AV} {σ : AM} {K : AV → AM → Prop} (h : ∀ J : Nat → List AV → List AV → AM → Prop, (∀ pc lv st σ, wpb (CALL r) K J (b_m_wantSign pc) lv st σ → J pc lv st σ) → J 0 (ent 2 args) [] σ) : CALL (r + 1) 207 args σ K := hC r 207 args σ K h
theorem r_m_wantWord {CALL : Nat → Nat → List AV → AM → (AV → AM → Prop) → Prop} (hC : RuleAll CALL) {r : Nat} {args : List AV} {σ : AM} {K : AV → AM → Prop} (h : ∀ J : Nat → List AV → List AV → AM → Prop, (∀ pc lv st σ, wpb (CALL r) K J (b_m_wantWord pc) lv st σ → J pc lv st σ) → J 0 (ent 3 args) [] σ) : CALL (r + 1) 208 args σ K := hC r 208 args σ K h
theorem r_m_number {CALL : Nat → Nat → List AV → AM → (AV → AM → Prop) → Prop} (hC : RuleAll CALL) {r : Nat} {args : List AV} {σ : AM} {K : AV → AM → Prop} (h : ∀ J : Nat → List AV → List AV → AM → Prop, (∀ pc lv st σ, wpb (CALL r) K J (b_m_number pc) lv st σ → J pc lv st σ) → J 0 (ent 4 args) [] σ) : CALL (r + 1) 209 args σ K := hC r 209 args σ K h
theorem r_m_isName {CALL : Nat → Nat → List AV → AM → (AV → AM → Prop) → Prop} (hC : RuleAll CALL) {r : Nat} {args : List AV} {σ : AM} {K : AV → AM → Prop} (h : ∀ J : Nat → List AV → List AV → AM → Prop, (∀ pc lv st σ, wpb (CALL r) K J (b_m_isName pc) lv st σ → J pc lv st σ) → J 0 (ent 2 args) [] σ) : CALL (r + 1) 210 args σ K := hC r 210 args σ K h
theorem r_m_nameHere {CALL : Nat → Nat → List AV → AM → (AV → AM → Prop) → Prop} (hC : RuleAll CALL) {r : Nat} {args : List AV} {σ : AM} {K : AV → AM → Prop} (h : ∀ J : Nat → List AV → List AV → AM → Prop, (∀ pc lv st σ, wpb (CALL r) K J (b_m_nameHere pc) lv st σ → J pc lv st σ) → J 0 (ent 4 args) [] σ) : CALL (r + 1) 211 args σ K := hC r 211 args σ K h
theorem r_m_findHere {CALL : Nat → Nat → List AV → AM → (AV → AM → Prop) → Prop} (hC : RuleAll CALL) {r : Nat} {args : List AV} {σ : AM} {K : AV → AM → Prop} (h : ∀ J : Nat → List AV → List AV → AM → Prop, (∀ pc lv st σ, wpb (CALL r) K J (b_m_findHere pc) lv st σ → J pc lv st σ) → J 0 (ent 4 args) [] σ) : CALL (r + 1) 212 args σ K := hC r 212 args σ K h
theorem r_m_fault {CALL : Nat → Nat → List AV → AM → (AV → AM → Prop) → Prop} (hC : RuleAll CALL) {r : Nat} {args : List AV} {σ : AM} {K : AV → AM → Prop} (h : ∀ J : Nat → List AV → List AV → AM → Prop, (∀ pc lv st σ, wpb (CALL r) K J (b_m_fault pc) lv st σ → J pc lv st σ) → J 0 (ent 2 args) [] σ) : CALL (r + 1) 213 args σ K := hC r 213 args σ K h
theorem r_m_taken {CALL : Nat → Nat → List AV → AM → (AV → AM → Prop) → Prop} (hC : RuleAll CALL) {r : Nat} {args : List AV} {σ : AM} {K : AV → AM → Prop} (h : ∀ J : Nat → List AV → List AV → AM → Prop, (∀ pc lv st σ, wpb (CALL r) K J (b_m_taken pc) lv st σ → J pc lv st σ) → J 0 (ent 2 args) [] σ) : CALL (r + 1) 214 args σ K := hC r 214 args σ K h
theorem r_m_isThere {CALL : Nat → Nat → List AV → AM → (AV → AM → Prop) → Prop} (hC : RuleAll CALL) {r : Nat} {args : List AV} {σ : AM} {K : AV → AM → Prop} (h : ∀ J : Nat → List AV → List AV → AM → Prop, (∀ pc lv st σ, wpb (CALL r) K J (b_m_isThere pc) lv st σ → J pc lv st σ) → J 0 (ent 2 args) [] σ) : CALL (r + 1) 215 args σ K := hC r 215 args σ K h
theorem r_m_newOne {CALL : Nat → Nat → List AV → AM → (AV → AM → Prop) → Prop} (hC : RuleAll CALL) {r : Nat} {args : List AV} {σ : AM} {K : AV → AM → Prop} (h : ∀ J : Nat → List AV → List AV → AM → Prop, (∀ pc lv st σ, wpb (CALL r) K J (b_m_newOne pc) lv st σ → J pc lv st σ) → J 0 (ent 4 args) [] σ) : CALL (r + 1) 216 args σ K := hC r 216 args σ K h
theorem r_m_oldOne {CALL : Nat → Nat → List AV → AM → (AV → AM → Prop) → Prop} (hC : RuleAll CALL) {r : Nat} {args : List AV} {σ : AM} {K : AV → AM → Prop} (h : ∀ J : Nat → List AV → List AV → AM → Prop, (∀ pc lv st σ, wpb (CALL r) K J (b_m_oldOne pc) lv st σ → J pc lv st σ) → J 0 (ent 4 args) [] σ) : CALL (r + 1) 217 args σ K := hC r 217 args σ K h
theorem r_m_newTopicTo {CALL : Nat → Nat → List AV → AM → (AV → AM → Prop) → Prop} (hC : RuleAll CALL) {r : Nat} {args : List AV} {σ : AM} {K : AV → AM → Prop} (h : ∀ J : Nat → List AV → List AV → AM → Prop, (∀ pc lv st σ, wpb (CALL r) K J (b_m_newTopicTo pc) lv st σ → J pc lv st σ) → J 0 (ent 2 args) [] σ) : CALL (r + 1) 218 args σ K := hC r 218 args σ K h
theorem r_m_newMonkTo {CALL : Nat → Nat → List AV → AM → (AV → AM → Prop) → Prop} (hC : RuleAll CALL) {r : Nat} {args : List AV} {σ : AM} {K : AV → AM → Prop} (h : ∀ J : Nat → List AV → List AV → AM → Prop, (∀ pc lv st σ, wpb (CALL r) K J (b_m_newMonkTo pc) lv st σ → J pc lv st σ) → J 0 (ent 2 args) [] σ) : CALL (r + 1) 219 args σ K := hC r 219 args σ K h
theorem r_m_aTopic {CALL : Nat → Nat → List AV → AM → (AV → AM → Prop) → Prop} (hC : RuleAll CALL) {r : Nat} {args : List AV} {σ : AM} {K : AV → AM → Prop} (h : ∀ J : Nat → List AV → List AV → AM → Prop, (∀ pc lv st σ, wpb (CALL r) K J (b_m_aTopic pc) lv st σ → J pc lv st σ) → J 0 (ent 2 args) [] σ) : CALL (r + 1) 220 args σ K := hC r 220 args σ K h
theorem r_m_aMonk {CALL : Nat → Nat → List AV → AM → (AV → AM → Prop) → Prop} (hC : RuleAll CALL) {r : Nat} {args : List AV} {σ : AM} {K : AV → AM → Prop} (h : ∀ J : Nat → List AV → List AV → AM → Prop, (∀ pc lv st σ, wpb (CALL r) K J (b_m_aMonk pc) lv st σ → J pc lv st σ) → J 0 (ent 2 args) [] σ) : CALL (r + 1) 221 args σ K := hC r 221 args σ K h
theorem r_m_aFollowing {CALL : Nat → Nat → List AV → AM → (AV → AM → Prop) → Prop} (hC : RuleAll CALL) {r : Nat} {args : List AV} {σ : AM} {K : AV → AM → Prop} (h : ∀ J : Nat → List AV → List AV → AM → Prop, (∀ pc lv st σ, wpb (CALL r) K J (b_m_aFollowing pc) lv st σ → J pc lv st σ) → J 0 (ent 2 args) [] σ) : CALL (r + 1) 222 args σ K := hC r 222 args σ K h
theorem r_m_anEntry {CALL : Nat → Nat → List AV → AM → (AV → AM → Prop) → Prop} (hC : RuleAll CALL) {r : Nat} {args : List AV} {σ : AM} {K : AV → AM → Prop} (h : ∀ J : Nat → List AV → List AV → AM → Prop, (∀ pc lv st σ, wpb (CALL r) K J (b_m_anEntry pc) lv st σ → J pc lv st σ) → J 0 (ent 2 args) [] σ) : CALL (r + 1) 223 args σ K := hC r 223 args σ K h
theorem r_m_aHearing {CALL : Nat → Nat → List AV → AM → (AV → AM → Prop) → Prop} (hC : RuleAll CALL) {r : Nat} {args : List AV} {σ : AM} {K : AV → AM → Prop} (h : ∀ J : Nat → List AV → List AV → AM → Prop, (∀ pc lv st σ, wpb (CALL r) K J (b_m_aHearing pc) lv st σ → J pc lv st σ) → J 0 (ent 2 args) [] σ) : CALL (r + 1) 224 args σ K := hC r 224 args σ K h
theorem r_m_housePart {CALL : Nat → Nat → List AV → AM → (AV → AM → Prop) → Prop} (hC : RuleAll CALL) {r : Nat} {args : List AV} {σ : AM} {K : AV → AM → Prop} (h : ∀ J : Nat → List AV → List AV → AM → Prop, (∀ pc lv st σ, wpb (CALL r) K J (b_m_housePart pc) lv st σ → J pc lv st σ) → J 0 (ent 3 args) [] σ) : CALL (r + 1) 225 args σ K := hC r 225 args σ K h
theorem r_m_house {CALL : Nat → Nat → List AV → AM → (AV → AM → Prop) → Prop} (hC : RuleAll CALL) {r : Nat} {args : List AV} {σ : AM} {K : AV → AM → Prop} (h : ∀ J : Nat → List AV → List AV → AM → Prop, (∀ pc lv st σ, wpb (CALL r) K J (b_m_house pc) lv st σ → J pc lv st σ) → J 0 (ent 4 args) [] σ) : CALL (r + 1) 226 args σ K := hC r 226 args σ K h
theorem r_m_monkTo {CALL : Nat → Nat → List AV → AM → (AV → AM → Prop) → Prop} (hC : RuleAll CALL) {r : Nat} {args : List AV} {σ : AM} {K : AV → AM → Prop} (h : ∀ J : Nat → List AV → List AV → AM → Prop, (∀ pc lv st σ, wpb (CALL r) K J (b_m_monkTo pc) lv st σ → J pc lv st σ) → J 0 (ent 2 args) [] σ) : CALL (r + 1) 227 args σ K := hC r 227 args σ K h
theorem r_m_test {CALL : Nat → Nat → List AV → AM → (AV → AM → Prop) → Prop} (hC : RuleAll CALL) {r : Nat} {args : List AV} {σ : AM} {K : AV → AM → Prop} (h : ∀ J : Nat → List AV → List AV → AM → Prop, (∀ pc lv st σ, wpb (CALL r) K J (b_m_test pc) lv st σ → J pc lv st σ) → J 0 (ent 3 args) [] σ) : CALL (r + 1) 228 args σ K := hC r 228 args σ K h
theorem r_m_dayOrder {CALL : Nat → Nat → List AV → AM → (AV → AM → Prop) → Prop} (hC : RuleAll CALL) {r : Nat} {args : List AV} {σ : AM} {K : AV → AM → Prop} (h : ∀ J : Nat → List AV → List AV → AM → Prop, (∀ pc lv st σ, wpb (CALL r) K J (b_m_dayOrder pc) lv st σ → J pc lv st σ) → J 0 (ent 3 args) [] σ) : CALL (r + 1) 229 args σ K := hC r 229 args σ K h
theorem r_m_dayStep {CALL : Nat → Nat → List AV → AM → (AV → AM → Prop) → Prop} (hC : RuleAll CALL) {r : Nat} {args : List AV} {σ : AM} {K : AV → AM → Prop} (h : ∀ J : Nat → List AV → List AV → AM → Prop, (∀ pc lv st σ, wpb (CALL r) K J (b_m_dayStep pc) lv st σ → J pc lv st σ) → J 0 (ent 6 args) [] σ) : CALL (r + 1) 230 args σ K := hC r 230 args σ K h
theorem r_m_days {CALL : Nat → Nat → List AV → AM → (AV → AM → Prop) → Prop} (hC : RuleAll CALL) {r : Nat} {args : List AV} {σ : AM} {K : AV → AM → Prop} (h : ∀ J : Nat → List AV → List AV → AM → Prop, (∀ pc lv st σ, wpb (CALL r) K J (b_m_days pc) lv st σ → J pc lv st σ) → J 0 (ent 4 args) [] σ) : CALL (r + 1) 231 args σ K := hC r 231 args σ K h
theorem r_m_topicRow {CALL : Nat → Nat → List AV → AM → (AV → AM → Prop) → Prop} (hC : RuleAll CALL) {r : Nat} {args : List AV} {σ : AM} {K : AV → AM → Prop} (h : ∀ J : Nat → List AV → List AV → AM → Prop, (∀ pc lv st σ, wpb (CALL r) K J (b_m_topicRow pc) lv st σ → J pc lv st σ) → J 0 (ent 1 args) [] σ) : CALL (r + 1) 232 args σ K := hC r 232 args σ K h
theorem r_m_monkRow {CALL : Nat → Nat → List AV → AM → (AV → AM → Prop) → Prop} (hC : RuleAll CALL) {r : Nat} {args : List AV} {σ : AM} {K : AV → AM → Prop} (h : ∀ J : Nat → List AV → List AV → AM → Prop, (∀ pc lv st σ, wpb (CALL r) K J (b_m_monkRow pc) lv st σ → J pc lv st σ) → J 0 (ent 1 args) [] σ) : CALL (r + 1) 233 args σ K := hC r 233 args σ K h
theorem r_m_entryRow {CALL : Nat → Nat → List AV → AM → (AV → AM → Prop) → Prop} (hC : RuleAll CALL) {r : Nat} {args : List AV} {σ : AM} {K : AV → AM → Prop} (h : ∀ J : Nat → List AV → List AV → AM → Prop, (∀ pc lv st σ, wpb (CALL r) K J (b_m_entryRow pc) lv st σ → J pc lv st σ) → J 0 (ent 1 args) [] σ) : CALL (r + 1) 234 args σ K := hC r 234 args σ K h
theorem r_m_isTopic {CALL : Nat → Nat → List AV → AM → (AV → AM → Prop) → Prop} (hC : RuleAll CALL) {r : Nat} {args : List AV} {σ : AM} {K : AV → AM → Prop} (h : ∀ J : Nat → List AV → List AV → AM → Prop, (∀ pc lv st σ, wpb (CALL r) K J (b_m_isTopic pc) lv st σ → J pc lv st σ) → J 0 (ent 3 args) [] σ) : CALL (r + 1) 235 args σ K := hC r 235 args σ K h
theorem r_m_isMonk {CALL : Nat → Nat → List AV → AM → (AV → AM → Prop) → Prop} (hC : RuleAll CALL) {r : Nat} {args : List AV} {σ : AM} {K : AV → AM → Prop} (h : ∀ J : Nat → List AV → List AV → AM → Prop, (∀ pc lv st σ, wpb (CALL r) K J (b_m_isMonk pc) lv st σ → J pc lv st σ) → J 0 (ent 2 args) [] σ) : CALL (r + 1) 236 args σ K := hC r 236 args σ K h
theorem r_m_isEntry {CALL : Nat → Nat → List AV → AM → (AV → AM → Prop) → Prop} (hC : RuleAll CALL) {r : Nat} {args : List AV} {σ : AM} {K : AV → AM → Prop} (h : ∀ J : Nat → List AV → List AV → AM → Prop, (∀ pc lv st σ, wpb (CALL r) K J (b_m_isEntry pc) lv st σ → J pc lv st σ) → J 0 (ent 2 args) [] σ) : CALL (r + 1) 237 args σ K := hC r 237 args σ K h
theorem r_m_areMonks {CALL : Nat → Nat → List AV → AM → (AV → AM → Prop) → Prop} (hC : RuleAll CALL) {r : Nat} {args : List AV} {σ : AM} {K : AV → AM → Prop} (h : ∀ J : Nat → List AV → List AV → AM → Prop, (∀ pc lv st σ, wpb (CALL r) K J (b_m_areMonks pc) lv st σ → J pc lv st σ) → J 0 (ent 2 args) [] σ) : CALL (r + 1) 238 args σ K := hC r 238 args σ K h
theorem r_m_isIn {CALL : Nat → Nat → List AV → AM → (AV → AM → Prop) → Prop} (hC : RuleAll CALL) {r : Nat} {args : List AV} {σ : AM} {K : AV → AM → Prop} (h : ∀ J : Nat → List AV → List AV → AM → Prop, (∀ pc lv st σ, wpb (CALL r) K J (b_m_isIn pc) lv st σ → J pc lv st σ) → J 0 (ent 3 args) [] σ) : CALL (r + 1) 239 args σ K := hC r 239 args σ K h
theorem r_m_bits {CALL : Nat → Nat → List AV → AM → (AV → AM → Prop) → Prop} (hC : RuleAll CALL) {r : Nat} {args : List AV} {σ : AM} {K : AV → AM → Prop} (h : ∀ J : Nat → List AV → List AV → AM → Prop, (∀ pc lv st σ, wpb (CALL r) K J (b_m_bits pc) lv st σ → J pc lv st σ) → J 0 (ent 3 args) [] σ) : CALL (r + 1) 240 args σ K := hC r 240 args σ K h
theorem r_m_monkOf {CALL : Nat → Nat → List AV → AM → (AV → AM → Prop) → Prop} (hC : RuleAll CALL) {r : Nat} {args : List AV} {σ : AM} {K : AV → AM → Prop} (h : ∀ J : Nat → List AV → List AV → AM → Prop, (∀ pc lv st σ, wpb (CALL r) K J (b_m_monkOf pc) lv st σ → J pc lv st σ) → J 0 (ent 3 args) [] σ) : CALL (r + 1) 241 args σ K := hC r 241 args σ K h
theorem r_m_costOf {CALL : Nat → Nat → List AV → AM → (AV → AM → Prop) → Prop} (hC : RuleAll CALL) {r : Nat} {args : List AV} {σ : AM} {K : AV → AM → Prop} (h : ∀ J : Nat → List AV → List AV → AM → Prop, (∀ pc lv st σ, wpb (CALL r) K J (b_m_costOf pc) lv st σ → J pc lv st σ) → J 0 (ent 2 args) [] σ) : CALL (r + 1) 242 args σ K := hC r 242 args σ K h
theorem r_m_nextOf {CALL : Nat → Nat → List AV → AM → (AV → AM → Prop) → Prop} (hC : RuleAll CALL) {r : Nat} {args : List AV} {σ : AM} {K : AV → AM → Prop} (h : ∀ J : Nat → List AV → List AV → AM → Prop, (∀ pc lv st σ, wpb (CALL r) K J (b_m_nextOf pc) lv st σ → J pc lv st σ) → J 0 (ent 2 args) [] σ) : CALL (r + 1) 243 args σ K := hC r 243 args σ K h
theorem r_m_awake {CALL : Nat → Nat → List AV → AM → (AV → AM → Prop) → Prop} (hC : RuleAll CALL) {r : Nat} {args : List AV} {σ : AM} {K : AV → AM → Prop} (h : ∀ J : Nat → List AV → List AV → AM → Prop, (∀ pc lv st σ, wpb (CALL r) K J (b_m_awake pc) lv st σ → J pc lv st σ) → J 0 (ent 3 args) [] σ) : CALL (r + 1) 244 args σ K := hC r 244 args σ K h
theorem r_m_aheadOf {CALL : Nat → Nat → List AV → AM → (AV → AM → Prop) → Prop} (hC : RuleAll CALL) {r : Nat} {args : List AV} {σ : AM} {K : AV → AM → Prop} (h : ∀ J : Nat → List AV → List AV → AM → Prop, (∀ pc lv st σ, wpb (CALL r) K J (b_m_aheadOf pc) lv st σ → J pc lv st σ) → J 0 (ent 4 args) [] σ) : CALL (r + 1) 245 args σ K := hC r 245 args σ K h
theorem r_m_told {CALL : Nat → Nat → List AV → AM → (AV → AM → Prop) → Prop} (hC : RuleAll CALL) {r : Nat} {args : List AV} {σ : AM} {K : AV → AM → Prop} (h : ∀ J : Nat → List AV → List AV → AM → Prop, (∀ pc lv st σ, wpb (CALL r) K J (b_m_told pc) lv st σ → J pc lv st σ) → J 0 (ent 2 args) [] σ) : CALL (r + 1) 246 args σ K := hC r 246 args σ K h
theorem r_m_topic {CALL : Nat → Nat → List AV → AM → (AV → AM → Prop) → Prop} (hC : RuleAll CALL) {r : Nat} {args : List AV} {σ : AM} {K : AV → AM → Prop} (h : ∀ J : Nat → List AV → List AV → AM → Prop, (∀ pc lv st σ, wpb (CALL r) K J (b_m_topic pc) lv st σ → J pc lv st σ) → J 0 (ent 3 args) [] σ) : CALL (r + 1) 247 args σ K := hC r 247 args σ K h
theorem r_m_monk {CALL : Nat → Nat → List AV → AM → (AV → AM → Prop) → Prop} (hC : RuleAll CALL) {r : Nat} {args : List AV} {σ : AM} {K : AV → AM → Prop} (h : ∀ J : Nat → List AV → List AV → AM → Prop, (∀ pc lv st σ, wpb (CALL r) K J (b_m_monk pc) lv st σ → J pc lv st σ) → J 0 (ent 3 args) [] σ) : CALL (r + 1) 248 args σ K := hC r 248 args σ K h
theorem r_m_entry {CALL : Nat → Nat → List AV → AM → (AV → AM → Prop) → Prop} (hC : RuleAll CALL) {r : Nat} {args : List AV} {σ : AM} {K : AV → AM → Prop} (h : ∀ J : Nat → List AV → List AV → AM → Prop, (∀ pc lv st σ, wpb (CALL r) K J (b_m_entry pc) lv st σ → J pc lv st σ) → J 0 (ent 3 args) [] σ) : CALL (r + 1) 249 args σ K := hC r 249 args σ K h
theorem r_m_silent {CALL : Nat → Nat → List AV → AM → (AV → AM → Prop) → Prop} (hC : RuleAll CALL) {r : Nat} {args : List AV} {σ : AM} {K : AV → AM → Prop} (h : ∀ J : Nat → List AV → List AV → AM → Prop, (∀ pc lv st σ, wpb (CALL r) K J (b_m_silent pc) lv st σ → J pc lv st σ) → J 0 (ent 1 args) [] σ) : CALL (r + 1) 250 args σ K := hC r 250 args σ K h
theorem r_m_last {CALL : Nat → Nat → List AV → AM → (AV → AM → Prop) → Prop} (hC : RuleAll CALL) {r : Nat} {args : List AV} {σ : AM} {K : AV → AM → Prop} (h : ∀ J : Nat → List AV → List AV → AM → Prop, (∀ pc lv st σ, wpb (CALL r) K J (b_m_last pc) lv st σ → J pc lv st σ) → J 0 (ent 1 args) [] σ) : CALL (r + 1) 251 args σ K := hC r 251 args σ K h
theorem r_m_doesFollow {CALL : Nat → Nat → List AV → AM → (AV → AM → Prop) → Prop} (hC : RuleAll CALL) {r : Nat} {args : List AV} {σ : AM} {K : AV → AM → Prop} (h : ∀ J : Nat → List AV → List AV → AM → Prop, (∀ pc lv st σ, wpb (CALL r) K J (b_m_doesFollow pc) lv st σ → J pc lv st σ) → J 0 (ent 2 args) [] σ) : CALL (r + 1) 252 args σ K := hC r 252 args σ K h
theorem r_m_canSay {CALL : Nat → Nat → List AV → AM → (AV → AM → Prop) → Prop} (hC : RuleAll CALL) {r : Nat} {args : List AV} {σ : AM} {K : AV → AM → Prop} (h : ∀ J : Nat → List AV → List AV → AM → Prop, (∀ pc lv st σ, wpb (CALL r) K J (b_m_canSay pc) lv st σ → J pc lv st σ) → J 0 (ent 3 args) [] σ) : CALL (r + 1) 253 args σ K := hC r 253 args σ K h
theorem r_m_topicsOf {CALL : Nat → Nat → List AV → AM → (AV → AM → Prop) → Prop} (hC : RuleAll CALL) {r : Nat} {args : List AV} {σ : AM} {K : AV → AM → Prop} (h : ∀ J : Nat → List AV → List AV → AM → Prop, (∀ pc lv st σ, wpb (CALL r) K J (b_m_topicsOf pc) lv st σ → J pc lv st σ) → J 0 (ent 4 args) [] σ) : CALL (r + 1) 254 args σ K := hC r 254 args σ K h
theorem r_m_can {CALL : Nat → Nat → List AV → AM → (AV → AM → Prop) → Prop} (hC : RuleAll CALL) {r : Nat} {args : List AV} {σ : AM} {K : AV → AM → Prop} (h : ∀ J : Nat → List AV → List AV → AM → Prop, (∀ pc lv st σ, wpb (CALL r) K J (b_m_can pc) lv st σ → J pc lv st σ) → J 0 (ent 3 args) [] σ) : CALL (r + 1) 255 args σ K := hC r 255 args σ K h
theorem r_m_topics {CALL : Nat → Nat → List AV → AM → (AV → AM → Prop) → Prop} (hC : RuleAll CALL) {r : Nat} {args : List AV} {σ : AM} {K : AV → AM → Prop} (h : ∀ J : Nat → List AV → List AV → AM → Prop, (∀ pc lv st σ, wpb (CALL r) K J (b_m_topics pc) lv st σ → J pc lv st σ) → J 0 (ent 2 args) [] σ) : CALL (r + 1) 256 args σ K := hC r 256 args σ K h
theorem r_m_speakers {CALL : Nat → Nat → List AV → AM → (AV → AM → Prop) → Prop} (hC : RuleAll CALL) {r : Nat} {args : List AV} {σ : AM} {K : AV → AM → Prop} (h : ∀ J : Nat → List AV → List AV → AM → Prop, (∀ pc lv st σ, wpb (CALL r) K J (b_m_speakers pc) lv st σ → J pc lv st σ) → J 0 (ent 4 args) [] σ) : CALL (r + 1) 257 args σ K := hC r 257 args σ K h
theorem r_m_laysSpeaker {CALL : Nat → Nat → List AV → AM → (AV → AM → Prop) → Prop} (hC : RuleAll CALL) {r : Nat} {args : List AV} {σ : AM} {K : AV → AM → Prop} (h : ∀ J : Nat → List AV → List AV → AM → Prop, (∀ pc lv st σ, wpb (CALL r) K J (b_m_laysSpeaker pc) lv st σ → J pc lv st σ) → J 0 (ent 3 args) [] σ) : CALL (r + 1) 258 args σ K := hC r 258 args σ K h
theorem r_m_speaker {CALL : Nat → Nat → List AV → AM → (AV → AM → Prop) → Prop} (hC : RuleAll CALL) {r : Nat} {args : List AV} {σ : AM} {K : AV → AM → Prop} (h : ∀ J : Nat → List AV → List AV → AM → Prop, (∀ pc lv st σ, wpb (CALL r) K J (b_m_speaker pc) lv st σ → J pc lv st σ) → J 0 (ent 1 args) [] σ) : CALL (r + 1) 259 args σ K := hC r 259 args σ K h
theorem r_m_spoken {CALL : Nat → Nat → List AV → AM → (AV → AM → Prop) → Prop} (hC : RuleAll CALL) {r : Nat} {args : List AV} {σ : AM} {K : AV → AM → Prop} (h : ∀ J : Nat → List AV → List AV → AM → Prop, (∀ pc lv st σ, wpb (CALL r) K J (b_m_spoken pc) lv st σ → J pc lv st σ) → J 0 (ent 1 args) [] σ) : CALL (r + 1) 260 args σ K := hC r 260 args σ K h
theorem r_m_saysBy {CALL : Nat → Nat → List AV → AM → (AV → AM → Prop) → Prop} (hC : RuleAll CALL) {r : Nat} {args : List AV} {σ : AM} {K : AV → AM → Prop} (h : ∀ J : Nat → List AV → List AV → AM → Prop, (∀ pc lv st σ, wpb (CALL r) K J (b_m_saysBy pc) lv st σ → J pc lv st σ) → J 0 (ent 5 args) [] σ) : CALL (r + 1) 261 args σ K := hC r 261 args σ K h
theorem r_m_minuteGoes {CALL : Nat → Nat → List AV → AM → (AV → AM → Prop) → Prop} (hC : RuleAll CALL) {r : Nat} {args : List AV} {σ : AM} {K : AV → AM → Prop} (h : ∀ J : Nat → List AV → List AV → AM → Prop, (∀ pc lv st σ, wpb (CALL r) K J (b_m_minuteGoes pc) lv st σ → J pc lv st σ) → J 0 (ent 1 args) [] σ) : CALL (r + 1) 262 args σ K := hC r 262 args σ K h
theorem r_m_minutesGo {CALL : Nat → Nat → List AV → AM → (AV → AM → Prop) → Prop} (hC : RuleAll CALL) {r : Nat} {args : List AV} {σ : AM} {K : AV → AM → Prop} (h : ∀ J : Nat → List AV → List AV → AM → Prop, (∀ pc lv st σ, wpb (CALL r) K J (b_m_minutesGo pc) lv st σ → J pc lv st σ) → J 0 (ent 4 args) [] σ) : CALL (r + 1) 263 args σ K := hC r 263 args σ K h
theorem r_m_minute {CALL : Nat → Nat → List AV → AM → (AV → AM → Prop) → Prop} (hC : RuleAll CALL) {r : Nat} {args : List AV} {σ : AM} {K : AV → AM → Prop} (h : ∀ J : Nat → List AV → List AV → AM → Prop, (∀ pc lv st σ, wpb (CALL r) K J (b_m_minute pc) lv st σ → J pc lv st σ) → J 0 (ent 2 args) [] σ) : CALL (r + 1) 264 args σ K := hC r 264 args σ K h
theorem r_m_changes {CALL : Nat → Nat → List AV → AM → (AV → AM → Prop) → Prop} (hC : RuleAll CALL) {r : Nat} {args : List AV} {σ : AM} {K : AV → AM → Prop} (h : ∀ J : Nat → List AV → List AV → AM → Prop, (∀ pc lv st σ, wpb (CALL r) K J (b_m_changes pc) lv st σ → J pc lv st σ) → J 0 (ent 3 args) [] σ) : CALL (r + 1) 265 args σ K := hC r 265 args σ K h
theorem r_m_change {CALL : Nat → Nat → List AV → AM → (AV → AM → Prop) → Prop} (hC : RuleAll CALL) {r : Nat} {args : List AV} {σ : AM} {K : AV → AM → Prop} (h : ∀ J : Nat → List AV → List AV → AM → Prop, (∀ pc lv st σ, wpb (CALL r) K J (b_m_change pc) lv st σ → J pc lv st σ) → J 0 (ent 3 args) [] σ) : CALL (r + 1) 266 args σ K := hC r 266 args σ K h
theorem r_m_wakes {CALL : Nat → Nat → List AV → AM → (AV → AM → Prop) → Prop} (hC : RuleAll CALL) {r : Nat} {args : List AV} {σ : AM} {K : AV → AM → Prop} (h : ∀ J : Nat → List AV → List AV → AM → Prop, (∀ pc lv st σ, wpb (CALL r) K J (b_m_wakes pc) lv st σ → J pc lv st σ) → J 0 (ent 4 args) [] σ) : CALL (r + 1) 267 args σ K := hC r 267 args σ K h
theorem r_m_wake {CALL : Nat → Nat → List AV → AM → (AV → AM → Prop) → Prop} (hC : RuleAll CALL) {r : Nat} {args : List AV} {σ : AM} {K : AV → AM → Prop} (h : ∀ J : Nat → List AV → List AV → AM → Prop, (∀ pc lv st σ, wpb (CALL r) K J (b_m_wake pc) lv st σ → J pc lv st σ) → J 0 (ent 3 args) [] σ) : CALL (r + 1) 268 args σ K := hC r 268 args σ K h
theorem r_m_follow {CALL : Nat → Nat → List AV → AM → (AV → AM → Prop) → Prop} (hC : RuleAll CALL) {r : Nat} {args : List AV} {σ : AM} {K : AV → AM → Prop} (h : ∀ J : Nat → List AV → List AV → AM → Prop, (∀ pc lv st σ, wpb (CALL r) K J (b_m_follow pc) lv st σ → J pc lv st σ) → J 0 (ent 4 args) [] σ) : CALL (r + 1) 269 args σ K := hC r 269 args σ K h
theorem r_m_hear {CALL : Nat → Nat → List AV → AM → (AV → AM → Prop) → Prop} (hC : RuleAll CALL) {r : Nat} {args : List AV} {σ : AM} {K : AV → AM → Prop} (h : ∀ J : Nat → List AV → List AV → AM → Prop, (∀ pc lv st σ, wpb (CALL r) K J (b_m_hear pc) lv st σ → J pc lv st σ) → J 0 (ent 4 args) [] σ) : CALL (r + 1) 270 args σ K := hC r 270 args σ K h
theorem r_m_enter {CALL : Nat → Nat → List AV → AM → (AV → AM → Prop) → Prop} (hC : RuleAll CALL) {r : Nat} {args : List AV} {σ : AM} {K : AV → AM → Prop} (h : ∀ J : Nat → List AV → List AV → AM → Prop, (∀ pc lv st σ, wpb (CALL r) K J (b_m_enter pc) lv st σ → J pc lv st σ) → J 0 (ent 4 args) [] σ) : CALL (r + 1) 271 args σ K := hC r 271 args σ K h
theorem r_m_strike {CALL : Nat → Nat → List AV → AM → (AV → AM → Prop) → Prop} (hC : RuleAll CALL) {r : Nat} {args : List AV} {σ : AM} {K : AV → AM → Prop} (h : ∀ J : Nat → List AV → List AV → AM → Prop, (∀ pc lv st σ, wpb (CALL r) K J (b_m_strike pc) lv st σ → J pc lv st σ) → J 0 (ent 3 args) [] σ) : CALL (r + 1) 272 args σ K := hC r 272 args σ K h
theorem r_m_breathe {CALL : Nat → Nat → List AV → AM → (AV → AM → Prop) → Prop} (hC : RuleAll CALL) {r : Nat} {args : List AV} {σ : AM} {K : AV → AM → Prop} (h : ∀ J : Nat → List AV → List AV → AM → Prop, (∀ pc lv st σ, wpb (CALL r) K J (b_m_breathe pc) lv st σ → J pc lv st σ) → J 0 (ent 3 args) [] σ) : CALL (r + 1) 273 args σ K := hC r 273 args σ K h
theorem r_m_price {CALL : Nat → Nat → List AV → AM → (AV → AM → Prop) → Prop} (hC : RuleAll CALL) {r : Nat} {args : List AV} {σ : AM} {K : AV → AM → Prop} (h : ∀ J : Nat → List AV → List AV → AM → Prop, (∀ pc lv st σ, wpb (CALL r) K J (b_m_price pc) lv st σ → J pc lv st σ) → J 0 (ent 3 args) [] σ) : CALL (r + 1) 274 args σ K := hC r 274 args σ K h
theorem r_m_rule {CALL : Nat → Nat → List AV → AM → (AV → AM → Prop) → Prop} (hC : RuleAll CALL) {r : Nat} {args : List AV} {σ : AM} {K : AV → AM → Prop} (h : ∀ J : Nat → List AV → List AV → AM → Prop, (∀ pc lv st σ, wpb (CALL r) K J (b_m_rule pc) lv st σ → J pc lv st σ) → J 0 (ent 3 args) [] σ) : CALL (r + 1) 275 args σ K := hC r 275 args σ K h
theorem r_m_keeps {CALL : Nat → Nat → List AV → AM → (AV → AM → Prop) → Prop} (hC : RuleAll CALL) {r : Nat} {args : List AV} {σ : AM} {K : AV → AM → Prop} (h : ∀ J : Nat → List AV → List AV → AM → Prop, (∀ pc lv st σ, wpb (CALL r) K J (b_m_keeps pc) lv st σ → J pc lv st σ) → J 0 (ent 3 args) [] σ) : CALL (r + 1) 276 args σ K := hC r 276 args σ K h
theorem r_m_restores {CALL : Nat → Nat → List AV → AM → (AV → AM → Prop) → Prop} (hC : RuleAll CALL) {r : Nat} {args : List AV} {σ : AM} {K : AV → AM → Prop} (h : ∀ J : Nat → List AV → List AV → AM → Prop, (∀ pc lv st σ, wpb (CALL r) K J (b_m_restores pc) lv st σ → J pc lv st σ) → J 0 (ent 3 args) [] σ) : CALL (r + 1) 277 args σ K := hC r 277 args σ K h
theorem r_m_isSpan {CALL : Nat → Nat → List AV → AM → (AV → AM → Prop) → Prop} (hC : RuleAll CALL) {r : Nat} {args : List AV} {σ : AM} {K : AV → AM → Prop} (h : ∀ J : Nat → List AV → List AV → AM → Prop, (∀ pc lv st σ, wpb (CALL r) K J (b_m_isSpan pc) lv st σ → J pc lv st σ) → J 0 (ent 1 args) [] σ) : CALL (r + 1) 278 args σ K := hC r 278 args σ K h
theorem r_m_speakerIn {CALL : Nat → Nat → List AV → AM → (AV → AM → Prop) → Prop} (hC : RuleAll CALL) {r : Nat} {args : List AV} {σ : AM} {K : AV → AM → Prop} (h : ∀ J : Nat → List AV → List AV → AM → Prop, (∀ pc lv st σ, wpb (CALL r) K J (b_m_speakerIn pc) lv st σ → J pc lv st σ) → J 0 (ent 2 args) [] σ) : CALL (r + 1) 279 args σ K := hC r 279 args σ K h
theorem r_m_breathIn {CALL : Nat → Nat → List AV → AM → (AV → AM → Prop) → Prop} (hC : RuleAll CALL) {r : Nat} {args : List AV} {σ : AM} {K : AV → AM → Prop} (h : ∀ J : Nat → List AV → List AV → AM → Prop, (∀ pc lv st σ, wpb (CALL r) K J (b_m_breathIn pc) lv st σ → J pc lv st σ) → J 0 (ent 4 args) [] σ) : CALL (r + 1) 280 args σ K := hC r 280 args σ K h
theorem r_m_firstPause {CALL : Nat → Nat → List AV → AM → (AV → AM → Prop) → Prop} (hC : RuleAll CALL) {r : Nat} {args : List AV} {σ : AM} {K : AV → AM → Prop} (h : ∀ J : Nat → List AV → List AV → AM → Prop, (∀ pc lv st σ, wpb (CALL r) K J (b_m_firstPause pc) lv st σ → J pc lv st σ) → J 0 (ent 4 args) [] σ) : CALL (r + 1) 281 args σ K := hC r 281 args σ K h
theorem r_m_pauseIn {CALL : Nat → Nat → List AV → AM → (AV → AM → Prop) → Prop} (hC : RuleAll CALL) {r : Nat} {args : List AV} {σ : AM} {K : AV → AM → Prop} (h : ∀ J : Nat → List AV → List AV → AM → Prop, (∀ pc lv st σ, wpb (CALL r) K J (b_m_pauseIn pc) lv st σ → J pc lv st σ) → J 0 (ent 1 args) [] σ) : CALL (r + 1) 282 args σ K := hC r 282 args σ K h
theorem r_m_pausesIn {CALL : Nat → Nat → List AV → AM → (AV → AM → Prop) → Prop} (hC : RuleAll CALL) {r : Nat} {args : List AV} {σ : AM} {K : AV → AM → Prop} (h : ∀ J : Nat → List AV → List AV → AM → Prop, (∀ pc lv st σ, wpb (CALL r) K J (b_m_pausesIn pc) lv st σ → J pc lv st σ) → J 0 (ent 3 args) [] σ) : CALL (r + 1) 283 args σ K := hC r 283 args σ K h
theorem r_m_turnIn {CALL : Nat → Nat → List AV → AM → (AV → AM → Prop) → Prop} (hC : RuleAll CALL) {r : Nat} {args : List AV} {σ : AM} {K : AV → AM → Prop} (h : ∀ J : Nat → List AV → List AV → AM → Prop, (∀ pc lv st σ, wpb (CALL r) K J (b_m_turnIn pc) lv st σ → J pc lv st σ) → J 0 (ent 4 args) [] σ) : CALL (r + 1) 284 args σ K := hC r 284 args σ K h
theorem r_m_unfair {CALL : Nat → Nat → List AV → AM → (AV → AM → Prop) → Prop} (hC : RuleAll CALL) {r : Nat} {args : List AV} {σ : AM} {K : AV → AM → Prop} (h : ∀ J : Nat → List AV → List AV → AM → Prop, (∀ pc lv st σ, wpb (CALL r) K J (b_m_unfair pc) lv st σ → J pc lv st σ) → J 0 (ent 4 args) [] σ) : CALL (r + 1) 285 args σ K := hC r 285 args σ K h
theorem r_m_areEnough {CALL : Nat → Nat → List AV → AM → (AV → AM → Prop) → Prop} (hC : RuleAll CALL) {r : Nat} {args : List AV} {σ : AM} {K : AV → AM → Prop} (h : ∀ J : Nat → List AV → List AV → AM → Prop, (∀ pc lv st σ, wpb (CALL r) K J (b_m_areEnough pc) lv st σ → J pc lv st σ) → J 0 (ent 4 args) [] σ) : CALL (r + 1) 286 args σ K := hC r 286 args σ K h
theorem r_m_isShort {CALL : Nat → Nat → List AV → AM → (AV → AM → Prop) → Prop} (hC : RuleAll CALL) {r : Nat} {args : List AV} {σ : AM} {K : AV → AM → Prop} (h : ∀ J : Nat → List AV → List AV → AM → Prop, (∀ pc lv st σ, wpb (CALL r) K J (b_m_isShort pc) lv st σ → J pc lv st σ) → J 0 (ent 1 args) [] σ) : CALL (r + 1) 287 args σ K := hC r 287 args σ K h
theorem r_m_enough {CALL : Nat → Nat → List AV → AM → (AV → AM → Prop) → Prop} (hC : RuleAll CALL) {r : Nat} {args : List AV} {σ : AM} {K : AV → AM → Prop} (h : ∀ J : Nat → List AV → List AV → AM → Prop, (∀ pc lv st σ, wpb (CALL r) K J (b_m_enough pc) lv st σ → J pc lv st σ) → J 0 (ent 3 args) [] σ) : CALL (r + 1) 288 args σ K := hC r 288 args σ K h
theorem r_m_fewestOf {CALL : Nat → Nat → List AV → AM → (AV → AM → Prop) → Prop} (hC : RuleAll CALL) {r : Nat} {args : List AV} {σ : AM} {K : AV → AM → Prop} (h : ∀ J : Nat → List AV → List AV → AM → Prop, (∀ pc lv st σ, wpb (CALL r) K J (b_m_fewestOf pc) lv st σ → J pc lv st σ) → J 0 (ent 4 args) [] σ) : CALL (r + 1) 289 args σ K := hC r 289 args σ K h
theorem r_m_fewest {CALL : Nat → Nat → List AV → AM → (AV → AM → Prop) → Prop} (hC : RuleAll CALL) {r : Nat} {args : List AV} {σ : AM} {K : AV → AM → Prop} (h : ∀ J : Nat → List AV → List AV → AM → Prop, (∀ pc lv st σ, wpb (CALL r) K J (b_m_fewest pc) lv st σ → J pc lv st σ) → J 0 (ent 3 args) [] σ) : CALL (r + 1) 290 args σ K := hC r 290 args σ K h
theorem r_m_fewestSet {CALL : Nat → Nat → List AV → AM → (AV → AM → Prop) → Prop} (hC : RuleAll CALL) {r : Nat} {args : List AV} {σ : AM} {K : AV → AM → Prop} (h : ∀ J : Nat → List AV → List AV → AM → Prop, (∀ pc lv st σ, wpb (CALL r) K J (b_m_fewestSet pc) lv st σ → J pc lv st σ) → J 0 (ent 2 args) [] σ) : CALL (r + 1) 291 args σ K := hC r 291 args σ K h
theorem r_m_levelAt {CALL : Nat → Nat → List AV → AM → (AV → AM → Prop) → Prop} (hC : RuleAll CALL) {r : Nat} {args : List AV} {σ : AM} {K : AV → AM → Prop} (h : ∀ J : Nat → List AV → List AV → AM → Prop, (∀ pc lv st σ, wpb (CALL r) K J (b_m_levelAt pc) lv st σ → J pc lv st σ) → J 0 (ent 1 args) [] σ) : CALL (r + 1) 292 args σ K := hC r 292 args σ K h
theorem r_m_leastBreath {CALL : Nat → Nat → List AV → AM → (AV → AM → Prop) → Prop} (hC : RuleAll CALL) {r : Nat} {args : List AV} {σ : AM} {K : AV → AM → Prop} (h : ∀ J : Nat → List AV → List AV → AM → Prop, (∀ pc lv st σ, wpb (CALL r) K J (b_m_leastBreath pc) lv st σ → J pc lv st σ) → J 0 (ent 3 args) [] σ) : CALL (r + 1) 293 args σ K := hC r 293 args σ K h
theorem r_m_shifting {CALL : Nat → Nat → List AV → AM → (AV → AM → Prop) → Prop} (hC : RuleAll CALL) {r : Nat} {args : List AV} {σ : AM} {K : AV → AM → Prop} (h : ∀ J : Nat → List AV → List AV → AM → Prop, (∀ pc lv st σ, wpb (CALL r) K J (b_m_shifting pc) lv st σ → J pc lv st σ) → J 0 (ent 6 args) [] σ) : CALL (r + 1) 294 args σ K := hC r 294 args σ K h
theorem r_m_shift {CALL : Nat → Nat → List AV → AM → (AV → AM → Prop) → Prop} (hC : RuleAll CALL) {r : Nat} {args : List AV} {σ : AM} {K : AV → AM → Prop} (h : ∀ J : Nat → List AV → List AV → AM → Prop, (∀ pc lv st σ, wpb (CALL r) K J (b_m_shift pc) lv st σ → J pc lv st σ) → J 0 (ent 2 args) [] σ) : CALL (r + 1) 295 args σ K := hC r 295 args σ K h
theorem r_m_shiftAt {CALL : Nat → Nat → List AV → AM → (AV → AM → Prop) → Prop} (hC : RuleAll CALL) {r : Nat} {args : List AV} {σ : AM} {K : AV → AM → Prop} (h : ∀ J : Nat → List AV → List AV → AM → Prop, (∀ pc lv st σ, wpb (CALL r) K J (b_m_shiftAt pc) lv st σ → J pc lv st σ) → J 0 (ent 4 args) [] σ) : CALL (r + 1) 296 args σ K := hC r 296 args σ K h
theorem r_m_laysTalk {CALL : Nat → Nat → List AV → AM → (AV → AM → Prop) → Prop} (hC : RuleAll CALL) {r : Nat} {args : List AV} {σ : AM} {K : AV → AM → Prop} (h : ∀ J : Nat → List AV → List AV → AM → Prop, (∀ pc lv st σ, wpb (CALL r) K J (b_m_laysTalk pc) lv st σ → J pc lv st σ) → J 0 (ent 6 args) [] σ) : CALL (r + 1) 297 args σ K := hC r 297 args σ K h
theorem r_m_talkFrom {CALL : Nat → Nat → List AV → AM → (AV → AM → Prop) → Prop} (hC : RuleAll CALL) {r : Nat} {args : List AV} {σ : AM} {K : AV → AM → Prop} (h : ∀ J : Nat → List AV → List AV → AM → Prop, (∀ pc lv st σ, wpb (CALL r) K J (b_m_talkFrom pc) lv st σ → J pc lv st σ) → J 0 (ent 2 args) [] σ) : CALL (r + 1) 298 args σ K := hC r 298 args σ K h
theorem r_m_talk {CALL : Nat → Nat → List AV → AM → (AV → AM → Prop) → Prop} (hC : RuleAll CALL) {r : Nat} {args : List AV} {σ : AM} {K : AV → AM → Prop} (h : ∀ J : Nat → List AV → List AV → AM → Prop, (∀ pc lv st σ, wpb (CALL r) K J (b_m_talk pc) lv st σ → J pc lv st σ) → J 0 (ent 2 args) [] σ) : CALL (r + 1) 299 args σ K := hC r 299 args σ K h
theorem r_m_talkAt {CALL : Nat → Nat → List AV → AM → (AV → AM → Prop) → Prop} (hC : RuleAll CALL) {r : Nat} {args : List AV} {σ : AM} {K : AV → AM → Prop} (h : ∀ J : Nat → List AV → List AV → AM → Prop, (∀ pc lv st σ, wpb (CALL r) K J (b_m_talkAt pc) lv st σ → J pc lv st σ) → J 0 (ent 8 args) [] σ) : CALL (r + 1) 300 args σ K := hC r 300 args σ K h
theorem r_m_laysFar {CALL : Nat → Nat → List AV → AM → (AV → AM → Prop) → Prop} (hC : RuleAll CALL) {r : Nat} {args : List AV} {σ : AM} {K : AV → AM → Prop} (h : ∀ J : Nat → List AV → List AV → AM → Prop, (∀ pc lv st σ, wpb (CALL r) K J (b_m_laysFar pc) lv st σ → J pc lv st σ) → J 0 (ent 4 args) [] σ) : CALL (r + 1) 301 args σ K := hC r 301 args σ K h
theorem r_m_nearest {CALL : Nat → Nat → List AV → AM → (AV → AM → Prop) → Prop} (hC : RuleAll CALL) {r : Nat} {args : List AV} {σ : AM} {K : AV → AM → Prop} (h : ∀ J : Nat → List AV → List AV → AM → Prop, (∀ pc lv st σ, wpb (CALL r) K J (b_m_nearest pc) lv st σ → J pc lv st σ) → J 0 (ent 4 args) [] σ) : CALL (r + 1) 302 args σ K := hC r 302 args σ K h
theorem r_m_laysRing {CALL : Nat → Nat → List AV → AM → (AV → AM → Prop) → Prop} (hC : RuleAll CALL) {r : Nat} {args : List AV} {σ : AM} {K : AV → AM → Prop} (h : ∀ J : Nat → List AV → List AV → AM → Prop, (∀ pc lv st σ, wpb (CALL r) K J (b_m_laysRing pc) lv st σ → J pc lv st σ) → J 0 (ent 3 args) [] σ) : CALL (r + 1) 303 args σ K := hC r 303 args σ K h
theorem r_m_ring {CALL : Nat → Nat → List AV → AM → (AV → AM → Prop) → Prop} (hC : RuleAll CALL) {r : Nat} {args : List AV} {σ : AM} {K : AV → AM → Prop} (h : ∀ J : Nat → List AV → List AV → AM → Prop, (∀ pc lv st σ, wpb (CALL r) K J (b_m_ring pc) lv st σ → J pc lv st σ) → J 0 (ent 1 args) [] σ) : CALL (r + 1) 304 args σ K := hC r 304 args σ K h
theorem r_m_ringAt {CALL : Nat → Nat → List AV → AM → (AV → AM → Prop) → Prop} (hC : RuleAll CALL) {r : Nat} {args : List AV} {σ : AM} {K : AV → AM → Prop} (h : ∀ J : Nat → List AV → List AV → AM → Prop, (∀ pc lv st σ, wpb (CALL r) K J (b_m_ringAt pc) lv st σ → J pc lv st σ) → J 0 (ent 5 args) [] σ) : CALL (r + 1) 305 args σ K := hC r 305 args σ K h
theorem r_m_reach {CALL : Nat → Nat → List AV → AM → (AV → AM → Prop) → Prop} (hC : RuleAll CALL) {r : Nat} {args : List AV} {σ : AM} {K : AV → AM → Prop} (h : ∀ J : Nat → List AV → List AV → AM → Prop, (∀ pc lv st σ, wpb (CALL r) K J (b_m_reach pc) lv st σ → J pc lv st σ) → J 0 (ent 5 args) [] σ) : CALL (r + 1) 306 args σ K := hC r 306 args σ K h
theorem r_m_wins {CALL : Nat → Nat → List AV → AM → (AV → AM → Prop) → Prop} (hC : RuleAll CALL) {r : Nat} {args : List AV} {σ : AM} {K : AV → AM → Prop} (h : ∀ J : Nat → List AV → List AV → AM → Prop, (∀ pc lv st σ, wpb (CALL r) K J (b_m_wins pc) lv st σ → J pc lv st σ) → J 0 (ent 2 args) [] σ) : CALL (r + 1) 307 args σ K := hC r 307 args σ K h
theorem r_m_best {CALL : Nat → Nat → List AV → AM → (AV → AM → Prop) → Prop} (hC : RuleAll CALL) {r : Nat} {args : List AV} {σ : AM} {K : AV → AM → Prop} (h : ∀ J : Nat → List AV → List AV → AM → Prop, (∀ pc lv st σ, wpb (CALL r) K J (b_m_best pc) lv st σ → J pc lv st σ) → J 0 (ent 3 args) [] σ) : CALL (r + 1) 308 args σ K := hC r 308 args σ K h
theorem r_m_wrongHeard {CALL : Nat → Nat → List AV → AM → (AV → AM → Prop) → Prop} (hC : RuleAll CALL) {r : Nat} {args : List AV} {σ : AM} {K : AV → AM → Prop} (h : ∀ J : Nat → List AV → List AV → AM → Prop, (∀ pc lv st σ, wpb (CALL r) K J (b_m_wrongHeard pc) lv st σ → J pc lv st σ) → J 0 (ent 4 args) [] σ) : CALL (r + 1) 309 args σ K := hC r 309 args σ K h
theorem r_m_counts {CALL : Nat → Nat → List AV → AM → (AV → AM → Prop) → Prop} (hC : RuleAll CALL) {r : Nat} {args : List AV} {σ : AM} {K : AV → AM → Prop} (h : ∀ J : Nat → List AV → List AV → AM → Prop, (∀ pc lv st σ, wpb (CALL r) K J (b_m_counts pc) lv st σ → J pc lv st σ) → J 0 (ent 3 args) [] σ) : CALL (r + 1) 310 args σ K := hC r 310 args σ K h
theorem r_m_laysHeard {CALL : Nat → Nat → List AV → AM → (AV → AM → Prop) → Prop} (hC : RuleAll CALL) {r : Nat} {args : List AV} {σ : AM} {K : AV → AM → Prop} (h : ∀ J : Nat → List AV → List AV → AM → Prop, (∀ pc lv st σ, wpb (CALL r) K J (b_m_laysHeard pc) lv st σ → J pc lv st σ) → J 0 (ent 5 args) [] σ) : CALL (r + 1) 311 args σ K := hC r 311 args σ K h
theorem r_m_heard {CALL : Nat → Nat → List AV → AM → (AV → AM → Prop) → Prop} (hC : RuleAll CALL) {r : Nat} {args : List AV} {σ : AM} {K : AV → AM → Prop} (h : ∀ J : Nat → List AV → List AV → AM → Prop, (∀ pc lv st σ, wpb (CALL r) K J (b_m_heard pc) lv st σ → J pc lv st σ) → J 0 (ent 4 args) [] σ) : CALL (r + 1) 312 args σ K := hC r 312 args σ K h
theorem r_m_sure {CALL : Nat → Nat → List AV → AM → (AV → AM → Prop) → Prop} (hC : RuleAll CALL) {r : Nat} {args : List AV} {σ : AM} {K : AV → AM → Prop} (h : ∀ J : Nat → List AV → List AV → AM → Prop, (∀ pc lv st σ, wpb (CALL r) K J (b_m_sure pc) lv st σ → J pc lv st σ) → J 0 (ent 5 args) [] σ) : CALL (r + 1) 313 args σ K := hC r 313 args σ K h
theorem r_m_couplesOf {CALL : Nat → Nat → List AV → AM → (AV → AM → Prop) → Prop} (hC : RuleAll CALL) {r : Nat} {args : List AV} {σ : AM} {K : AV → AM → Prop} (h : ∀ J : Nat → List AV → List AV → AM → Prop, (∀ pc lv st σ, wpb (CALL r) K J (b_m_couplesOf pc) lv st σ → J pc lv st σ) → J 0 (ent 5 args) [] σ) : CALL (r + 1) 314 args σ K := hC r 314 args σ K h
theorem r_m_couples {CALL : Nat → Nat → List AV → AM → (AV → AM → Prop) → Prop} (hC : RuleAll CALL) {r : Nat} {args : List AV} {σ : AM} {K : AV → AM → Prop} (h : ∀ J : Nat → List AV → List AV → AM → Prop, (∀ pc lv st σ, wpb (CALL r) K J (b_m_couples pc) lv st σ → J pc lv st σ) → J 0 (ent 2 args) [] σ) : CALL (r + 1) 315 args σ K := hC r 315 args σ K h
theorem r_m_allRead {CALL : Nat → Nat → List AV → AM → (AV → AM → Prop) → Prop} (hC : RuleAll CALL) {r : Nat} {args : List AV} {σ : AM} {K : AV → AM → Prop} (h : ∀ J : Nat → List AV → List AV → AM → Prop, (∀ pc lv st σ, wpb (CALL r) K J (b_m_allRead pc) lv st σ → J pc lv st σ) → J 0 (ent 2 args) [] σ) : CALL (r + 1) 316 args σ K := hC r 316 args σ K h
theorem r_m_coughs {CALL : Nat → Nat → List AV → AM → (AV → AM → Prop) → Prop} (hC : RuleAll CALL) {r : Nat} {args : List AV} {σ : AM} {K : AV → AM → Prop} (h : ∀ J : Nat → List AV → List AV → AM → Prop, (∀ pc lv st σ, wpb (CALL r) K J (b_m_coughs pc) lv st σ → J pc lv st σ) → J 0 (ent 8 args) [] σ) : CALL (r + 1) 317 args σ K := hC r 317 args σ K h
theorem r_m_copyBreath {CALL : Nat → Nat → List AV → AM → (AV → AM → Prop) → Prop} (hC : RuleAll CALL) {r : Nat} {args : List AV} {σ : AM} {K : AV → AM → Prop} (h : ∀ J : Nat → List AV → List AV → AM → Prop, (∀ pc lv st σ, wpb (CALL r) K J (b_m_copyBreath pc) lv st σ → J pc lv st σ) → J 0 (ent 3 args) [] σ) : CALL (r + 1) 318 args σ K := hC r 318 args σ K h
theorem r_m_draw {CALL : Nat → Nat → List AV → AM → (AV → AM → Prop) → Prop} (hC : RuleAll CALL) {r : Nat} {args : List AV} {σ : AM} {K : AV → AM → Prop} (h : ∀ J : Nat → List AV → List AV → AM → Prop, (∀ pc lv st σ, wpb (CALL r) K J (b_m_draw pc) lv st σ → J pc lv st σ) → J 0 (ent 2 args) [] σ) : CALL (r + 1) 319 args σ K := hC r 319 args σ K h
theorem r_m_minutesBy {CALL : Nat → Nat → List AV → AM → (AV → AM → Prop) → Prop} (hC : RuleAll CALL) {r : Nat} {args : List AV} {σ : AM} {K : AV → AM → Prop} (h : ∀ J : Nat → List AV → List AV → AM → Prop, (∀ pc lv st σ, wpb (CALL r) K J (b_m_minutesBy pc) lv st σ → J pc lv st σ) → J 0 (ent 3 args) [] σ) : CALL (r + 1) 320 args σ K := hC r 320 args σ K h
theorem r_m_coughsAny {CALL : Nat → Nat → List AV → AM → (AV → AM → Prop) → Prop} (hC : RuleAll CALL) {r : Nat} {args : List AV} {σ : AM} {K : AV → AM → Prop} (h : ∀ J : Nat → List AV → List AV → AM → Prop, (∀ pc lv st σ, wpb (CALL r) K J (b_m_coughsAny pc) lv st σ → J pc lv st σ) → J 0 (ent 2 args) [] σ) : CALL (r + 1) 321 args σ K := hC r 321 args σ K h
theorem r_m_does {CALL : Nat → Nat → List AV → AM → (AV → AM → Prop) → Prop} (hC : RuleAll CALL) {r : Nat} {args : List AV} {σ : AM} {K : AV → AM → Prop} (h : ∀ J : Nat → List AV → List AV → AM → Prop, (∀ pc lv st σ, wpb (CALL r) K J (b_m_does pc) lv st σ → J pc lv st σ) → J 0 (ent 3 args) [] σ) : CALL (r + 1) 322 args σ K := hC r 322 args σ K h
theorem r_m_holds {CALL : Nat → Nat → List AV → AM → (AV → AM → Prop) → Prop} (hC : RuleAll CALL) {r : Nat} {args : List AV} {σ : AM} {K : AV → AM → Prop} (h : ∀ J : Nat → List AV → List AV → AM → Prop, (∀ pc lv st σ, wpb (CALL r) K J (b_m_holds pc) lv st σ → J pc lv st σ) → J 0 (ent 4 args) [] σ) : CALL (r + 1) 323 args σ K := hC r 323 args σ K h
theorem r_m_behindEnds {CALL : Nat → Nat → List AV → AM → (AV → AM → Prop) → Prop} (hC : RuleAll CALL) {r : Nat} {args : List AV} {σ : AM} {K : AV → AM → Prop} (h : ∀ J : Nat → List AV → List AV → AM → Prop, (∀ pc lv st σ, wpb (CALL r) K J (b_m_behindEnds pc) lv st σ → J pc lv st σ) → J 0 (ent 5 args) [] σ) : CALL (r + 1) 324 args σ K := hC r 324 args σ K h
theorem r_m_lives {CALL : Nat → Nat → List AV → AM → (AV → AM → Prop) → Prop} (hC : RuleAll CALL) {r : Nat} {args : List AV} {σ : AM} {K : AV → AM → Prop} (h : ∀ J : Nat → List AV → List AV → AM → Prop, (∀ pc lv st σ, wpb (CALL r) K J (b_m_lives pc) lv st σ → J pc lv st σ) → J 0 (ent 4 args) [] σ) : CALL (r + 1) 325 args σ K := hC r 325 args σ K h
theorem r_m_live {CALL : Nat → Nat → List AV → AM → (AV → AM → Prop) → Prop} (hC : RuleAll CALL) {r : Nat} {args : List AV} {σ : AM} {K : AV → AM → Prop} (h : ∀ J : Nat → List AV → List AV → AM → Prop, (∀ pc lv st σ, wpb (CALL r) K J (b_m_live pc) lv st σ → J pc lv st σ) → J 0 (ent 3 args) [] σ) : CALL (r + 1) 326 args σ K := hC r 326 args σ K h
theorem r_m_lived {CALL : Nat → Nat → List AV → AM → (AV → AM → Prop) → Prop} (hC : RuleAll CALL) {r : Nat} {args : List AV} {σ : AM} {K : AV → AM → Prop} (h : ∀ J : Nat → List AV → List AV → AM → Prop, (∀ pc lv st σ, wpb (CALL r) K J (b_m_lived pc) lv st σ → J pc lv st σ) → J 0 (ent 2 args) [] σ) : CALL (r + 1) 327 args σ K := hC r 327 args σ K h
theorem r_m_mean {CALL : Nat → Nat → List AV → AM → (AV → AM → Prop) → Prop} (hC : RuleAll CALL) {r : Nat} {args : List AV} {σ : AM} {K : AV → AM → Prop} (h : ∀ J : Nat → List AV → List AV → AM → Prop, (∀ pc lv st σ, wpb (CALL r) K J (b_m_mean pc) lv st σ → J pc lv st σ) → J 0 (ent 6 args) [] σ) : CALL (r + 1) 328 args σ K := hC r 328 args σ K h
theorem r_m_copies {CALL : Nat → Nat → List AV → AM → (AV → AM → Prop) → Prop} (hC : RuleAll CALL) {r : Nat} {args : List AV} {σ : AM} {K : AV → AM → Prop} (h : ∀ J : Nat → List AV → List AV → AM → Prop, (∀ pc lv st σ, wpb (CALL r) K J (b_m_copies pc) lv st σ → J pc lv st σ) → J 0 (ent 4 args) [] σ) : CALL (r + 1) 329 args σ K := hC r 329 args σ K h
theorem r_m_mark {CALL : Nat → Nat → List AV → AM → (AV → AM → Prop) → Prop} (hC : RuleAll CALL) {r : Nat} {args : List AV} {σ : AM} {K : AV → AM → Prop} (h : ∀ J : Nat → List AV → List AV → AM → Prop, (∀ pc lv st σ, wpb (CALL r) K J (b_m_mark pc) lv st σ → J pc lv st σ) → J 0 (ent 1 args) [] σ) : CALL (r + 1) 330 args σ K := hC r 330 args σ K h
theorem r_m_undo {CALL : Nat → Nat → List AV → AM → (AV → AM → Prop) → Prop} (hC : RuleAll CALL) {r : Nat} {args : List AV} {σ : AM} {K : AV → AM → Prop} (h : ∀ J : Nat → List AV → List AV → AM → Prop, (∀ pc lv st σ, wpb (CALL r) K J (b_m_undo pc) lv st σ → J pc lv st σ) → J 0 (ent 1 args) [] σ) : CALL (r + 1) 331 args σ K := hC r 331 args σ K h
theorem r_Integer_bitCount {CALL : Nat → Nat → List AV → AM → (AV → AM → Prop) → Prop} (hC : RuleAll CALL) {r : Nat} {args : List AV} {σ : AM} {K : AV → AM → Prop} (h : ∀ J : Nat → List AV → List AV → AM → Prop, (∀ pc lv st σ, wpb (CALL r) K J (b_Integer_bitCount pc) lv st σ → J pc lv st σ) → J 0 (ent 1 args) [] σ) : CALL (r + 1) 332 args σ K := hC r 332 args σ K h
theorem r_Math_floorMod {CALL : Nat → Nat → List AV → AM → (AV → AM → Prop) → Prop} (hC : RuleAll CALL) {r : Nat} {args : List AV} {σ : AM} {K : AV → AM → Prop} (h : ∀ J : Nat → List AV → List AV → AM → Prop, (∀ pc lv st σ, wpb (CALL r) K J (b_Math_floorMod pc) lv st σ → J pc lv st σ) → J 0 (ent 3 args) [] σ) : CALL (r + 1) 333 args σ K := hC r 333 args σ K h
theorem r_Math_max {CALL : Nat → Nat → List AV → AM → (AV → AM → Prop) → Prop} (hC : RuleAll CALL) {r : Nat} {args : List AV} {σ : AM} {K : AV → AM → Prop} (h : ∀ J : Nat → List AV → List AV → AM → Prop, (∀ pc lv st σ, wpb (CALL r) K J (b_Math_max pc) lv st σ → J pc lv st σ) → J 0 (ent 2 args) [] σ) : CALL (r + 1) 334 args σ K := hC r 334 args σ K h
theorem r_Math_min {CALL : Nat → Nat → List AV → AM → (AV → AM → Prop) → Prop} (hC : RuleAll CALL) {r : Nat} {args : List AV} {σ : AM} {K : AV → AM → Prop} (h : ∀ J : Nat → List AV → List AV → AM → Prop, (∀ pc lv st σ, wpb (CALL r) K J (b_Math_min pc) lv st σ → J pc lv st σ) → J 0 (ent 2 args) [] σ) : CALL (r + 1) 335 args σ K := hC r 335 args σ K h
theorem r_Arrays_fill {CALL : Nat → Nat → List AV → AM → (AV → AM → Prop) → Prop} (hC : RuleAll CALL) {r : Nat} {args : List AV} {σ : AM} {K : AV → AM → Prop} (h : ∀ J : Nat → List AV → List AV → AM → Prop, (∀ pc lv st σ, wpb (CALL r) K J (b_Arrays_fill pc) lv st σ → J pc lv st σ) → J 0 (ent 5 args) [] σ) : CALL (r + 1) 336 args σ K := hC r 336 args σ K h
end
section
/-! the world: which cells of the heap a memory stands for -/
def cv (ad : Nat × Nat → Nat) : AV → Value
  | .inl x => .int x
  | .inr (.inl x) => .long x
  | .inr (.inr q) => .ref (ad q)
/-- a reference that there is -/
def vv : AV → Prop
  | .inr (.inr (t, i)) => (t = 0 ∧ i = 0) ∨ (t < 67 ∧ i < cn t) ∨ (t = 67 ∧ i < 2)
  | _ => True
def AllV (l : List AV) : Prop := ∀ v ∈ l, vv v
theorem AllV.cons {v : AV} {l : List AV} (h1 : vv v) (h2 : AllV l) : AllV (v :: l) := fun w hw => (List.mem_cons.mp hw).elim (fun e => e ▸ h1) (h2 w)
theorem AllV.hd {v : AV} {l : List AV} (h : AllV (v :: l)) : vv v := h v List.mem_cons_self
theorem AllV.tl {v : AV} {l : List AV} (h : AllV (v :: l)) : AllV l := fun w hw => h w (List.mem_cons_of_mem _ hw)
theorem AllV.nil : AllV [] := fun _ h => absurd h List.not_mem_nil
def fval (ad : Nat × Nat → Nat) (σ : AM) (t i k : Nat) : Nat × Nat × Nat → Value
  | (0, _, _) => .int (σ.1 t i k)
  | (1, _, _) => .long (σ.2.1 t i k)
  | (2, tg, _) => .ref (ad (tg, i))
  | (3, tg, n) => if σ.2.2 t i k < n then .ref (ad (tg, σ.2.2 t i k)) else .null
  | (4, tg, d) => .ref (ad (tg, d))
  | _ => .int (σ.1 t i k)
def flds (ad : Nat × Nat → Nat) (σ : AM) (t i c : Nat) : List Value := (List.range (fkl c).length).map (fun k => fval ad σ t i k ((fkl c).getD k (9, 0, 0)))
def cellOf (ad : Nat × Nat → Nat) (cA : Nat → ClassId) (σ : AM) (q : Nat × Nat) : va_E := match sh q.1 with
  | (0, c) => .inr (c, flds ad σ q.1 q.2 c)
  | (1, n) => .inl (cA 1, n, .inl (σ.1 q.1 q.2))
  | (2, n) => .inl (cA 2, n, .inr (.inl (σ.2.1 q.1 q.2)))
  | (3, n) => .inl (cA 3, n, .inl (σ.1 q.1 q.2))
  | (4, n) => .inl (cA 4, n, .inl (σ.1 q.1 q.2))
  | (5, n) => .inl (cA (rkt q.1), n, .inr (.inr (.inr (.inr (fun x => some (ad ((elt q.1).1, (elt q.1).2 + x)))))))
  | (_, _) => .inl (cA 1, 0, .inl (fun _ => 0))
def wsA (ad : Nat × Nat → Nat) (cA : Nat → ClassId) (σ : AM) : va_W := VL.map (fun q => (ad q, cellOf ad cA σ q))
def tysA (cA : Nat → ClassId) : List (ClassId × FieldType) := [(cA 1, .int), (cA 2, .long), (cA 3, .byte), (cA 4, .boolean), (cA 5, .object RX10), (cA 6, .object RX3), (cA 7, .object RX1)]
def AA (ad : Nat × Nat → Nat) : Nat → Prop := fun a => ∃ q, q ∈ VL ∧ a = ad q
def AdOk (ad : Nat × Nat → Nat) : Prop := ∀ q, q ∈ VL → ∀ q', q' ∈ VL → ad q = ad q' → q = q'
theorem VL_mem {t i : Nat} (ht : t < 67) (hi : i < cn t) : (t, i) ∈ VL := List.mem_of_getElem? (VL_at t ht i hi)
theorem VL_of {k : Nat} {q : Nat × Nat} (h : VL[k]? = some q) : q.1 < 67 ∧ q.2 < cn q.1 ∧ k = ps q.1 + q.2 := by
  have hl : k < VL.length := (List.getElem?_eq_some_iff.mp h).1
  have hd : VL.getD k (0, 0) = q := by rw [List.getD_eq_getElem?_getD, h]; rfl
  have h1 := VL_inv k hl
  rw [hd] at h1
  exact h1
theorem wsA_at {ad : Nat × Nat → Nat} {cA : Nat → ClassId} {σ : AM} {t i : Nat} (ht : t < 67) (hi : i < cn t) : (wsA ad cA σ)[ps t + i]? = some (ad (t, i), cellOf ad cA σ (t, i)) := by
  rw [wsA, List.getElem?_map, VL_at t ht i hi]
  rfl
theorem cellOf_congr {ad : Nat × Nat → Nat} {cA : Nat → ClassId} {σ σ' : AM} {q : Nat × Nat} (h1 : σ.1 q.1 q.2 = σ'.1 q.1 q.2) (h2 : σ.2.1 q.1 q.2 = σ'.2.1 q.1 q.2) (h3 : σ.2.2 q.1 q.2 = σ'.2.2 q.1 q.2) : cellOf ad cA σ q = cellOf ad cA σ' q := by
  have hf : ∀ c, flds ad σ q.1 q.2 c = flds ad σ' q.1 q.2 c := by
    intro c
    unfold flds
    congr 1
    funext k
    unfold fval
    rw [h1, h2, h3]
  unfold cellOf
  rw [h1, h2]
  split <;> first | rfl | rw [hf]
/-- one cell is another: the list of cells with that one set -/
theorem wsA_set {ad : Nat × Nat → Nat} {cA : Nat → ClassId} {σ σ' : AM} {t i : Nat} {e : va_E} (ht : t < 67) (hi : i < cn t) (he : cellOf ad cA σ' (t, i) = e) (hne : ∀ q : Nat × Nat, q ≠ (t, i) → σ.1 q.1 q.2 = σ'.1 q.1 q.2 ∧ σ.2.1 q.1 q.2 = σ'.2.1 q.1 q.2 ∧ σ.2.2 q.1 q.2 = σ'.2.2 q.1 q.2) : (wsA ad cA σ).set (ps t + i) (ad (t, i), e) = wsA ad cA σ' := by
  have hl : ps t + i < (wsA ad cA σ).length := (List.getElem?_eq_some_iff.mp (wsA_at (ad := ad) (cA := cA) (σ := σ) ht hi)).1
  apply List.ext_getElem?
  intro k
  by_cases hk : k = ps t + i
  · subst hk
    rw [List.getElem?_set_self hl, wsA_at ht hi, he]
  · rw [List.getElem?_set_ne (Ne.symm hk), wsA, wsA, List.getElem?_map, List.getElem?_map]
    cases hq : VL[k]? with
    | none => rfl
    | some q =>
      have hqk := VL_of hq
      have hqn : q ≠ (t, i) := by
        rintro rfl
        exact hk hqk.2.2
      obtain ⟨h1, h2, h3⟩ := hne q hqn
      show some (ad q, cellOf ad cA σ q) = some (ad q, cellOf ad cA σ' q)
      rw [cellOf_congr h1 h2 h3]
theorem wsA_D {ad : Nat × Nat → Nat} {cA : Nat → ClassId} {σ : AM} (h : AdOk ad) : va_D (AA ad) (wsA ad cA σ) := by
  refine ⟨fun i j p q hp hq hpq => ?_, fun k q hk => ?_⟩
  · rw [wsA, List.getElem?_map] at hp hq
    cases h1 : VL[i]? with
    | none => rw [h1] at hp; cases hp
    | some a =>
      cases h2 : VL[j]? with
      | none => rw [h2] at hq; cases hq
      | some b =>
        rw [h1] at hp
        rw [h2] at hq
        cases hp
        cases hq
        have e := h a (List.mem_of_getElem? h1) b (List.mem_of_getElem? h2) hpq
        subst e
        rw [(VL_of h1).2.2, (VL_of h2).2.2]
  · rw [wsA, List.getElem?_map] at hk
    cases h1 : VL[k]? with
    | none => rw [h1] at hk; cases hk
    | some a =>
      rw [h1] at hk
      cases hk
      exact ⟨a, List.mem_of_getElem? h1, rfl⟩
theorem pr_ne {t i : Nat} {q : Nat × Nat} (h : q ≠ (t, i)) : ¬ (q.1 = t ∧ q.2 = i) := fun e => h (Prod.ext e.1 e.2)
theorem wI_ne (σ : AM) (t i k : Nat) (x : Int32) : ∀ q : Nat × Nat, q ≠ (t, i) → σ.1 q.1 q.2 = (wI σ t i k x).1 q.1 q.2 ∧ σ.2.1 q.1 q.2 = (wI σ t i k x).2.1 q.1 q.2 ∧ σ.2.2 q.1 q.2 = (wI σ t i k x).2.2 q.1 q.2 := by
  intro q hq
  refine ⟨?_, rfl, rfl⟩
  funext j
  show _ = if q.1 = t ∧ q.2 = i ∧ j = k then x else σ.1 q.1 q.2 j
  rw [if_neg (fun e => pr_ne hq ⟨e.1, e.2.1⟩)]
theorem wL_ne (σ : AM) (t i k : Nat) (x : Int64) : ∀ q : Nat × Nat, q ≠ (t, i) → σ.1 q.1 q.2 = (wL σ t i k x).1 q.1 q.2 ∧ σ.2.1 q.1 q.2 = (wL σ t i k x).2.1 q.1 q.2 ∧ σ.2.2 q.1 q.2 = (wL σ t i k x).2.2 q.1 q.2 := by
  intro q hq
  refine ⟨rfl, ?_, rfl⟩
  funext j
  show _ = if q.1 = t ∧ q.2 = i ∧ j = k then x else σ.2.1 q.1 q.2 j
  rw [if_neg (fun e => pr_ne hq ⟨e.1, e.2.1⟩)]
theorem wR_ne (σ : AM) (t i k : Nat) (x : Nat) : ∀ q : Nat × Nat, q ≠ (t, i) → σ.1 q.1 q.2 = (wR σ t i k x).1 q.1 q.2 ∧ σ.2.1 q.1 q.2 = (wR σ t i k x).2.1 q.1 q.2 ∧ σ.2.2 q.1 q.2 = (wR σ t i k x).2.2 q.1 q.2 := by
  intro q hq
  refine ⟨rfl, rfl, ?_⟩
  funext j
  show _ = if q.1 = t ∧ q.2 = i ∧ j = k then x else σ.2.2 q.1 q.2 j
  rw [if_neg (fun e => pr_ne hq ⟨e.1, e.2.1⟩)]
theorem cpI_ne (σ : AM) (t0 i0 t i sp dp n : Nat) : ∀ q : Nat × Nat, q ≠ (t, i) → σ.1 q.1 q.2 = (cpI σ t0 i0 t i sp dp n).1 q.1 q.2 ∧ σ.2.1 q.1 q.2 = (cpI σ t0 i0 t i sp dp n).2.1 q.1 q.2 ∧ σ.2.2 q.1 q.2 = (cpI σ t0 i0 t i sp dp n).2.2 q.1 q.2 := by
  intro q hq
  refine ⟨?_, rfl, rfl⟩
  funext j
  show _ = if q.1 = t ∧ q.2 = i ∧ dp ≤ j ∧ j < dp + n then σ.1 t0 i0 (sp + (j - dp)) else σ.1 q.1 q.2 j
  rw [if_neg (fun e => pr_ne hq ⟨e.1, e.2.1⟩)]
theorem cpL_ne (σ : AM) (t0 i0 t i sp dp n : Nat) : ∀ q : Nat × Nat, q ≠ (t, i) → σ.1 q.1 q.2 = (cpL σ t0 i0 t i sp dp n).1 q.1 q.2 ∧ σ.2.1 q.1 q.2 = (cpL σ t0 i0 t i sp dp n).2.1 q.1 q.2 ∧ σ.2.2 q.1 q.2 = (cpL σ t0 i0 t i sp dp n).2.2 q.1 q.2 := by
  intro q hq
  refine ⟨rfl, ?_, rfl⟩
  funext j
  show _ = if q.1 = t ∧ q.2 = i ∧ dp ≤ j ∧ j < dp + n then σ.2.1 t0 i0 (sp + (j - dp)) else σ.2.1 q.1 q.2 j
  rw [if_neg (fun e => pr_ne hq ⟨e.1, e.2.1⟩)]
theorem flds_get {ad : Nat × Nat → Nat} {σ : AM} {t i c k : Nat} (hk : k < (fkl c).length) : (flds ad σ t i c)[k]? = some (fval ad σ t i k ((fkl c).getD k (9, 0, 0))) := by
  rw [flds, List.getElem?_map, List.getElem?_range hk]
  rfl
theorem flds_len {ad : Nat × Nat → Nat} {σ : AM} {t i c : Nat} : (flds ad σ t i c).length = (fkl c).length := by
  rw [flds, List.length_map, List.length_range]
/-- a field is set -/
theorem flds_set {ad : Nat × Nat → Nat} {σ σ' : AM} {t i c k : Nat} {v : Value} (hk : k < (fkl c).length) (hv : fval ad σ' t i k ((fkl c).getD k (9, 0, 0)) = v) (hne : ∀ j, j ≠ k → σ'.1 t i j = σ.1 t i j ∧ σ'.2.1 t i j = σ.2.1 t i j ∧ σ'.2.2 t i j = σ.2.2 t i j) : flds ad σ' t i c = (flds ad σ t i c).set k v := by
  apply List.ext_getElem?
  intro j
  by_cases hj : j = k
  · subst hj
    rw [List.getElem?_set_self (by rw [flds_len]; exact hk), flds_get hk, hv]
  · rw [List.getElem?_set_ne (Ne.symm hj)]
    by_cases hl : j < (fkl c).length
    · rw [flds_get hl, flds_get hl]
      obtain ⟨h1, h2, h3⟩ := hne j hj
      unfold fval
      rw [h1, h2, h3]
    · rw [List.getElem?_eq_none (by rw [flds_len]; omega), List.getElem?_eq_none (by rw [flds_len]; omega)]
theorem upd_wI {σ : AM} {t i k : Nat} {x : Int32} : (wI σ t i k x).1 t i = upd (σ.1 t i) k x := by
  funext j
  show (if t = t ∧ i = i ∧ j = k then x else σ.1 t i j) = if j = k then x else σ.1 t i j
  by_cases h : j = k
  · rw [if_pos ⟨rfl, rfl, h⟩, if_pos h]
  · rw [if_neg (fun e => h e.2.2), if_neg h]
theorem upd_wL {σ : AM} {t i k : Nat} {x : Int64} : (wL σ t i k x).2.1 t i = vp_updL (σ.2.1 t i) k x := by
  funext j
  show (if t = t ∧ i = i ∧ j = k then x else σ.2.1 t i j) = if j = k then x else σ.2.1 t i j
  by_cases h : j = k
  · rw [if_pos ⟨rfl, rfl, h⟩, if_pos h]
  · rw [if_neg (fun e => h e.2.2), if_neg h]
theorem cpy_cpI {σ : AM} {t0 i0 t i sp dp n : Nat} : (cpI σ t0 i0 t i sp dp n).1 t i = va_cpy (σ.1 t0 i0) (σ.1 t i) sp dp n := by
  funext j
  show (if t = t ∧ i = i ∧ dp ≤ j ∧ j < dp + n then σ.1 t0 i0 (sp + (j - dp)) else σ.1 t i j) = if dp ≤ j ∧ j < dp + n then σ.1 t0 i0 (sp + (j - dp)) else σ.1 t i j
  by_cases h : dp ≤ j ∧ j < dp + n
  · rw [if_pos ⟨rfl, rfl, h⟩, if_pos h]
  · rw [if_neg (fun e => h e.2.2), if_neg h]
theorem cpy_cpL {σ : AM} {t0 i0 t i sp dp n : Nat} : (cpL σ t0 i0 t i sp dp n).2.1 t i = va_cpy (σ.2.1 t0 i0) (σ.2.1 t i) sp dp n := by
  funext j
  show (if t = t ∧ i = i ∧ dp ≤ j ∧ j < dp + n then σ.2.1 t0 i0 (sp + (j - dp)) else σ.2.1 t i j) = if dp ≤ j ∧ j < dp + n then σ.2.1 t0 i0 (sp + (j - dp)) else σ.2.1 t i j
  by_cases h : dp ≤ j ∧ j < dp + n
  · rw [if_pos ⟨rfl, rfl, h⟩, if_pos h]
  · rw [if_neg (fun e => h e.2.2), if_neg h]
/-! locals -/
def isU : AV → Bool
  | .inr (.inr (0, _)) => true
  | _ => false
def lvc (ad : Nat × Nat → Nat) : Nat → List AV → List (Nat × Value)
  | _, [] => []
  | i, v :: r => bif isU v then lvc ad (i + 1) r else (i, cv ad v) :: lvc ad (i + 1) r
theorem lvc_mem {ad : Nat × Nat → Nat} : ∀ (l : List AV) (i : Nat) (q : Nat × Value), q ∈ lvc ad i l ↔ ∃ k v, l[k]? = some v ∧ isU v = false ∧ q = (i + k, cv ad v)
  | [], i, q => by simp [lvc]
  | v :: r, i, q => by
    have ih := lvc_mem (ad := ad) r (i + 1) q
    constructor
    · intro h
      have key : q ∈ lvc ad (i + 1) r → ∃ k w, (v :: r)[k]? = some w ∧ isU w = false ∧ q = (i + k, cv ad w) := by
        intro h
        obtain ⟨k, w, h1, h2, h3⟩ := ih.mp h
        exact ⟨k + 1, w, by rw [List.getElem?_cons_succ]; exact h1, h2, by rw [h3]; congr 1; omega⟩
      rw [lvc] at h
      cases hv : isU v with
      | true => rw [hv] at h; exact key h
      | false =>
        rw [hv] at h
        rcases List.mem_cons.mp h with h | h
        · exact ⟨0, v, rfl, hv, h⟩
        · exact key h
    · rintro ⟨k, w, h1, h2, h3⟩
      rw [lvc]
      cases k with
      | zero =>
        rw [List.getElem?_cons_zero] at h1
        cases h1
        rw [h2, h3]
        exact List.mem_cons_self
      | succ k =>
        rw [List.getElem?_cons_succ] at h1
        have h4 : q ∈ lvc ad (i + 1) r := ih.mpr ⟨k, w, h1, h2, by rw [h3]; congr 1; omega⟩
        cases isU v with
        | true => exact h4
        | false => exact List.mem_cons_of_mem _ h4
theorem lvG_at : ∀ (l : List AV) (k : Nat), isU (lvG l k) = false → l[k]? = some (lvG l k)
  | [], k, h => by simp [lvG, isU] at h
  | v :: r, 0, h => rfl
  | v :: r, k + 1, h => by rw [List.getElem?_cons_succ]; exact lvG_at r k h
theorem lv_load {ad : Nat × Nat → Nat} {ls : Array Slot} {nL : Nat} {lv : List AV} (h : lv_has ls nL (lvc ad 0 lv)) {k : Nat} (hu : isU (lvG lv k) = false) : ls[k]? = some (.val (cv ad (lvG lv k))) := by
  have h1 := h.2.2 (k, cv ad (lvG lv k)) ((lvc_mem lv 0 _).mpr ⟨k, lvG lv k, lvG_at lv k hu, hu, by simp⟩)
  exact h1
theorem lvG_vv {l : List AV} (h : AllV l) : ∀ k, vv (lvG l k) := by
  induction l with
  | nil => intro k; exact Or.inl ⟨rfl, rfl⟩
  | cons v r ih =>
    intro k
    cases k with
    | zero => exact h.hd
    | succ k => exact ih h.tl k
theorem lvS_len : ∀ (l : List AV) (k : Nat) (v : AV), (lvS l k v).length = l.length
  | [], _, _ => rfl
  | _ :: _, 0, _ => rfl
  | x :: r, k + 1, v => by simp [lvS, lvS_len r k v]
/-- what is in a place behind a store -/
theorem lvS_get : ∀ (l : List AV) (k : Nat) (v : AV) (j : Nat) (w : AV), (lvS l k v)[j]? = some w → isU w = false → (j = k ∧ w = v) ∨ (j ≠ k ∧ l[j]? = some w ∧ ¬ (j + 1 = k ∧ isL w = true))
  | [], _, _, j, w, h, _ => by simp [lvS] at h
  | x :: r, 0, v, j, w, h, _ => by
    cases j with
    | zero => rw [lvS, List.getElem?_cons_zero] at h; cases h; exact Or.inl ⟨rfl, rfl⟩
    | succ j => rw [lvS, List.getElem?_cons_succ] at h; exact Or.inr ⟨by omega, by rw [List.getElem?_cons_succ]; exact h, fun e => by omega⟩
  | x :: r, k + 1, v, j, w, h, hu => by
    cases j with
    | zero =>
      rw [lvS, List.getElem?_cons_zero] at h
      have h := Option.some.inj h
      refine Or.inr ⟨by omega, ?_⟩
      cases hk : Nat.beq k 0 with
      | false =>
        rw [hk] at h
        have h : x = w := h
        subst h
        refine ⟨rfl, fun e => ?_⟩
        have : k = 0 := by omega
        subst this
        simp at hk
      | true =>
        rw [hk] at h
        cases hx : isL x with
        | true =>
          rw [hx] at h
          have h : unset = w := h
          subst h
          simp [isU] at hu
        | false =>
          rw [hx] at h
          have h : x = w := h
          subst h
          exact ⟨rfl, fun e => by rw [hx] at e; exact absurd e.2 (by decide)⟩
    | succ j =>
      rw [lvS, List.getElem?_cons_succ] at h
      rcases lvS_get r k v j w h hu with ⟨h1, h2⟩ | ⟨h1, h2, h3⟩
      · exact Or.inl ⟨by omega, h2⟩
      · exact Or.inr ⟨by omega, by rw [List.getElem?_cons_succ]; exact h2, fun e => h3 ⟨by omega, e.2⟩⟩
theorem lvS_vv {l : List AV} {v : AV} (hv : vv v) : ∀ k, AllV l → AllV (lvS l k v) := by
  induction l with
  | nil => intro k h; exact h
  | cons x r ih =>
    intro k h
    cases k with
    | zero => exact AllV.cons hv h.tl
    | succ k =>
      refine AllV.cons ?_ (ih k h.tl)
      cases Nat.beq k 0 with
      | false => exact h.hd
      | true =>
        cases isL x with
        | true => exact Or.inl ⟨rfl, rfl⟩
        | false => exact h.hd
theorem isL_cat {ad : Nat × Nat → Nat} (v : AV) : (cv ad v).category = if isL v then 2 else 1 := by
  rcases v with x | x | ⟨t, i⟩ <;> rfl
/-- the locals behind a store of one slot -/
theorem lv_st1 {ad : Nat × Nat → Nat} {ls : Array Slot} {nL : Nat} {lv : List AV} {k : Nat} {v : AV} (h : lv_has ls nL ((k, cv ad v) :: (lvc ad 0 lv).filter (fun q => !(q.1 == k) && !(q.1 + 1 == k && q.2.category == 2)))) : lv_has ls nL (lvc ad 0 (lvS lv k v)) := by
  refine ⟨h.1, h.2.1, fun q hq => ?_⟩
  obtain ⟨j, w, h1, h2, h3⟩ := (lvc_mem _ _ _).mp hq
  rw [Nat.zero_add] at h3
  rcases lvS_get lv k v j w h1 h2 with ⟨e1, e2⟩ | ⟨e1, e2, e3⟩
  · subst e1; subst e2
    rw [h3]
    exact h.2.2 _ List.mem_cons_self
  · refine h.2.2 q (List.mem_cons_of_mem _ (List.mem_filter.mpr ⟨(lvc_mem _ _ _).mpr ⟨j, w, e2, h2, by rw [Nat.zero_add]; exact h3⟩, ?_⟩))
    rw [h3]
    have hb : ¬ (j + 1 = k ∧ (cv ad w).category = 2) := fun e => e3 ⟨e.1, by
      have := e.2
      rw [isL_cat] at this
      cases hw : isL w with
      | true => rfl
      | false => rw [hw] at this; simp at this⟩
    simp only [Bool.and_eq_true, Bool.not_eq_true', beq_eq_false_iff_ne, ne_eq, Bool.and_eq_false_iff]
    refine ⟨e1, ?_⟩
    by_cases hj : j + 1 = k
    · exact Or.inr (fun e => hb ⟨hj, e⟩)
    · exact Or.inl hj
/-- the locals behind a store of two slots -/
theorem lv_st2 {ad : Nat × Nat → Nat} {ls : Array Slot} {nL : Nat} {lv : List AV} {k : Nat} {v : AV} (h : lv_has ls nL ((k, cv ad v) :: (lvc ad 0 lv).filter (fun q => !(q.1 == k) && (!(q.1 == k + 1) && !(q.1 + 1 == k && q.2.category == 2))))) : lv_has ls nL (lvc ad 0 (lvS2 lv k v)) := by
  refine ⟨h.1, h.2.1, fun q hq => ?_⟩
  obtain ⟨j, w, h1, h2, h3⟩ := (lvc_mem _ _ _).mp hq
  rw [Nat.zero_add] at h3
  rcases lvS_get (lvS lv (k + 1) unset) k v j w h1 h2 with ⟨e1, e2⟩ | ⟨e1, e2, e3⟩
  · subst e1; subst e2
    rw [h3]
    exact h.2.2 _ List.mem_cons_self
  · rcases lvS_get lv (k + 1) unset j w e2 h2 with ⟨f1, f2⟩ | ⟨f1, f2, f3⟩
    · subst f2; simp [isU] at h2
    · refine h.2.2 q (List.mem_cons_of_mem _ (List.mem_filter.mpr ⟨(lvc_mem _ _ _).mpr ⟨j, w, f2, h2, by rw [Nat.zero_add]; exact h3⟩, ?_⟩))
      rw [h3]
      have hb : ¬ (j + 1 = k ∧ (cv ad w).category = 2) := fun e => e3 ⟨e.1, by
        have := e.2
        rw [isL_cat] at this
        cases hw : isL w with
        | true => rfl
        | false => rw [hw] at this; simp at this⟩
      simp only [Bool.and_eq_true, Bool.not_eq_true', beq_eq_false_iff_ne, ne_eq, Bool.and_eq_false_iff]
      refine ⟨e1, f1, ?_⟩
      by_cases hj : j + 1 = k
      · exact Or.inr (fun e => hb ⟨hj, e⟩)
      · exact Or.inl hj
end
section
/-! what an instruction asks for and does is what the machine does -/
def KW0 : String := "turn odds topic cost monk breath rest asleep follows roster hears minute change wake sleep any when silent last paused loop end stop "
def KW1 : String := " turn odds topic monk follows roster hears cost breath rest asleep minute change wake sleep any when loop end stop silent last paused "
def lenS : List Nat := [str0.length, str1.length]
def bytS : List (List Int32) := [str0.map nI, str1.map nI]
/-- the two texts that are constants, and two statics of the JDK's -/
def SW (ad : Nat × Nat → Nat) (U : State) (H : Heap) : Prop := ∃ adV : Nat → Nat, vk_S 2 lenS bytS (fun i => ad (67, i)) adV (AA ad) U H ∧ (vk_R RX8 26 KW0 (ad (67, 0)) U ∧ vk_R RX12 187 KW1 (ad (67, 1)) U) ∧ va_Z "java/lang/String" "COMPACT_STRINGS" "Z" (.int 1) (AA ad) U H ∧ va_Zq "jdk/internal/util/Preconditions" "SIOOBE_FORMATTER" "Ljava/util/function/BiFunction;" (AA ad) U H
theorem SW.kept {ad : Nat × Nat → Nat} {U : State} {H H1 : Heap} (h : SW ad U H) (hq : ∀ a : Nat, a < H.size → ¬ AA ad a → H1[a]? = H[a]?) : SW ad U H1 := by
  obtain ⟨adV, h1, h2, h3, h4⟩ := h
  exact ⟨adV, h1.kept hq, h2, h3.kept hq, h4.kept hq⟩
theorem SW.warm {ad : Nat × Nat → Nat} {s U : State} {H : Heap} (hW : s.WarmedH U.vm) (h : SW ad s H) : SW ad U H := by
  obtain ⟨adV, h1, h2, h3, h4⟩ := h
  exact ⟨adV, h1.moved hW.alike, ⟨h2.1.warm hW, h2.2.warm hW⟩, h3.moved hW.alike, h4.moved hW.alike⟩
theorem SW.same {ad : Nat × Nat → Nat} {u U : State} {H : Heap} (hv : U.vm = u.vm) (h : SW ad u H) : SW ad U H := by
  obtain ⟨adV, h1, h2, h3, h4⟩ := h
  have ha : u.vm.Alike U.vm := by rw [hv]; exact Vm.Alike.refl _
  exact ⟨adV, h1.moved ha, ⟨h2.1.same hv, h2.2.same hv⟩, h3.moved ha, h4.moved ha⟩
/-- the tables' words that stay -/
def Tg : List Cond := lw_tbl.filter goodWord
theorem goodT {ws : List Cond} (h : ∀ w ∈ ws, w ∈ Tg) : GoodIn Tg ws := fun w hw => ⟨h w hw, good_of_word (List.mem_filter.mp (h w hw)).2⟩
theorem inT {w : Cond} (h1 : w ∈ lw_tbl) (h2 : goodWord w = true) : w ∈ Tg := List.mem_filter.mpr ⟨h1, h2⟩
theorem inTp {w : Cond} (i : Nat) (h1 : lw_tbl[i]? = some w) (h2 : goodWord w = true) : w ∈ Tg := inT (List.mem_of_getElem? h1) h2
theorem lrem_eq (x y : Int64) : x - (x / y) * y = x % y := by
  apply Int64.toInt_inj.mp
  have h1 := Int64.le_toInt (x % y)
  have h2 := Int64.toInt_lt (x % y)
  rw [Int64.toInt_sub, Int64.toInt_mul, Int64.toInt_div, Int.bmod_mul_bmod, Int.sub_bmod_bmod, Int.mul_comm (x.toInt.tdiv y.toInt), ← Int.tmod_def, ← Int64.toInt_mod]
  exact Int.bmod_eq_of_le_mul_two (by omega) (by omega)
def Cx (p : Program) (s : State) (m : MethodId) (args : Array Value) (c : Code) (cc : ByteArray) (D : va_G) (ad : Nat × Nat → Nat) (cA : Nat → ClassId) (nL : Nat) (own : String) : Prop :=
  p.tables.exec = Jvm.exec ∧ c.code = cc ∧ s.vm.findClass own = some m.cls ∧ c.maxLocals = nL ∧ (∀ w ∈ Tg, w.before args s = true) ∧ va_K D clA (tysA cA) s ∧ AdOk ad ∧ SW ad s s.heap
def Gd (p : Program) (l : Launch) (e : Env) (R : Room) (s : State) (m : MethodId) (args : Array Value) (below : List Frame) (meth : Method) (c : Code) (nL : Nat) (Q : State → Prop) (D : va_G) (ad : Nat × Nat → Nat) (cA : Nat → ClassId) (pc : Nat) (lv st : List AV) (σ : AM) : Prop :=
  AllV lv → AllV st → ∀ (H : Heap) (locs : List Loc) (ls : Array Slot), va_P D clA (wsA ad cA σ) H → va_S (AA ad) s.heap H locs → lv_has ls nL (lvc ad 0 lv) → W p l e R s m args below meth c H locs 0 0 Q (F0 m pc ls (st.map (cv ad)))
section SND
variable {p : Program} {l : Launch} {e : Env} {R : Room} {s : State} {m : MethodId} {args : Array Value} {below : List Frame} {meth : Method} {c : Code} {Q : State → Prop} {cc : ByteArray} {D : va_G} {ad : Nat × Nat → Nat} {cA : Nat → ClassId} {nL pc : Nat} {own : String} {lv st : List AV} {σ : AM}
theorem g_iadd {x y : Int32} (C : Cx p s m args c cc D ad cA nL own) (hd : decode cc pc = .ok (.iadd, 1)) (k : Gd p l e R s m args below meth c nL Q D ad cA (pc + 1) lv (.inl (x + y) :: st) σ) : Gd p l e R s m args below meth c nL Q D ad cA pc lv (.inl y :: .inl x :: st) σ := by
  intro hl hs H locs ls hP hS hv
  obtain ⟨hx, hb, -⟩ := C
  exact lv_iadd hx hb hd (k hl (AllV.cons trivial hs.tl.tl) H locs ls hP hS hv)
theorem g_isub {x y : Int32} (C : Cx p s m args c cc D ad cA nL own) (hd : decode cc pc = .ok (.isub, 1)) (k : Gd p l e R s m args below meth c nL Q D ad cA (pc + 1) lv (.inl (x - y) :: st) σ) : Gd p l e R s m args below meth c nL Q D ad cA pc lv (.inl y :: .inl x :: st) σ := by
  intro hl hs H locs ls hP hS hv
  obtain ⟨hx, hb, -⟩ := C
  exact lv_isub hx hb hd (k hl (AllV.cons trivial hs.tl.tl) H locs ls hP hS hv)
theorem g_imul {x y : Int32} (C : Cx p s m args c cc D ad cA nL own) (hd : decode cc pc = .ok (.imul, 1)) (k : Gd p l e R s m args below meth c nL Q D ad cA (pc + 1) lv (.inl (x * y) :: st) σ) : Gd p l e R s m args below meth c nL Q D ad cA pc lv (.inl y :: .inl x :: st) σ := by
  intro hl hs H locs ls hP hS hv
  obtain ⟨hx, hb, -⟩ := C
  exact lv_imul hx hb hd (k hl (AllV.cons trivial hs.tl.tl) H locs ls hP hS hv)
theorem g_iand {x y : Int32} (C : Cx p s m args c cc D ad cA nL own) (hd : decode cc pc = .ok (.iand, 1)) (k : Gd p l e R s m args below meth c nL Q D ad cA (pc + 1) lv (.inl (x &&& y) :: st) σ) : Gd p l e R s m args below meth c nL Q D ad cA pc lv (.inl y :: .inl x :: st) σ := by
  intro hl hs H locs ls hP hS hv
  obtain ⟨hx, hb, -⟩ := C
  exact lv_iand hx hb hd (k hl (AllV.cons trivial hs.tl.tl) H locs ls hP hS hv)
theorem g_ior {x y : Int32} (C : Cx p s m args c cc D ad cA nL own) (hd : decode cc pc = .ok (.ior, 1)) (k : Gd p l e R s m args below meth c nL Q D ad cA (pc + 1) lv (.inl (x ||| y) :: st) σ) : Gd p l e R s m args below meth c nL Q D ad cA pc lv (.inl y :: .inl x :: st) σ := by
  intro hl hs H locs ls hP hS hv
  obtain ⟨hx, hb, -⟩ := C
  exact lv_ior hx hb hd (k hl (AllV.cons trivial hs.tl.tl) H locs ls hP hS hv)
theorem g_ixor {x y : Int32} (C : Cx p s m args c cc D ad cA nL own) (hd : decode cc pc = .ok (.ixor, 1)) (k : Gd p l e R s m args below meth c nL Q D ad cA (pc + 1) lv (.inl (x ^^^ y) :: st) σ) : Gd p l e R s m args below meth c nL Q D ad cA pc lv (.inl y :: .inl x :: st) σ := by
  intro hl hs H locs ls hP hS hv
  obtain ⟨hx, hb, -⟩ := C
  exact lv_ixor hx hb hd (k hl (AllV.cons trivial hs.tl.tl) H locs ls hP hS hv)
theorem g_ishl {x y : Int32} (C : Cx p s m args c cc D ad cA nL own) (hd : decode cc pc = .ok (.ishl, 1)) (k : Gd p l e R s m args below meth c nL Q D ad cA (pc + 1) lv (.inl (x <<< (y &&& 31)) :: st) σ) : Gd p l e R s m args below meth c nL Q D ad cA pc lv (.inl y :: .inl x :: st) σ := by
  intro hl hs H locs ls hP hS hv
  obtain ⟨hx, hb, -⟩ := C
  exact lv_ishl hx hb hd (k hl (AllV.cons trivial hs.tl.tl) H locs ls hP hS hv)
theorem g_ishr {x y : Int32} (C : Cx p s m args c cc D ad cA nL own) (hd : decode cc pc = .ok (.ishr, 1)) (k : Gd p l e R s m args below meth c nL Q D ad cA (pc + 1) lv (.inl (x >>> (y &&& 31)) :: st) σ) : Gd p l e R s m args below meth c nL Q D ad cA pc lv (.inl y :: .inl x :: st) σ := by
  intro hl hs H locs ls hP hS hv
  obtain ⟨hx, hb, -⟩ := C
  exact lv_ishr hx hb hd (k hl (AllV.cons trivial hs.tl.tl) H locs ls hP hS hv)
theorem g_iushr {x y : Int32} (C : Cx p s m args c cc D ad cA nL own) (hd : decode cc pc = .ok (.iushr, 1)) (k : Gd p l e R s m args below meth c nL Q D ad cA (pc + 1) lv (.inl (x.toUInt32 >>> (y.toUInt32 &&& Int32.toUInt32 31)).toInt32 :: st) σ) : Gd p l e R s m args below meth c nL Q D ad cA pc lv (.inl y :: .inl x :: st) σ := by
  intro hl hs H locs ls hP hS hv
  obtain ⟨hx, hb, -⟩ := C
  exact lv_iushr hx hb hd rfl (k hl (AllV.cons trivial hs.tl.tl) H locs ls hP hS hv)
theorem g_idiv {x y : Int32} (C : Cx p s m args c cc D ad cA nL own) (hd : decode cc pc = .ok (.idiv, 1)) (hne : ¬ y = 0) (k : Gd p l e R s m args below meth c nL Q D ad cA (pc + 1) lv (.inl (x / y) :: st) σ) : Gd p l e R s m args below meth c nL Q D ad cA pc lv (.inl y :: .inl x :: st) σ := by
  intro hl hs H locs ls hP hS hv
  obtain ⟨hx, hb, -⟩ := C
  exact lv_idiv hx hb hd hne (k hl (AllV.cons trivial hs.tl.tl) H locs ls hP hS hv)
theorem g_irem {x y : Int32} (C : Cx p s m args c cc D ad cA nL own) (hd : decode cc pc = .ok (.irem, 1)) (hne : ¬ y = 0) (k : Gd p l e R s m args below meth c nL Q D ad cA (pc + 1) lv (.inl (x % y) :: st) σ) : Gd p l e R s m args below meth c nL Q D ad cA pc lv (.inl y :: .inl x :: st) σ := by
  intro hl hs H locs ls hP hS hv
  obtain ⟨hx, hb, -⟩ := C
  have k1 := k hl (AllV.cons trivial hs.tl.tl) H locs ls hP hS hv
  rw [show x % y = x - x / y * y from (irem_eq_mod x y).symm] at k1
  exact lv_irem hx hb hd hne k1
theorem g_ineg {x : Int32} (C : Cx p s m args c cc D ad cA nL own) (hd : decode cc pc = .ok (.ineg, 1)) (k : Gd p l e R s m args below meth c nL Q D ad cA (pc + 1) lv (.inl (-x) :: st) σ) : Gd p l e R s m args below meth c nL Q D ad cA pc lv (.inl x :: st) σ := by
  intro hl hs H locs ls hP hS hv
  obtain ⟨hx, hb, -⟩ := C
  exact lv_ineg hx hb hd (k hl (AllV.cons trivial hs.tl) H locs ls hP hS hv)
theorem g_ladd {x y : Int64} (C : Cx p s m args c cc D ad cA nL own) (hd : decode cc pc = .ok (.ladd, 1)) (k : Gd p l e R s m args below meth c nL Q D ad cA (pc + 1) lv (.inr (.inl (x + y)) :: st) σ) : Gd p l e R s m args below meth c nL Q D ad cA pc lv (.inr (.inl y) :: .inr (.inl x) :: st) σ := by
  intro hl hs H locs ls hP hS hv
  obtain ⟨hx, hb, -⟩ := C
  exact lv_ladd hx hb hd (k hl (AllV.cons trivial hs.tl.tl) H locs ls hP hS hv)
theorem g_lsub {x y : Int64} (C : Cx p s m args c cc D ad cA nL own) (hd : decode cc pc = .ok (.lsub, 1)) (k : Gd p l e R s m args below meth c nL Q D ad cA (pc + 1) lv (.inr (.inl (x - y)) :: st) σ) : Gd p l e R s m args below meth c nL Q D ad cA pc lv (.inr (.inl y) :: .inr (.inl x) :: st) σ := by
  intro hl hs H locs ls hP hS hv
  obtain ⟨hx, hb, -⟩ := C
  exact lv_lsub hx hb hd (k hl (AllV.cons trivial hs.tl.tl) H locs ls hP hS hv)
theorem g_lmul {x y : Int64} (C : Cx p s m args c cc D ad cA nL own) (hd : decode cc pc = .ok (.lmul, 1)) (k : Gd p l e R s m args below meth c nL Q D ad cA (pc + 1) lv (.inr (.inl (x * y)) :: st) σ) : Gd p l e R s m args below meth c nL Q D ad cA pc lv (.inr (.inl y) :: .inr (.inl x) :: st) σ := by
  intro hl hs H locs ls hP hS hv
  obtain ⟨hx, hb, -⟩ := C
  exact lv_lmul hx hb hd (k hl (AllV.cons trivial hs.tl.tl) H locs ls hP hS hv)
theorem g_land {x y : Int64} (C : Cx p s m args c cc D ad cA nL own) (hd : decode cc pc = .ok (.land, 1)) (k : Gd p l e R s m args below meth c nL Q D ad cA (pc + 1) lv (.inr (.inl (x &&& y)) :: st) σ) : Gd p l e R s m args below meth c nL Q D ad cA pc lv (.inr (.inl y) :: .inr (.inl x) :: st) σ := by
  intro hl hs H locs ls hP hS hv
  obtain ⟨hx, hb, -⟩ := C
  exact lv_land hx hb hd (k hl (AllV.cons trivial hs.tl.tl) H locs ls hP hS hv)
theorem g_lor {x y : Int64} (C : Cx p s m args c cc D ad cA nL own) (hd : decode cc pc = .ok (.lor, 1)) (k : Gd p l e R s m args below meth c nL Q D ad cA (pc + 1) lv (.inr (.inl (x ||| y)) :: st) σ) : Gd p l e R s m args below meth c nL Q D ad cA pc lv (.inr (.inl y) :: .inr (.inl x) :: st) σ := by
  intro hl hs H locs ls hP hS hv
  obtain ⟨hx, hb, -⟩ := C
  exact lv_lor hx hb hd (k hl (AllV.cons trivial hs.tl.tl) H locs ls hP hS hv)
theorem g_ldiv {x y : Int64} (C : Cx p s m args c cc D ad cA nL own) (hd : decode cc pc = .ok (.ldiv, 1)) (hne : ¬ y = 0) (k : Gd p l e R s m args below meth c nL Q D ad cA (pc + 1) lv (.inr (.inl (x / y)) :: st) σ) : Gd p l e R s m args below meth c nL Q D ad cA pc lv (.inr (.inl y) :: .inr (.inl x) :: st) σ := by
  intro hl hs H locs ls hP hS hv
  obtain ⟨hx, hb, -⟩ := C
  exact lv_ldiv hx hb hd hne (k hl (AllV.cons trivial hs.tl.tl) H locs ls hP hS hv)
theorem g_lrem {x y : Int64} (C : Cx p s m args c cc D ad cA nL own) (hd : decode cc pc = .ok (.lrem, 1)) (hne : ¬ y = 0) (k : Gd p l e R s m args below meth c nL Q D ad cA (pc + 1) lv (.inr (.inl (x % y)) :: st) σ) : Gd p l e R s m args below meth c nL Q D ad cA pc lv (.inr (.inl y) :: .inr (.inl x) :: st) σ := by
  intro hl hs H locs ls hP hS hv
  obtain ⟨hx, hb, -⟩ := C
  have k1 := k hl (AllV.cons trivial hs.tl.tl) H locs ls hP hS hv
  rw [show x % y = x - x / y * y from (lrem_eq x y).symm] at k1
  exact lv_lrem hx hb hd hne k1
theorem g_lshl {x : Int64} {y : Int32} (C : Cx p s m args c cc D ad cA nL own) (hd : decode cc pc = .ok (.lshl, 1)) (k : Gd p l e R s m args below meth c nL Q D ad cA (pc + 1) lv (.inr (.inl (x <<< (y.toInt64 &&& 63))) :: st) σ) : Gd p l e R s m args below meth c nL Q D ad cA pc lv (.inl y :: .inr (.inl x) :: st) σ := by
  intro hl hs H locs ls hP hS hv
  obtain ⟨hx, hb, -⟩ := C
  exact lv_lshl hx hb hd rfl (k hl (AllV.cons trivial hs.tl.tl) H locs ls hP hS hv)
theorem g_lcmp {x y : Int64} (C : Cx p s m args c cc D ad cA nL own) (hd : decode cc pc = .ok (.lcmp, 1)) (k : Gd p l e R s m args below meth c nL Q D ad cA (pc + 1) lv (.inl (lg_cmp x y) :: st) σ) : Gd p l e R s m args below meth c nL Q D ad cA pc lv (.inr (.inl y) :: .inr (.inl x) :: st) σ := by
  intro hl hs H locs ls hP hS hv
  obtain ⟨hx, hb, -⟩ := C
  exact W.lcmp hx hb hd (k hl (AllV.cons trivial hs.tl.tl) H locs ls hP hS hv)
theorem g_i2l {x : Int32} (C : Cx p s m args c cc D ad cA nL own) (hd : decode cc pc = .ok (.i2l, 1)) (k : Gd p l e R s m args below meth c nL Q D ad cA (pc + 1) lv (.inr (.inl (x.toInt64)) :: st) σ) : Gd p l e R s m args below meth c nL Q D ad cA pc lv (.inl x :: st) σ := by
  intro hl hs H locs ls hP hS hv
  obtain ⟨hx, hb, -⟩ := C
  exact lv_i2l hx hb hd rfl (k hl (AllV.cons trivial hs.tl) H locs ls hP hS hv)
theorem g_l2i {x : Int64} (C : Cx p s m args c cc D ad cA nL own) (hd : decode cc pc = .ok (.l2i, 1)) (k : Gd p l e R s m args below meth c nL Q D ad cA (pc + 1) lv (.inl (x.toInt32) :: st) σ) : Gd p l e R s m args below meth c nL Q D ad cA pc lv (.inr (.inl x) :: st) σ := by
  intro hl hs H locs ls hP hS hv
  obtain ⟨hx, hb, -⟩ := C
  exact lv_l2i hx hb hd rfl (k hl (AllV.cons trivial hs.tl) H locs ls hP hS hv)
theorem g_i2b {x : Int32} (C : Cx p s m args c cc D ad cA nL own) (hd : decode cc pc = .ok (.i2b, 1)) (k : Gd p l e R s m args below meth c nL Q D ad cA (pc + 1) lv (.inl (x.toInt8.toInt32) :: st) σ) : Gd p l e R s m args below meth c nL Q D ad cA pc lv (.inl x :: st) σ := by
  intro hl hs H locs ls hP hS hv
  obtain ⟨hx, hb, -⟩ := C
  exact lv_i2b hx hb hd rfl (k hl (AllV.cons trivial hs.tl) H locs ls hP hS hv)
theorem g_i2s {x : Int32} (C : Cx p s m args c cc D ad cA nL own) (hd : decode cc pc = .ok (.i2s, 1)) (k : Gd p l e R s m args below meth c nL Q D ad cA (pc + 1) lv (.inl (x.toInt16.toInt32) :: st) σ) : Gd p l e R s m args below meth c nL Q D ad cA pc lv (.inl x :: st) σ := by
  intro hl hs H locs ls hP hS hv
  obtain ⟨hx, hb, -⟩ := C
  exact lv_i2s hx hb hd rfl (k hl (AllV.cons trivial hs.tl) H locs ls hP hS hv)
theorem g_iconst {n : Int} (C : Cx p s m args c cc D ad cA nL own) (hd : decode cc pc = .ok (.iconst n, 1)) (k : Gd p l e R s m args below meth c nL Q D ad cA (pc + 1) lv (.inl (Int32.ofInt n) :: st) σ) : Gd p l e R s m args below meth c nL Q D ad cA pc lv (st) σ := by
  intro hl hs H locs ls hP hS hv
  obtain ⟨hx, hb, -⟩ := C
  exact lv_iconst hx hb hd rfl (k hl (AllV.cons trivial hs) H locs ls hP hS hv)
theorem g_bipush {n : Int} (C : Cx p s m args c cc D ad cA nL own) (hd : decode cc pc = .ok (.bipush n, 2)) (hn : (Int8.ofInt n).toInt32 = Int32.ofInt n) (k : Gd p l e R s m args below meth c nL Q D ad cA (pc + 2) lv (.inl (Int32.ofInt n) :: st) σ) : Gd p l e R s m args below meth c nL Q D ad cA pc lv (st) σ := by
  intro hl hs H locs ls hP hS hv
  obtain ⟨hx, hb, -⟩ := C
  exact lv_bipush hx hb hd hn (k hl (AllV.cons trivial hs) H locs ls hP hS hv)
theorem g_sipush {n : Int} (C : Cx p s m args c cc D ad cA nL own) (hd : decode cc pc = .ok (.sipush n, 3)) (hn : (Int16.ofInt n).toInt32 = Int32.ofInt n) (k : Gd p l e R s m args below meth c nL Q D ad cA (pc + 3) lv (.inl (Int32.ofInt n) :: st) σ) : Gd p l e R s m args below meth c nL Q D ad cA pc lv (st) σ := by
  intro hl hs H locs ls hP hS hv
  obtain ⟨hx, hb, -⟩ := C
  exact lv_sipush hx hb hd hn (k hl (AllV.cons trivial hs) H locs ls hP hS hv)
theorem g_lconst {n : Fin 2} (C : Cx p s m args c cc D ad cA nL own) (hd : decode cc pc = .ok (.lconst n, 1)) (k : Gd p l e R s m args below meth c nL Q D ad cA (pc + 1) lv (.inr (.inl (Int64.ofInt (n.val : Int))) :: st) σ) : Gd p l e R s m args below meth c nL Q D ad cA pc lv (st) σ := by
  intro hl hs H locs ls hP hS hv
  obtain ⟨hx, hb, -⟩ := C
  exact lv_lconst hx hb hd rfl (k hl (AllV.cons trivial hs) H locs ls hP hS hv)
theorem g_dupi {x : Int32} (C : Cx p s m args c cc D ad cA nL own) (hd : decode cc pc = .ok (.dup, 1)) (k : Gd p l e R s m args below meth c nL Q D ad cA (pc + 1) lv (.inl x :: .inl x :: st) σ) : Gd p l e R s m args below meth c nL Q D ad cA pc lv (.inl x :: st) σ := by
  intro hl hs H locs ls hP hS hv
  obtain ⟨hx, hb, -⟩ := C
  exact lv_dup hx hb hd rfl (k hl (AllV.cons trivial (AllV.cons trivial hs.tl)) H locs ls hP hS hv)
theorem g_dupr {q : Nat × Nat} (C : Cx p s m args c cc D ad cA nL own) (hd : decode cc pc = .ok (.dup, 1)) (k : Gd p l e R s m args below meth c nL Q D ad cA (pc + 1) lv (.inr (.inr q) :: .inr (.inr q) :: st) σ) : Gd p l e R s m args below meth c nL Q D ad cA pc lv (.inr (.inr q) :: st) σ := by
  intro hl hs H locs ls hP hS hv
  obtain ⟨hx, hb, -⟩ := C
  exact lv_dup hx hb hd rfl (k hl (AllV.cons hs.hd (AllV.cons hs.hd hs.tl)) H locs ls hP hS hv)
theorem g_dup2 {x : Int32} {q : Nat × Nat} (C : Cx p s m args c cc D ad cA nL own) (hd : decode cc pc = .ok (.dup2, 1)) (k : Gd p l e R s m args below meth c nL Q D ad cA (pc + 1) lv (.inl x :: .inr (.inr q) :: .inl x :: .inr (.inr q) :: st) σ) : Gd p l e R s m args below meth c nL Q D ad cA pc lv (.inl x :: .inr (.inr q) :: st) σ := by
  intro hl hs H locs ls hP hS hv
  obtain ⟨hx, hb, -⟩ := C
  exact lv_dup2_11 hx hb hd rfl rfl (k hl (AllV.cons trivial (AllV.cons hs.tl.hd hs)) H locs ls hP hS hv)
theorem g_popi {x : Int32} (C : Cx p s m args c cc D ad cA nL own) (hd : decode cc pc = .ok (.pop, 1)) (k : Gd p l e R s m args below meth c nL Q D ad cA (pc + 1) lv (st) σ) : Gd p l e R s m args below meth c nL Q D ad cA pc lv (.inl x :: st) σ := by
  intro hl hs H locs ls hP hS hv
  obtain ⟨hx, hb, -⟩ := C
  exact lv_pop hx hb hd rfl (k hl hs.tl H locs ls hP hS hv)
theorem g_popr {q : Nat × Nat} (C : Cx p s m args c cc D ad cA nL own) (hd : decode cc pc = .ok (.pop, 1)) (k : Gd p l e R s m args below meth c nL Q D ad cA (pc + 1) lv (st) σ) : Gd p l e R s m args below meth c nL Q D ad cA pc lv (.inr (.inr q) :: st) σ := by
  intro hl hs H locs ls hP hS hv
  obtain ⟨hx, hb, -⟩ := C
  exact lv_pop hx hb hd rfl (k hl hs.tl H locs ls hP hS hv)
theorem g_goto {off : Int} {tgt : Nat} (C : Cx p s m args c cc D ad cA nL own) (hd : decode cc pc = .ok (.goto off, 3)) (ht : (pc : Int) + off = (tgt : Int)) (k : Gd p l e R s m args below meth c nL Q D ad cA tgt lv st σ) : Gd p l e R s m args below meth c nL Q D ad cA pc lv st σ := by
  intro hl hs H locs ls hP hS hv
  obtain ⟨hx, hb, -⟩ := C
  exact lv_goto hx hb hd ht (k hl hs H locs ls hP hS hv)
theorem g_if_eq {x : Int32} {off : Int} {tgt : Nat} (C : Cx p s m args c cc D ad cA nL own) (hd : decode cc pc = .ok (.ifCond .eq off, 3)) (ht : (pc : Int) + off = (tgt : Int)) (k1 : x = 0 → Gd p l e R s m args below meth c nL Q D ad cA tgt lv st σ) (k2 : ¬ x = 0 → Gd p l e R s m args below meth c nL Q D ad cA (pc + 3) lv st σ) : Gd p l e R s m args below meth c nL Q D ad cA pc lv (.inl x :: st) σ := by
  intro hl hs H locs ls hP hS hv
  obtain ⟨hx, hb, -⟩ := C
  exact lv_if_eq hx hb hd ht (fun h => k1 h hl hs.tl H locs ls hP hS hv) (fun h => k2 h hl hs.tl H locs ls hP hS hv)
theorem g_ic_eq {x y : Int32} {off : Int} {tgt : Nat} (C : Cx p s m args c cc D ad cA nL own) (hd : decode cc pc = .ok (.if_icmp .eq off, 3)) (ht : (pc : Int) + off = (tgt : Int)) (k1 : x = y → Gd p l e R s m args below meth c nL Q D ad cA tgt lv st σ) (k2 : ¬ x = y → Gd p l e R s m args below meth c nL Q D ad cA (pc + 3) lv st σ) : Gd p l e R s m args below meth c nL Q D ad cA pc lv (.inl y :: .inl x :: st) σ := by
  intro hl hs H locs ls hP hS hv
  obtain ⟨hx, hb, -⟩ := C
  exact lv_icmp_eq hx hb hd ht (fun h => k1 h hl hs.tl.tl H locs ls hP hS hv) (fun h => k2 h hl hs.tl.tl H locs ls hP hS hv)
theorem g_if_ne {x : Int32} {off : Int} {tgt : Nat} (C : Cx p s m args c cc D ad cA nL own) (hd : decode cc pc = .ok (.ifCond .ne off, 3)) (ht : (pc : Int) + off = (tgt : Int)) (k1 : ¬ x = 0 → Gd p l e R s m args below meth c nL Q D ad cA tgt lv st σ) (k2 : x = 0 → Gd p l e R s m args below meth c nL Q D ad cA (pc + 3) lv st σ) : Gd p l e R s m args below meth c nL Q D ad cA pc lv (.inl x :: st) σ := by
  intro hl hs H locs ls hP hS hv
  obtain ⟨hx, hb, -⟩ := C
  exact lv_if_ne hx hb hd ht (fun h => k1 h hl hs.tl H locs ls hP hS hv) (fun h => k2 h hl hs.tl H locs ls hP hS hv)
theorem g_ic_ne {x y : Int32} {off : Int} {tgt : Nat} (C : Cx p s m args c cc D ad cA nL own) (hd : decode cc pc = .ok (.if_icmp .ne off, 3)) (ht : (pc : Int) + off = (tgt : Int)) (k1 : ¬ x = y → Gd p l e R s m args below meth c nL Q D ad cA tgt lv st σ) (k2 : x = y → Gd p l e R s m args below meth c nL Q D ad cA (pc + 3) lv st σ) : Gd p l e R s m args below meth c nL Q D ad cA pc lv (.inl y :: .inl x :: st) σ := by
  intro hl hs H locs ls hP hS hv
  obtain ⟨hx, hb, -⟩ := C
  exact lv_icmp_ne hx hb hd ht (fun h => k1 h hl hs.tl.tl H locs ls hP hS hv) (fun h => k2 h hl hs.tl.tl H locs ls hP hS hv)
theorem g_if_lt {x : Int32} {off : Int} {tgt : Nat} (C : Cx p s m args c cc D ad cA nL own) (hd : decode cc pc = .ok (.ifCond .lt off, 3)) (ht : (pc : Int) + off = (tgt : Int)) (k1 : x < 0 → Gd p l e R s m args below meth c nL Q D ad cA tgt lv st σ) (k2 : ¬ x < 0 → Gd p l e R s m args below meth c nL Q D ad cA (pc + 3) lv st σ) : Gd p l e R s m args below meth c nL Q D ad cA pc lv (.inl x :: st) σ := by
  intro hl hs H locs ls hP hS hv
  obtain ⟨hx, hb, -⟩ := C
  exact lv_if_lt hx hb hd ht (fun h => k1 h hl hs.tl H locs ls hP hS hv) (fun h => k2 h hl hs.tl H locs ls hP hS hv)
theorem g_ic_lt {x y : Int32} {off : Int} {tgt : Nat} (C : Cx p s m args c cc D ad cA nL own) (hd : decode cc pc = .ok (.if_icmp .lt off, 3)) (ht : (pc : Int) + off = (tgt : Int)) (k1 : x < y → Gd p l e R s m args below meth c nL Q D ad cA tgt lv st σ) (k2 : ¬ x < y → Gd p l e R s m args below meth c nL Q D ad cA (pc + 3) lv st σ) : Gd p l e R s m args below meth c nL Q D ad cA pc lv (.inl y :: .inl x :: st) σ := by
  intro hl hs H locs ls hP hS hv
  obtain ⟨hx, hb, -⟩ := C
  exact lv_icmp_lt hx hb hd ht (fun h => k1 h hl hs.tl.tl H locs ls hP hS hv) (fun h => k2 h hl hs.tl.tl H locs ls hP hS hv)
theorem g_if_ge {x : Int32} {off : Int} {tgt : Nat} (C : Cx p s m args c cc D ad cA nL own) (hd : decode cc pc = .ok (.ifCond .ge off, 3)) (ht : (pc : Int) + off = (tgt : Int)) (k1 : 0 ≤ x → Gd p l e R s m args below meth c nL Q D ad cA tgt lv st σ) (k2 : ¬ 0 ≤ x → Gd p l e R s m args below meth c nL Q D ad cA (pc + 3) lv st σ) : Gd p l e R s m args below meth c nL Q D ad cA pc lv (.inl x :: st) σ := by
  intro hl hs H locs ls hP hS hv
  obtain ⟨hx, hb, -⟩ := C
  exact lv_if_ge hx hb hd ht (fun h => k1 h hl hs.tl H locs ls hP hS hv) (fun h => k2 h hl hs.tl H locs ls hP hS hv)
theorem g_ic_ge {x y : Int32} {off : Int} {tgt : Nat} (C : Cx p s m args c cc D ad cA nL own) (hd : decode cc pc = .ok (.if_icmp .ge off, 3)) (ht : (pc : Int) + off = (tgt : Int)) (k1 : y ≤ x → Gd p l e R s m args below meth c nL Q D ad cA tgt lv st σ) (k2 : ¬ y ≤ x → Gd p l e R s m args below meth c nL Q D ad cA (pc + 3) lv st σ) : Gd p l e R s m args below meth c nL Q D ad cA pc lv (.inl y :: .inl x :: st) σ := by
  intro hl hs H locs ls hP hS hv
  obtain ⟨hx, hb, -⟩ := C
  exact lv_icmp_ge hx hb hd ht (fun h => k1 h hl hs.tl.tl H locs ls hP hS hv) (fun h => k2 h hl hs.tl.tl H locs ls hP hS hv)
theorem g_if_gt {x : Int32} {off : Int} {tgt : Nat} (C : Cx p s m args c cc D ad cA nL own) (hd : decode cc pc = .ok (.ifCond .gt off, 3)) (ht : (pc : Int) + off = (tgt : Int)) (k1 : 0 < x → Gd p l e R s m args below meth c nL Q D ad cA tgt lv st σ) (k2 : ¬ 0 < x → Gd p l e R s m args below meth c nL Q D ad cA (pc + 3) lv st σ) : Gd p l e R s m args below meth c nL Q D ad cA pc lv (.inl x :: st) σ := by
  intro hl hs H locs ls hP hS hv
  obtain ⟨hx, hb, -⟩ := C
  exact lv_if_gt hx hb hd ht (fun h => k1 h hl hs.tl H locs ls hP hS hv) (fun h => k2 h hl hs.tl H locs ls hP hS hv)
theorem g_ic_gt {x y : Int32} {off : Int} {tgt : Nat} (C : Cx p s m args c cc D ad cA nL own) (hd : decode cc pc = .ok (.if_icmp .gt off, 3)) (ht : (pc : Int) + off = (tgt : Int)) (k1 : y < x → Gd p l e R s m args below meth c nL Q D ad cA tgt lv st σ) (k2 : ¬ y < x → Gd p l e R s m args below meth c nL Q D ad cA (pc + 3) lv st σ) : Gd p l e R s m args below meth c nL Q D ad cA pc lv (.inl y :: .inl x :: st) σ := by
  intro hl hs H locs ls hP hS hv
  obtain ⟨hx, hb, -⟩ := C
  exact lv_icmp_gt hx hb hd ht (fun h => k1 h hl hs.tl.tl H locs ls hP hS hv) (fun h => k2 h hl hs.tl.tl H locs ls hP hS hv)
theorem g_if_le {x : Int32} {off : Int} {tgt : Nat} (C : Cx p s m args c cc D ad cA nL own) (hd : decode cc pc = .ok (.ifCond .le off, 3)) (ht : (pc : Int) + off = (tgt : Int)) (k1 : x ≤ 0 → Gd p l e R s m args below meth c nL Q D ad cA tgt lv st σ) (k2 : ¬ x ≤ 0 → Gd p l e R s m args below meth c nL Q D ad cA (pc + 3) lv st σ) : Gd p l e R s m args below meth c nL Q D ad cA pc lv (.inl x :: st) σ := by
  intro hl hs H locs ls hP hS hv
  obtain ⟨hx, hb, -⟩ := C
  exact lv_if_le hx hb hd ht (fun h => k1 h hl hs.tl H locs ls hP hS hv) (fun h => k2 h hl hs.tl H locs ls hP hS hv)
theorem g_ic_le {x y : Int32} {off : Int} {tgt : Nat} (C : Cx p s m args c cc D ad cA nL own) (hd : decode cc pc = .ok (.if_icmp .le off, 3)) (ht : (pc : Int) + off = (tgt : Int)) (k1 : x ≤ y → Gd p l e R s m args below meth c nL Q D ad cA tgt lv st σ) (k2 : ¬ x ≤ y → Gd p l e R s m args below meth c nL Q D ad cA (pc + 3) lv st σ) : Gd p l e R s m args below meth c nL Q D ad cA pc lv (.inl y :: .inl x :: st) σ := by
  intro hl hs H locs ls hP hS hv
  obtain ⟨hx, hb, -⟩ := C
  exact lv_icmp_le hx hb hd ht (fun h => k1 h hl hs.tl.tl H locs ls hP hS hv) (fun h => k2 h hl hs.tl.tl H locs ls hP hS hv)
theorem g_iload_n {n : Fin 4} {x : Int32} (C : Cx p s m args c cc D ad cA nL own) (hd : decode cc pc = .ok (.iload_n n, 1)) (hg : lvG lv n.val = .inl x) (k : Gd p l e R s m args below meth c nL Q D ad cA (pc + 1) lv (.inl x :: st) σ) : Gd p l e R s m args below meth c nL Q D ad cA pc lv st σ := by
  intro hl hs H locs ls hP hS hv
  obtain ⟨hx, hb, -⟩ := C
  have h1 := lv_load hv (k := n.val) (by rw [hg]; rfl)
  rw [hg] at h1
  have h2 := lvG_vv hl n.val
  rw [hg] at h2
  exact lv_iload_n hx hb hd rfl h1 (k hl (AllV.cons h2 hs) H locs ls hP hS hv)
theorem g_lload_n {n : Fin 4} {x : Int64} (C : Cx p s m args c cc D ad cA nL own) (hd : decode cc pc = .ok (.lload_n n, 1)) (hg : lvG lv n.val = .inr (.inl x)) (k : Gd p l e R s m args below meth c nL Q D ad cA (pc + 1) lv (.inr (.inl x) :: st) σ) : Gd p l e R s m args below meth c nL Q D ad cA pc lv st σ := by
  intro hl hs H locs ls hP hS hv
  obtain ⟨hx, hb, -⟩ := C
  have h1 := lv_load hv (k := n.val) (by rw [hg]; rfl)
  rw [hg] at h1
  have h2 := lvG_vv hl n.val
  rw [hg] at h2
  exact lv_lload_n hx hb hd rfl h1 (k hl (AllV.cons h2 hs) H locs ls hP hS hv)
theorem g_aload_n {n : Fin 4} {t i : Nat} (C : Cx p s m args c cc D ad cA nL own) (hd : decode cc pc = .ok (.aload_n n, 1)) (hg : lvG lv n.val = .inr (.inr (t, i))) (h0 : t ≠ 0) (k : Gd p l e R s m args below meth c nL Q D ad cA (pc + 1) lv (.inr (.inr (t, i)) :: st) σ) : Gd p l e R s m args below meth c nL Q D ad cA pc lv st σ := by
  intro hl hs H locs ls hP hS hv
  obtain ⟨hx, hb, -⟩ := C
  have h1 := lv_load hv (k := n.val) (by rw [hg]; cases t with | zero => exact absurd rfl h0 | succ t => rfl)
  rw [hg] at h1
  have h2 := lvG_vv hl n.val
  rw [hg] at h2
  exact lv_aload_n hx hb hd rfl h1 (k hl (AllV.cons h2 hs) H locs ls hP hS hv)
theorem g_istore_n {n : Fin 4} {x : Int32} (C : Cx p s m args c cc D ad cA nL own) (hd : decode cc pc = .ok (.istore_n n, 1)) (hn : n.val < nL) (k : Gd p l e R s m args below meth c nL Q D ad cA (pc + 1) (lvS lv n.val (.inl x)) st σ) : Gd p l e R s m args below meth c nL Q D ad cA pc lv (.inl x :: st) σ := by
  intro hl hs H locs ls hP hS hv
  obtain ⟨hx, hb, -⟩ := C
  exact lv_istore_n hx hb hd rfl hv hn rfl (fun ls hv => k (lvS_vv hs.hd _ hl) hs.tl H locs ls hP hS (lv_st1 (v := .inl x) hv))
theorem g_astore_n {n : Fin 4} {q : Nat × Nat} (C : Cx p s m args c cc D ad cA nL own) (hd : decode cc pc = .ok (.astore_n n, 1)) (hn : n.val < nL) (k : Gd p l e R s m args below meth c nL Q D ad cA (pc + 1) (lvS lv n.val (.inr (.inr q))) st σ) : Gd p l e R s m args below meth c nL Q D ad cA pc lv (.inr (.inr q) :: st) σ := by
  intro hl hs H locs ls hP hS hv
  obtain ⟨hx, hb, -⟩ := C
  exact lv_astore_n hx hb hd rfl hv hn rfl (fun ls hv => k (lvS_vv hs.hd _ hl) hs.tl H locs ls hP hS (lv_st1 (v := .inr (.inr q)) hv))
theorem g_lstore_n {n : Fin 4} {x : Int64} (C : Cx p s m args c cc D ad cA nL own) (hd : decode cc pc = .ok (.lstore_n n, 1)) (hn : n.val + 1 < nL) (k : Gd p l e R s m args below meth c nL Q D ad cA (pc + 1) (lvS2 lv n.val (.inr (.inl x))) st σ) : Gd p l e R s m args below meth c nL Q D ad cA pc lv (.inr (.inl x) :: st) σ := by
  intro hl hs H locs ls hP hS hv
  obtain ⟨hx, hb, -⟩ := C
  exact lv_lstore_n hx hb hd rfl hv hn rfl (fun ls hv => k (lvS_vv hs.hd _ (lvS_vv (v := unset) (Or.inl ⟨rfl, rfl⟩) _ hl)) hs.tl H locs ls hP hS (lv_st2 (v := .inr (.inl x)) hv))
theorem g_iload {n : Nat} {x : Int32} (C : Cx p s m args c cc D ad cA nL own) (hd : decode cc pc = .ok (.iload n, 2)) (hg : lvG lv n = .inl x) (k : Gd p l e R s m args below meth c nL Q D ad cA (pc + 2) lv (.inl x :: st) σ) : Gd p l e R s m args below meth c nL Q D ad cA pc lv st σ := by
  intro hl hs H locs ls hP hS hv
  obtain ⟨hx, hb, -⟩ := C
  have h1 := lv_load hv (k := n) (by rw [hg]; rfl)
  rw [hg] at h1
  have h2 := lvG_vv hl n
  rw [hg] at h2
  exact lv_iload hx hb hd h1 (k hl (AllV.cons h2 hs) H locs ls hP hS hv)
theorem g_lload {n : Nat} {x : Int64} (C : Cx p s m args c cc D ad cA nL own) (hd : decode cc pc = .ok (.lload n, 2)) (hg : lvG lv n = .inr (.inl x)) (k : Gd p l e R s m args below meth c nL Q D ad cA (pc + 2) lv (.inr (.inl x) :: st) σ) : Gd p l e R s m args below meth c nL Q D ad cA pc lv st σ := by
  intro hl hs H locs ls hP hS hv
  obtain ⟨hx, hb, -⟩ := C
  have h1 := lv_load hv (k := n) (by rw [hg]; rfl)
  rw [hg] at h1
  have h2 := lvG_vv hl n
  rw [hg] at h2
  exact lv_lload hx hb hd h1 (k hl (AllV.cons h2 hs) H locs ls hP hS hv)
theorem g_aload {n : Nat} {t i : Nat} (C : Cx p s m args c cc D ad cA nL own) (hd : decode cc pc = .ok (.aload n, 2)) (hg : lvG lv n = .inr (.inr (t, i))) (h0 : t ≠ 0) (k : Gd p l e R s m args below meth c nL Q D ad cA (pc + 2) lv (.inr (.inr (t, i)) :: st) σ) : Gd p l e R s m args below meth c nL Q D ad cA pc lv st σ := by
  intro hl hs H locs ls hP hS hv
  obtain ⟨hx, hb, -⟩ := C
  have h1 := lv_load hv (k := n) (by rw [hg]; cases t with | zero => exact absurd rfl h0 | succ t => rfl)
  rw [hg] at h1
  have h2 := lvG_vv hl n
  rw [hg] at h2
  exact lv_aload hx hb hd h1 (k hl (AllV.cons h2 hs) H locs ls hP hS hv)
theorem g_istore {n : Nat} {x : Int32} (C : Cx p s m args c cc D ad cA nL own) (hd : decode cc pc = .ok (.istore n, 2)) (hn : n < nL) (k : Gd p l e R s m args below meth c nL Q D ad cA (pc + 2) (lvS lv n (.inl x)) st σ) : Gd p l e R s m args below meth c nL Q D ad cA pc lv (.inl x :: st) σ := by
  intro hl hs H locs ls hP hS hv
  obtain ⟨hx, hb, -⟩ := C
  exact lv_istore hx hb hd hv hn rfl (fun ls hv => k (lvS_vv hs.hd _ hl) hs.tl H locs ls hP hS (lv_st1 (v := .inl x) hv))
theorem g_astore {n : Nat} {q : Nat × Nat} (C : Cx p s m args c cc D ad cA nL own) (hd : decode cc pc = .ok (.astore n, 2)) (hn : n < nL) (k : Gd p l e R s m args below meth c nL Q D ad cA (pc + 2) (lvS lv n (.inr (.inr q))) st σ) : Gd p l e R s m args below meth c nL Q D ad cA pc lv (.inr (.inr q) :: st) σ := by
  intro hl hs H locs ls hP hS hv
  obtain ⟨hx, hb, -⟩ := C
  exact lv_astore hx hb hd hv hn rfl (fun ls hv => k (lvS_vv hs.hd _ hl) hs.tl H locs ls hP hS (lv_st1 (v := .inr (.inr q)) hv))
theorem g_lstore {n : Nat} {x : Int64} (C : Cx p s m args c cc D ad cA nL own) (hd : decode cc pc = .ok (.lstore n, 2)) (hn : n + 1 < nL) (k : Gd p l e R s m args below meth c nL Q D ad cA (pc + 2) (lvS2 lv n (.inr (.inl x))) st σ) : Gd p l e R s m args below meth c nL Q D ad cA pc lv (.inr (.inl x) :: st) σ := by
  intro hl hs H locs ls hP hS hv
  obtain ⟨hx, hb, -⟩ := C
  exact lv_lstore hx hb hd hv hn rfl (fun ls hv => k (lvS_vv hs.hd _ (lvS_vv (v := unset) (Or.inl ⟨rfl, rfl⟩) _ hl)) hs.tl H locs ls hP hS (lv_st2 (v := .inr (.inl x)) hv))
theorem g_iinc {n : Nat} {j : Int} {x : Int32} (C : Cx p s m args c cc D ad cA nL own) (hd : decode cc pc = .ok (.iinc n j, 3)) (hn : n < nL) (hg : lvG lv n = .inl x) (k : Gd p l e R s m args below meth c nL Q D ad cA (pc + 3) (lvS lv n (.inl (x + Int32.ofInt j))) st σ) : Gd p l e R s m args below meth c nL Q D ad cA pc lv st σ := by
  intro hl hs H locs ls hP hS hv
  obtain ⟨hx, hb, -⟩ := C
  have hu : isU (lvG lv n) = false := by rw [hg]; rfl
  have h1 : (n, Value.int x) ∈ lvc ad 0 lv := (lvc_mem lv 0 _).mpr ⟨n, .inl x, by rw [lvG_at lv n hu, hg], rfl, by simp [cv]⟩
  obtain ⟨kk, hkk⟩ := List.getElem?_of_mem h1
  exact lv_iinc (k := kk) hx hb hd hv hkk rfl hn rfl (fun ls hv => k (lvS_vv (v := .inl (x + Int32.ofInt j)) trivial _ hl) hs H locs ls hP hS (lv_st1 (v := .inl (x + Int32.ofInt j)) hv))
end SND
end
section
section SND2
variable {p : Program} {l : Launch} {e : Env} {R : Room} {s : State} {m : MethodId} {args : Array Value} {below : List Frame} {meth : Method} {c : Code} {Q : State → Prop} {cc : ByteArray} {D : va_G} {ad : Nat × Nat → Nat} {cA : Nat → ClassId} {nL pc : Nat} {own : String} {lv st : List AV} {σ : AM}
theorem vld {t i : Nat} (h : vv (.inr (.inr (t, i)))) (h9 : (sh t).1 ≠ 9) : t < 67 ∧ i < cn t := by
  rcases h with ⟨h1, -⟩ | h | ⟨h1, -⟩
  · subst h1; exact absurd rfl h9
  · exact h
  · subst h1; exact absurd rfl h9
theorem iTg {cI : Nat} (hc : cI < 13) : ∀ w ∈ u_ws (RN cI) (TT cI) (fkl cI).length, w ∈ Tg := by
  intro w hw
  refine inT (iTT cI hc w hw) ?_
  obtain ⟨k, -, rfl⟩ := List.mem_map.mp hw
  unfold u_lay
  split <;> rfl
theorem g_getfield {t i cI k idx : Nat} {av : AV} (C : Cx p s m args c cc D ad cA nL own) (hd : decode cc pc = .ok (.getfield idx, 3)) (hc : cI < 13) (hk : k < (fkl cI).length) (hsh : sh t = (0, cI)) (hln : Cond.fieldLink own idx (TT cI k).1 (TT cI k).2.1 (TT cI k).2.2.1 ∈ Tg) (hav : cv ad av = fval ad σ t i k ((fkl cI).getD k (9, 0, 0))) (hvv : t < 67 → i < cn t → vv av) (kk : Gd p l e R s m args below meth c nL Q D ad cA (pc + 3) lv (av :: st) σ) : Gd p l e R s m args below meth c nL Q D ad cA pc lv (.inr (.inr (t, i)) :: st) σ := by
  intro hl hs H locs ls hP hS hv
  obtain ⟨hx, hb, hown, hml, hts, hK, hA, hW⟩ := C
  obtain ⟨ht, hi⟩ := vld hs.hd (by rw [hsh]; simp)
  have he : (wsA ad cA σ)[ps t + i]? = some (ad (t, i), .inr (cI, flds ad σ t i cI)) := by rw [wsA_at ht hi]; simp [cellOf, hsh]
  exact va_get hx hb hts (iTg hc) hown hK hP (ps t + i) he (clA_at cI hc) k hk (hts _ hln) (fun x h => h) (v := cv ad av) (by rw [flds_get hk, hav]) hd (kk hl (AllV.cons (hvv ht hi) hs.tl) H locs ls hP hS hv)
theorem g_putfield {t i cI k idx : Nat} {av : AV} {σ' : AM} (C : Cx p s m args c cc D ad cA nL own) (hd : decode cc pc = .ok (.putfield idx, 3)) (hc : cI < 13) (hk : k < (fkl cI).length) (hsh : sh t = (0, cI)) (hln : Cond.fieldLink own idx (TT cI k).1 (TT cI k).2.1 (TT cI k).2.2.1 ∈ Tg) (hfin : (TT cI k).2.2.2 = false) (hn : narrow (tyTT cI k) (cv ad av) = cv ad av) (hfit : fits (tyTT cI k) (cv ad av) = true) (hset : flds ad σ' t i cI = (flds ad σ t i cI).set k (cv ad av)) (hne : ∀ q : Nat × Nat, q ≠ (t, i) → σ.1 q.1 q.2 = σ'.1 q.1 q.2 ∧ σ.2.1 q.1 q.2 = σ'.2.1 q.1 q.2 ∧ σ.2.2 q.1 q.2 = σ'.2.2 q.1 q.2) (kk : Gd p l e R s m args below meth c nL Q D ad cA (pc + 3) lv st σ') : Gd p l e R s m args below meth c nL Q D ad cA pc lv (av :: .inr (.inr (t, i)) :: st) σ := by
  intro hl hs H locs ls hP hS hv
  obtain ⟨hx, hb, hown, hml, hts, hK, hA, hW⟩ := C
  obtain ⟨ht, hi⟩ := vld hs.tl.hd (by rw [hsh]; simp)
  have he : (wsA ad cA σ)[ps t + i]? = some (ad (t, i), .inr (cI, flds ad σ t i cI)) := by rw [wsA_at ht hi]; simp [cellOf, hsh]
  refine va_put hx hb hts (iTg hc) (tyTT cI) (yTT cI hc) (nTT cI hc) hown hK hP (wsA_D hA) hS (ps t + i) he (clA_at cI hc) k hk (hts _ hln) (fun x h => h) hfin (yTT cI hc k hk) hn hfit (by rw [flds_len]; exact hk) hd (fun H1 locs1 hP1 _ hS1 => ?_)
  rw [wsA_set (σ' := σ') ht hi (by simp [cellOf, hsh, hset]) hne] at hP1
  exact kk hl hs.tl.tl H1 locs1 ls hP1 hS1 hv
theorem g_iaload {t i n : Nat} {j : Int32} (C : Cx p s m args c cc D ad cA nL own) (hd : decode cc pc = .ok (.iaload, 1)) (hsh : sh t = (1, n)) (hin : vp_in j n) (kk : Gd p l e R s m args below meth c nL Q D ad cA (pc + 1) lv (.inl (σ.1 t i j.toNatClampNeg) :: st) σ) : Gd p l e R s m args below meth c nL Q D ad cA pc lv (.inl j :: .inr (.inr (t, i)) :: st) σ := by
  intro hl hs H locs ls hP hS hv
  obtain ⟨hx, hb, hown, hml, hts, hK, hA, hW⟩ := C
  obtain ⟨ht, hi⟩ := vld hs.tl.hd (by rw [hsh]; simp)
  exact va_iald hx hb hK hP (ps t + i) 0 (cA := cA 1) (n := n) (f := σ.1 t i) (by rw [wsA_at ht hi]; simp [cellOf, hsh]) rfl hin hd (kk hl (AllV.cons trivial hs.tl.tl) H locs ls hP hS hv)
theorem g_baload {t i n kd : Nat} {j : Int32} (C : Cx p s m args c cc D ad cA nL own) (hd : decode cc pc = .ok (.baload, 1)) (hsh : sh t = (kd, n)) (hk : kd = 3 ∨ kd = 4) (hin : vp_in j n) (kk : Gd p l e R s m args below meth c nL Q D ad cA (pc + 1) lv (.inl (σ.1 t i j.toNatClampNeg) :: st) σ) : Gd p l e R s m args below meth c nL Q D ad cA pc lv (.inl j :: .inr (.inr (t, i)) :: st) σ := by
  intro hl hs H locs ls hP hS hv
  obtain ⟨hx, hb, hown, hml, hts, hK, hA, hW⟩ := C
  rcases hk with rfl | rfl
  · obtain ⟨ht, hi⟩ := vld hs.tl.hd (by rw [hsh]; simp)
    exact va_bald hx hb hK hP (ps t + i) 2 (cA := cA 3) (n := n) (f := σ.1 t i) (by rw [wsA_at ht hi]; simp [cellOf, hsh]) rfl hin hd (kk hl (AllV.cons trivial hs.tl.tl) H locs ls hP hS hv)
  · obtain ⟨ht, hi⟩ := vld hs.tl.hd (by rw [hsh]; simp)
    exact va_zald hx hb hK hP (ps t + i) 3 (cA := cA 4) (n := n) (f := σ.1 t i) (by rw [wsA_at ht hi]; simp [cellOf, hsh]) rfl hin hd (kk hl (AllV.cons trivial hs.tl.tl) H locs ls hP hS hv)
theorem g_laload {t i n : Nat} {j : Int32} (C : Cx p s m args c cc D ad cA nL own) (hd : decode cc pc = .ok (.laload, 1)) (hsh : sh t = (2, n)) (hin : vp_in j n) (kk : Gd p l e R s m args below meth c nL Q D ad cA (pc + 1) lv (.inr (.inl (σ.2.1 t i j.toNatClampNeg)) :: st) σ) : Gd p l e R s m args below meth c nL Q D ad cA pc lv (.inl j :: .inr (.inr (t, i)) :: st) σ := by
  intro hl hs H locs ls hP hS hv
  obtain ⟨hx, hb, hown, hml, hts, hK, hA, hW⟩ := C
  obtain ⟨ht, hi⟩ := vld hs.tl.hd (by rw [hsh]; simp)
  exact va_lald hx hb hK hP (ps t + i) 1 (cA := cA 2) (n := n) (f := σ.2.1 t i) (by rw [wsA_at ht hi]; simp [cellOf, hsh]) rfl hin hd (kk hl (AllV.cons trivial hs.tl.tl) H locs ls hP hS hv)
/-- arrays of references: what they hold are cells that there are -/
theorem elt_ok : ∀ t, t < 67 → (sh t).1 = 5 → (elt t).1 < 67 ∧ (elt t).2 + (sh t).2 ≤ cn (elt t).1 ∧ (rkt t = 5 ∨ rkt t = 6 ∨ rkt t = 7) := by decide +kernel
theorem g_aaload {t i n u d : Nat} {j : Int32} (C : Cx p s m args c cc D ad cA nL own) (hd : decode cc pc = .ok (.aaload, 1)) (hsh : sh t = (5, n)) (hel : elt t = (u, d)) (hin : vp_in j n) (kk : Gd p l e R s m args below meth c nL Q D ad cA (pc + 1) lv (.inr (.inr (u, d + j.toNatClampNeg)) :: st) σ) : Gd p l e R s m args below meth c nL Q D ad cA pc lv (.inl j :: .inr (.inr (t, i)) :: st) σ := by
  intro hl hs H locs ls hP hS hv
  obtain ⟨hx, hb, hown, hml, hts, hK, hA, hW⟩ := C
  obtain ⟨ht, hi⟩ := vld hs.tl.hd (by rw [hsh]; simp)
  obtain ⟨h1, h2, h3⟩ := elt_ok t ht (by rw [hsh])
  rw [hel, hsh] at h2
  rw [hel] at h1
  have hlt : j.toNatClampNeg < n := Nat.not_le.mp fun q => hin (Or.inr q)
  have hvq : vv (.inr (.inr (u, d + j.toNatClampNeg))) := Or.inr (Or.inl ⟨h1, by dsimp only at h2; omega⟩)
  have key := kk hl (AllV.cons hvq hs.tl.tl) H locs ls hP hS hv
  have ha : (wsA ad cA σ)[ps t + i]? = some (ad (t, i), .inl (cA (rkt t), n, .inr (.inr (.inr (.inr (fun x => some (ad ((elt t).1, (elt t).2 + x)))))))) := by rw [wsA_at ht hi]; simp [cellOf, hsh]
  rw [hel] at ha
  rcases h3 with h3 | h3 | h3 <;> rw [h3] at ha
  · exact va_aldq hx hb hK hP (ps t + i) 4 ha rfl hin hd key
  · exact va_aldq hx hb hK hP (ps t + i) 5 ha rfl hin hd key
  · exact va_aldq hx hb hK hP (ps t + i) 6 ha rfl hin hd key
theorem g_arraylength {t i n kd : Nat} (C : Cx p s m args c cc D ad cA nL own) (hd : decode cc pc = .ok (.arraylength, 1)) (hsh : sh t = (kd, n)) (hk : kd = 1 ∨ kd = 2) (kk : Gd p l e R s m args below meth c nL Q D ad cA (pc + 1) lv (.inl (Int32.ofInt (n : Int)) :: st) σ) : Gd p l e R s m args below meth c nL Q D ad cA pc lv (.inr (.inr (t, i)) :: st) σ := by
  intro hl hs H locs ls hP hS hv
  obtain ⟨hx, hb, hown, hml, hts, hK, hA, hW⟩ := C
  rcases hk with rfl | rfl
  · obtain ⟨ht, hi⟩ := vld hs.hd (by rw [hsh]; simp)
    exact va_alen hx hb hK hP (ps t + i) 0 (cA := cA 1) (x := (n, .inl (σ.1 t i))) (by rw [wsA_at ht hi]; simp [cellOf, hsh]) (ty := .int) rfl rfl hd (kk hl (AllV.cons trivial hs.tl) H locs ls hP hS hv)
  · obtain ⟨ht, hi⟩ := vld hs.hd (by rw [hsh]; simp)
    exact va_alen hx hb hK hP (ps t + i) 1 (cA := cA 2) (x := (n, .inr (.inl (σ.2.1 t i)))) (by rw [wsA_at ht hi]; simp [cellOf, hsh]) (ty := .long) rfl rfl hd (kk hl (AllV.cons trivial hs.tl) H locs ls hP hS hv)
theorem g_iastore {t i n : Nat} {j x : Int32} (C : Cx p s m args c cc D ad cA nL own) (hd : decode cc pc = .ok (.iastore, 1)) (hsh : sh t = (1, n)) (hin : vp_in j n) (kk : Gd p l e R s m args below meth c nL Q D ad cA (pc + 1) lv st (wI σ t i j.toNatClampNeg x)) : Gd p l e R s m args below meth c nL Q D ad cA pc lv (.inl x :: .inl j :: .inr (.inr (t, i)) :: st) σ := by
  intro hl hs H locs ls hP hS hv
  obtain ⟨hx, hb, hown, hml, hts, hK, hA, hW⟩ := C
  obtain ⟨ht, hi⟩ := vld hs.tl.tl.hd (by rw [hsh]; simp)
  refine va_iast hx hb hK hP (wsA_D hA) hS (ps t + i) 0 (cA := cA 1) (n := n) (f := σ.1 t i) (by rw [wsA_at ht hi]; simp [cellOf, hsh]) rfl hin hd (fun H1 locs1 hP1 _ hS1 => ?_)
  rw [wsA_set (σ' := wI σ t i j.toNatClampNeg x) ht hi (by simp [cellOf, hsh, upd_wI]) (wI_ne _ _ _ _ _)] at hP1
  exact kk hl hs.tl.tl.tl H1 locs1 ls hP1 hS1 hv
theorem g_lastore {t i n : Nat} {j : Int32} {x : Int64} (C : Cx p s m args c cc D ad cA nL own) (hd : decode cc pc = .ok (.lastore, 1)) (hsh : sh t = (2, n)) (hin : vp_in j n) (kk : Gd p l e R s m args below meth c nL Q D ad cA (pc + 1) lv st (wL σ t i j.toNatClampNeg x)) : Gd p l e R s m args below meth c nL Q D ad cA pc lv (.inr (.inl x) :: .inl j :: .inr (.inr (t, i)) :: st) σ := by
  intro hl hs H locs ls hP hS hv
  obtain ⟨hx, hb, hown, hml, hts, hK, hA, hW⟩ := C
  obtain ⟨ht, hi⟩ := vld hs.tl.tl.hd (by rw [hsh]; simp)
  refine va_last hx hb hK hP (wsA_D hA) hS (ps t + i) 1 (cA := cA 2) (n := n) (f := σ.2.1 t i) (by rw [wsA_at ht hi]; simp [cellOf, hsh]) rfl hin hd (fun H1 locs1 hP1 _ hS1 => ?_)
  rw [wsA_set (σ' := wL σ t i j.toNatClampNeg x) ht hi (by simp [cellOf, hsh, upd_wL]) (wL_ne _ _ _ _ _)] at hP1
  exact kk hl hs.tl.tl.tl H1 locs1 ls hP1 hS1 hv
theorem g_bastoreB {t i n : Nat} {j x : Int32} (C : Cx p s m args c cc D ad cA nL own) (hd : decode cc pc = .ok (.bastore, 1)) (hsh : sh t = (3, n)) (hin : vp_in j n) (kk : Gd p l e R s m args below meth c nL Q D ad cA (pc + 1) lv st (wI σ t i j.toNatClampNeg x.toInt8.toInt32)) : Gd p l e R s m args below meth c nL Q D ad cA pc lv (.inl x :: .inl j :: .inr (.inr (t, i)) :: st) σ := by
  intro hl hs H locs ls hP hS hv
  obtain ⟨hx, hb, hown, hml, hts, hK, hA, hW⟩ := C
  obtain ⟨ht, hi⟩ := vld hs.tl.tl.hd (by rw [hsh]; simp)
  refine va_bast hx hb hK hP (wsA_D hA) hS (ps t + i) 2 (cA := cA 3) (n := n) (f := σ.1 t i) (by rw [wsA_at ht hi]; simp [cellOf, hsh]) rfl hin hd (fun H1 locs1 hP1 _ hS1 => ?_)
  rw [vp_nar_byte, wsA_set (σ' := wI σ t i j.toNatClampNeg x.toInt8.toInt32) ht hi (by simp [cellOf, hsh, upd_wI]) (wI_ne _ _ _ _ _)] at hP1
  exact kk hl hs.tl.tl.tl H1 locs1 ls hP1 hS1 hv
theorem nar_bool {x : Int32} (h : x = 0 ∨ x = 1) : vp_nar .boolean x = x ∧ narrow .boolean (.int x) = .int x ∧ fits .boolean (.int x) = true := by
  rcases h with rfl | rfl <;> refine ⟨?_, ?_, ?_⟩ <;> rfl
theorem g_bastoreZ {t i n : Nat} {j x : Int32} (C : Cx p s m args c cc D ad cA nL own) (hd : decode cc pc = .ok (.bastore, 1)) (hsh : sh t = (4, n)) (hin : vp_in j n) (h01 : x = 0 ∨ x = 1) (kk : Gd p l e R s m args below meth c nL Q D ad cA (pc + 1) lv st (wI σ t i j.toNatClampNeg x)) : Gd p l e R s m args below meth c nL Q D ad cA pc lv (.inl x :: .inl j :: .inr (.inr (t, i)) :: st) σ := by
  intro hl hs H locs ls hP hS hv
  obtain ⟨hx, hb, hown, hml, hts, hK, hA, hW⟩ := C
  obtain ⟨ht, hi⟩ := vld hs.tl.tl.hd (by rw [hsh]; simp)
  refine va_zast hx hb hK hP (wsA_D hA) hS (ps t + i) 3 (cA := cA 4) (n := n) (f := σ.1 t i) (by rw [wsA_at ht hi]; simp [cellOf, hsh]) rfl hin hd (fun H1 locs1 hP1 _ hS1 => ?_)
  rw [(nar_bool h01).1, wsA_set (σ' := wI σ t i j.toNatClampNeg x) ht hi (by simp [cellOf, hsh, upd_wI]) (wI_ne _ _ _ _ _)] at hP1
  exact kk hl hs.tl.tl.tl H1 locs1 ls hP1 hS1 hv
theorem g_tableswitch {dflt lo hi : Int} {offs : Array Int} {len a : Nat} {x : Int32} {ts : List Nat} (C : Cx p s m args c cc D ad cA nL own) (hd : decode cc pc = .ok (.tableswitch dflt lo hi offs, len)) (hdf : (pc : Int) + dflt = (a : Int)) (hts : offs.toList.map (fun o => (pc : Int) + o) = ts.map (fun (t : Nat) => (t : Int))) (hn : hi = lo + (ts.length : Int) - 1)
    (hJ : swT (Gd p l e R s m args below meth c nL Q D ad cA) x lv st σ lo ts) (hD : x.toInt < lo ∨ hi < x.toInt → Gd p l e R s m args below meth c nL Q D ad cA a lv st σ) : Gd p l e R s m args below meth c nL Q D ad cA pc lv (.inl x :: st) σ := by
  intro hl hs H locs ls hP hS hv
  obtain ⟨hx, hb, -⟩ := C
  by_cases hout : x.toInt < lo ∨ hi < x.toInt
  · exact lv_tableOut hx hb hd hout hdf (hD hout hl hs.tl H locs ls hP hS hv)
  · have h1 : ¬ x.toInt < lo := fun h => hout (Or.inl h)
    have h2 : ¬ hi < x.toInt := fun h => hout (Or.inr h)
    have key : ∀ (ts : List Nat) (lo : Int) (n : Nat) (t : Nat), swT (Gd p l e R s m args below meth c nL Q D ad cA) x lv st σ lo ts → ts[n]? = some t → x.toInt = lo + n → Gd p l e R s m args below meth c nL Q D ad cA t lv st σ := by
      intro ts
      induction ts with
      | nil => intro lo n t _ h; simp at h
      | cons t0 r ih =>
        intro lo n t hw h he
        cases n with
        | zero =>
          rw [List.getElem?_cons_zero] at h
          cases h
          exact hw.1 (by omega)
        | succ n =>
          rw [List.getElem?_cons_succ] at h
          exact ih (lo + 1) n t hw.2 h (by omega)
    obtain ⟨n, hn2⟩ : ∃ n : Nat, x.toInt = lo + n := ⟨(x.toInt - lo).toNat, by omega⟩
    have hnl : n < ts.length := by omega
    have hg : ts[n]? = some ts[n] := List.getElem?_eq_getElem hnl
    have ho : (offs.toList.map (fun o => (pc : Int) + o))[n]? = some ((ts[n] : Nat) : Int) := by rw [hts, List.getElem?_map, hg]; rfl
    rw [List.getElem?_map] at ho
    cases hoo : offs.toList[n]? with
    | none => rw [hoo] at ho; cases ho
    | some o =>
      rw [hoo] at ho
      refine lv_tableIn hx hb hd h1 h2 (off := o) (tgt := ts[n]) ?_ (Option.some.inj ho) (key ts lo n _ hJ hg hn2 hl hs.tl H locs ls hP hS hv)
      rw [show (x.toInt - lo).toNat = n by omega, ← Array.getElem?_toList]
      exact hoo
theorem g_lookupswitch {dflt : Int} {pps : Array (Int × Int)} {len a : Nat} {x : Int32} {ts : List Nat} (C : Cx p s m args c cc D ad cA nL own) (hd : decode cc pc = .ok (.lookupswitch dflt pps, len)) (hp : (pps.toList.zip (pps.toList.drop 1)).all (fun (a, next) => a.1 < next.1) = true) (hdf : (pc : Int) + dflt = (a : Int)) (hts : pps.toList.map (fun o => (pc : Int) + o.2) = ts.map (fun (t : Nat) => (t : Int)))
    (hJ : swL (Gd p l e R s m args below meth c nL Q D ad cA) x lv st σ a pps.toList ts) : Gd p l e R s m args below meth c nL Q D ad cA pc lv (.inl x :: st) σ := by
  intro hl hs H locs ls hP hS hv
  obtain ⟨hx, hb, -⟩ := C
  have key : ∀ (qs : List (Int × Int)) (ts : List Nat), qs.map (fun o => (pc : Int) + o.2) = ts.map (fun (t : Nat) => (t : Int)) → swL (Gd p l e R s m args below meth c nL Q D ad cA) x lv st σ a qs ts → ∃ tgt : Nat, (pc : Int) + Op.lookupswitch.offset qs dflt x.toInt = (tgt : Int) ∧ Gd p l e R s m args below meth c nL Q D ad cA tgt lv st σ := by
    intro qs
    induction qs with
    | nil =>
      intro ts _ h
      refine ⟨a, ?_, ?_⟩
      · simpa [Op.lookupswitch.offset] using hdf
      · cases ts <;> exact h
    | cons q r ih =>
      intro ts he h
      obtain ⟨k, o⟩ := q
      cases ts with
      | nil => simp at he
      | cons t0 rt =>
        simp only [List.map_cons, List.cons.injEq] at he
        by_cases hk : x.toInt = k
        · refine ⟨t0, ?_, h.1 hk⟩
          simpa [Op.lookupswitch.offset, hk] using he.1
        · obtain ⟨tgt, h1, h2⟩ := ih rt he.2 (h.2 hk)
          refine ⟨tgt, ?_, h2⟩
          have hk2 : ¬ k = x.toInt := fun z => hk z.symm
          simpa [Op.lookupswitch.offset, hk, hk2] using h1
  obtain ⟨tgt, h1, h2⟩ := key pps.toList ts hts hJ
  exact lv_lookup hx hb hd hp rfl h1 (h2 hl hs.tl H locs ls hP hS hv)
end SND2
end
section
def mn (y : Nat) : MethodName := (bif Nat.ble y 168 then (bif Nat.ble y 84 then (bif Nat.ble y 42 then (bif Nat.ble y 21 then (bif Nat.ble y 10 then (bif Nat.ble y 5 then (bif Nat.ble y 2 then (bif Nat.ble y 1 then (bif Nat.ble y 0 then ⟨"SilentTurn$Ahead", "in", "(LSilentTurn$House;I)LSilentTurn$House;"⟩ else ⟨"SilentTurn$Ahead", "in", "(LSilentTurn$House;I)LSilentTurn$House;"⟩) else ⟨"SilentTurn$Ahead", "firstPause", "(LSilentTurn$House;I)I"⟩) else (bif Nat.ble y 4 then (bif Nat.ble y 3 then ⟨"SilentTurn$Ahead", "firstPauseOf", "(LSilentTurn$House;I)I"⟩ else ⟨"SilentTurn$Ahead", "suffices", "(LSilentTurn$House;II)Z"⟩) else ⟨"SilentTurn$Ahead", "smallest", "(LSilentTurn$House;I)I"⟩)) else (bif Nat.ble y 8 then (bif Nat.ble y 7 then (bif Nat.ble y 6 then ⟨"SilentTurn$Ahead", "easiest", "(LSilentTurn$House;I)I"⟩ else ⟨"SilentTurn$Ahead", "tryMinute", "(I)V"⟩) else ⟨"SilentTurn$Ahead", "weigh", "(I)V"⟩) else (bif Nat.ble y 9 then ⟨"SilentTurn$Ahead", "next", "(III)V"⟩ else ⟨"SilentTurn$Ahead", "ways", "(LSilentTurn$House;LSilentTurn$Tray;II)I"⟩))) else (bif Nat.ble y 16 then (bif Nat.ble y 13 then (bif Nat.ble y 12 then (bif Nat.ble y 11 then ⟨"SilentTurn$Ahead", "waysFrom", "(I)I"⟩ else ⟨"SilentTurn$Days", "clear", "()V"⟩) else ⟨"SilentTurn$Days", "copy", "(LSilentTurn$Days;)V"⟩) else (bif Nat.ble y 15 then (bif Nat.ble y 14 then ⟨"SilentTurn$Days", "add", "(I)I"⟩ else ⟨"SilentTurn$DaysReader", "takes", "(LSilentTurn$Days;LSilentTurn$House;)Z"⟩) else ⟨"SilentTurn$DaysReader", "takesEnd", "()Z"⟩)) else (bif Nat.ble y 19 then (bif Nat.ble y 18 then (bif Nat.ble y 17 then ⟨"SilentTurn$DaysReader", "takesStep", "()Z"⟩ else ⟨"SilentTurn$DaysReader", "addStep", "(I)I"⟩) else ⟨"SilentTurn$DaysReader", "isStepWord", "(I)Z"⟩) else (bif Nat.ble y 20 then ⟨"SilentTurn$DaysReader", "takesTest", "(I)Z"⟩ else ⟨"SilentTurn$DaysReader", "takesMonk", "(I)Z"⟩)))) else (bif Nat.ble y 32 then (bif Nat.ble y 27 then (bif Nat.ble y 24 then (bif Nat.ble y 23 then (bif Nat.ble y 22 then ⟨"SilentTurn$DaysReader", "takesNumber", "(III)Z"⟩ else ⟨"SilentTurn$House", "clear", "()V"⟩) else ⟨"SilentTurn$House", "copy", "(LSilentTurn$House;)V"⟩) else (bif Nat.ble y 26 then (bif Nat.ble y 25 then ⟨"SilentTurn$House", "addEntry", "(II)V"⟩ else ⟨"SilentTurn$House", "dropEntry", "(I)V"⟩) else ⟨"SilentTurn$House", "mayTalk", "(I)Z"⟩)) else (bif Nat.ble y 30 then (bif Nat.ble y 29 then (bif Nat.ble y 28 then ⟨"SilentTurn$House", "open", "()I"⟩ else ⟨"SilentTurn$House", "canSay", "(II)Z"⟩) else ⟨"SilentTurn$House", "sayable", "(I)I"⟩) else (bif Nat.ble y 31 then ⟨"SilentTurn$House", "speech", "()I"⟩ else ⟨"SilentTurn$House", "rosteredSpeech", "()I"⟩))) else (bif Nat.ble y 37 then (bif Nat.ble y 35 then (bif Nat.ble y 34 then (bif Nat.ble y 33 then ⟨"SilentTurn$House", "helpingSpeech", "()I"⟩ else ⟨"SilentTurn$House", "pass", "(I)I"⟩) else ⟨"SilentTurn$House", "passOne", "()Z"⟩) else (bif Nat.ble y 36 then ⟨"SilentTurn$House", "goBy", "(II)V"⟩ else ⟨"SilentTurn$House", "untilSilent", "(I)I"⟩)) else (bif Nat.ble y 40 then (bif Nat.ble y 39 then (bif Nat.ble y 38 then ⟨"SilentTurn$HouseReader", "takes", "(LSilentTurn$House;)Z"⟩ else ⟨"SilentTurn$HouseReader", "takesPart", "()Z"⟩) else ⟨"SilentTurn$HouseReader", "takesTurn", "()Z"⟩) else (bif Nat.ble y 41 then ⟨"SilentTurn$HouseReader", "takesOdds", "()Z"⟩ else ⟨"SilentTurn$HouseReader", "takesTopic", "()Z"⟩))))) else (bif Nat.ble y 63 then (bif Nat.ble y 53 then (bif Nat.ble y 48 then (bif Nat.ble y 45 then (bif Nat.ble y 44 then (bif Nat.ble y 43 then ⟨"SilentTurn$HouseReader", "takesMonk", "()Z"⟩ else ⟨"SilentTurn$HouseReader", "takeNewName", "()J"⟩) else ⟨"SilentTurn$HouseReader", "takesFollows", "()Z"⟩) else (bif Nat.ble y 47 then (bif Nat.ble y 46 then ⟨"SilentTurn$HouseReader", "takesRoster", "()Z"⟩ else ⟨"SilentTurn$HouseReader", "takesHears", "()Z"⟩) else ⟨"SilentTurn$Life", "run", "(LSilentTurn$House;LSilentTurn$Days;I)V"⟩)) else (bif Nat.ble y 51 then (bif Nat.ble y 50 then (bif Nat.ble y 49 then ⟨"SilentTurn$Life", "behindEnd", "(I)I"⟩ else ⟨"SilentTurn$Life", "behindStep", "(I)I"⟩) else ⟨"SilentTurn$Life", "miss", "(Z)V"⟩) else (bif Nat.ble y 52 then ⟨"SilentTurn$Life", "coughed", "()Z"⟩ else ⟨"SilentTurn$Life", "draw", "(I)I"⟩))) else (bif Nat.ble y 58 then (bif Nat.ble y 56 then (bif Nat.ble y 55 then (bif Nat.ble y 54 then ⟨"SilentTurn$Life", "holds", "(I)Z"⟩ else ⟨"SilentTurn$Life", "compares", "(III)Z"⟩) else ⟨"SilentTurn$Monks", "clear", "()V"⟩) else (bif Nat.ble y 57 then ⟨"SilentTurn$Monks", "copy", "(LSilentTurn$Monks;)V"⟩ else ⟨"SilentTurn$Monks", "add", "(JIIZ)V"⟩)) else (bif Nat.ble y 61 then (bif Nat.ble y 60 then (bif Nat.ble y 59 then ⟨"SilentTurn$Monks", "find", "(J)I"⟩ else ⟨"SilentTurn$Monks", "isAwake", "(I)Z"⟩) else ⟨"SilentTurn$Monks", "rouse", "(IZ)V"⟩) else (bif Nat.ble y 62 then ⟨"SilentTurn$Monks", "lend", "(IIZ)V"⟩ else ⟨"SilentTurn$Monks", "rested", "(II)I"⟩)))) else (bif Nat.ble y 74 then (bif Nat.ble y 69 then (bif Nat.ble y 66 then (bif Nat.ble y 65 then (bif Nat.ble y 64 then ⟨"SilentTurn$Monks", "leastRested", "(II)I"⟩ else ⟨"SilentTurn$Monks", "keptApart", "()I"⟩) else ⟨"SilentTurn$Monks", "pairs", "([II)I"⟩) else (bif Nat.ble y 68 then (bif Nat.ble y 67 then ⟨"SilentTurn$Talk", "longest", "(LSilentTurn$Topics;I)I"⟩ else ⟨"SilentTurn$Talk", "goOn", "(LSilentTurn$Topics;III)V"⟩) else ⟨"SilentTurn$Talk", "shortestRing", "(LSilentTurn$Topics;)I"⟩)) else (bif Nat.ble y 72 then (bif Nat.ble y 71 then (bif Nat.ble y 70 then ⟨"SilentTurn$Talk", "closes", "(LSilentTurn$Topics;II)Z"⟩ else ⟨"SilentTurn$Talk", "behind", "(LSilentTurn$Topics;I)I"⟩) else ⟨"SilentTurn$Talk", "winner", "(LSilentTurn$Topics;II)I"⟩) else (bif Nat.ble y 73 then ⟨"SilentTurn$Tape", "put", "(I)V"⟩ else ⟨"SilentTurn$Tape", "begin", "(I)V"⟩))) else (bif Nat.ble y 79 then (bif Nat.ble y 77 then (bif Nat.ble y 76 then (bif Nat.ble y 75 then ⟨"SilentTurn$Tape", "advance", "()V"⟩ else ⟨"SilentTurn$Tape", "readWord", "()V"⟩) else ⟨"SilentTurn$Tape", "readNumber", "()V"⟩) else (bif Nat.ble y 78 then ⟨"SilentTurn$Tape", "readSign", "()V"⟩ else ⟨"SilentTurn$Tape", "fail", "(I)Z"⟩)) else (bif Nat.ble y 82 then (bif Nat.ble y 81 then (bif Nat.ble y 80 then ⟨"SilentTurn$Tape", "isName", "()Z"⟩ else ⟨"SilentTurn$Tape", "skipWord", "(I)Z"⟩) else ⟨"SilentTurn$Tape", "skipSemicolon", "()Z"⟩) else (bif Nat.ble y 83 then ⟨"SilentTurn$Tape", "skipName", "(I)Z"⟩ else ⟨"SilentTurn$Tape", "takeCompare", "()I"⟩)))))) else (bif Nat.ble y 126 then (bif Nat.ble y 105 then (bif Nat.ble y 95 then (bif Nat.ble y 90 then (bif Nat.ble y 87 then (bif Nat.ble y 86 then (bif Nat.ble y 85 then ⟨"SilentTurn$Tape", "takeNumber", "(II)I"⟩ else ⟨"SilentTurn$Topics", "copy", "(LSilentTurn$Topics;)V"⟩) else ⟨"SilentTurn$Topics", "add", "(JI)V"⟩) else (bif Nat.ble y 89 then (bif Nat.ble y 88 then ⟨"SilentTurn$Topics", "find", "(J)I"⟩ else ⟨"SilentTurn$Topics", "before", "(I)I"⟩) else ⟨"SilentTurn$Topics", "costingAtMost", "(II)I"⟩)) else (bif Nat.ble y 93 then (bif Nat.ble y 92 then (bif Nat.ble y 91 then ⟨"SilentTurn$Topics", "firstCosting", "(II)I"⟩ else ⟨"SilentTurn$Tray", "lay", "(II)V"⟩) else ⟨"SilentTurn$Tray", "holds", "(II)Z"⟩) else (bif Nat.ble y 94 then ⟨"SilentTurn$Tray", "put", "(IJ)V"⟩ else ⟨"SilentTurn$Tray", "cut", "(J)J"⟩))) else (bif Nat.ble y 100 then (bif Nat.ble y 98 then (bif Nat.ble y 97 then (bif Nat.ble y 96 then ⟨"SilentTurn", "status", "()I"⟩ else ⟨"SilentTurn", "top", "()J"⟩) else ⟨"SilentTurn", "bottom", "()J"⟩) else (bif Nat.ble y 99 then ⟨"SilentTurn", "tray", "(III)Z"⟩ else ⟨"SilentTurn", "write", "(IIJ)Z"⟩)) else (bif Nat.ble y 103 then (bif Nat.ble y 102 then (bif Nat.ble y 101 then ⟨"SilentTurn", "read", "(II)J"⟩ else ⟨"SilentTurn", "pour", "(IIIII)Z"⟩) else ⟨"SilentTurn", "feed", "(IIIII)I"⟩) else (bif Nat.ble y 104 then ⟨"SilentTurn", "house", "(I)I"⟩ else ⟨"SilentTurn", "days", "(I)I"⟩)))) else (bif Nat.ble y 116 then (bif Nat.ble y 111 then (bif Nat.ble y 108 then (bif Nat.ble y 107 then (bif Nat.ble y 106 then ⟨"SilentTurn", "fault", "(I)I"⟩ else ⟨"SilentTurn", "told", "(I)I"⟩) else ⟨"SilentTurn", "topic", "(II)I"⟩) else (bif Nat.ble y 110 then (bif Nat.ble y 109 then ⟨"SilentTurn", "monk", "(II)I"⟩ else ⟨"SilentTurn", "entry", "(II)I"⟩) else ⟨"SilentTurn", "silent", "()I"⟩)) else (bif Nat.ble y 114 then (bif Nat.ble y 113 then (bif Nat.ble y 112 then ⟨"SilentTurn", "last", "()I"⟩ else ⟨"SilentTurn", "minute", "(I)I"⟩) else ⟨"SilentTurn", "change", "(I)I"⟩) else (bif Nat.ble y 115 then ⟨"SilentTurn", "wake", "(IZ)Z"⟩ else ⟨"SilentTurn", "follow", "(IIZ)Z"⟩))) else (bif Nat.ble y 121 then (bif Nat.ble y 119 then (bif Nat.ble y 118 then (bif Nat.ble y 117 then ⟨"SilentTurn", "hear", "(IIZ)Z"⟩ else ⟨"SilentTurn", "enter", "(II)I"⟩) else ⟨"SilentTurn", "strike", "(I)I"⟩) else (bif Nat.ble y 120 then ⟨"SilentTurn", "breathe", "(II)Z"⟩ else ⟨"SilentTurn", "price", "(II)Z"⟩)) else (bif Nat.ble y 124 then (bif Nat.ble y 123 then (bif Nat.ble y 122 then ⟨"SilentTurn", "rule", "(II)Z"⟩ else ⟨"SilentTurn", "can", "(II)I"⟩) else ⟨"SilentTurn", "topics", "(I)I"⟩) else (bif Nat.ble y 125 then ⟨"SilentTurn", "speakers", "(I)I"⟩ else ⟨"SilentTurn", "speaker", "()I"⟩))))) else (bif Nat.ble y 147 then (bif Nat.ble y 137 then (bif Nat.ble y 132 then (bif Nat.ble y 129 then (bif Nat.ble y 128 then (bif Nat.ble y 127 then ⟨"SilentTurn", "spoken", "()I"⟩ else ⟨"SilentTurn", "speakerIn", "(I)I"⟩) else ⟨"SilentTurn", "breathIn", "(II)I"⟩) else (bif Nat.ble y 131 then (bif Nat.ble y 130 then ⟨"SilentTurn", "pauseIn", "()I"⟩ else ⟨"SilentTurn", "pausesIn", "(I)I"⟩) else ⟨"SilentTurn", "turnIn", "(I)I"⟩)) else (bif Nat.ble y 135 then (bif Nat.ble y 134 then (bif Nat.ble y 133 then ⟨"SilentTurn", "unfair", "()I"⟩ else ⟨"SilentTurn", "enough", "(II)I"⟩) else ⟨"SilentTurn", "fewest", "(I)I"⟩) else (bif Nat.ble y 136 then ⟨"SilentTurn", "fewestSet", "(I)I"⟩ else ⟨"SilentTurn", "shift", "(I)I"⟩))) else (bif Nat.ble y 142 then (bif Nat.ble y 140 then (bif Nat.ble y 139 then (bif Nat.ble y 138 then ⟨"SilentTurn", "shiftAt", "(III)I"⟩ else ⟨"SilentTurn", "talk", "(I)I"⟩) else ⟨"SilentTurn", "talkAt", "(II)I"⟩) else (bif Nat.ble y 141 then ⟨"SilentTurn", "ring", "()I"⟩ else ⟨"SilentTurn", "ringAt", "(I)I"⟩)) else (bif Nat.ble y 145 then (bif Nat.ble y 144 then (bif Nat.ble y 143 then ⟨"SilentTurn", "reach", "(I)I"⟩ else ⟨"SilentTurn", "wins", "(I)I"⟩) else ⟨"SilentTurn", "best", "(I)I"⟩) else (bif Nat.ble y 146 then ⟨"SilentTurn", "heard", "(II)I"⟩ else ⟨"SilentTurn", "sure", "(III)I"⟩)))) else (bif Nat.ble y 158 then (bif Nat.ble y 153 then (bif Nat.ble y 150 then (bif Nat.ble y 149 then (bif Nat.ble y 148 then ⟨"SilentTurn", "couples", "(I)I"⟩ else ⟨"SilentTurn", "allRead", "(I)I"⟩) else ⟨"SilentTurn", "coughs", "(I)Z"⟩) else (bif Nat.ble y 152 then (bif Nat.ble y 151 then ⟨"SilentTurn", "copyBreath", "(I)I"⟩ else ⟨"SilentTurn", "live", "(I)I"⟩) else ⟨"SilentTurn", "lived", "(I)I"⟩)) else (bif Nat.ble y 156 then (bif Nat.ble y 155 then (bif Nat.ble y 154 then ⟨"SilentTurn", "mean", "(II)Z"⟩ else ⟨"SilentTurn", "mark", "()I"⟩) else ⟨"SilentTurn", "undo", "()I"⟩) else (bif Nat.ble y 157 then ⟨"SilentTurn", "give", "(I)I"⟩ else ⟨"SilentTurn", "giveOrNone", "(I)I"⟩))) else (bif Nat.ble y 163 then (bif Nat.ble y 161 then (bif Nat.ble y 160 then (bif Nat.ble y 159 then ⟨"SilentTurn", "none", "(I)I"⟩ else ⟨"SilentTurn", "agree", "()Z"⟩) else ⟨"SilentTurn", "refuse", "(I)Z"⟩) else (bif Nat.ble y 162 then ⟨"SilentTurn", "isTray", "(I)Z"⟩ else ⟨"SilentTurn", "isTopic", "(I)Z"⟩)) else (bif Nat.ble y 166 then (bif Nat.ble y 165 then (bif Nat.ble y 164 then ⟨"SilentTurn", "isMonk", "(I)Z"⟩ else ⟨"SilentTurn", "isSet", "(I)Z"⟩) else ⟨"SilentTurn", "placeStatus", "(II)I"⟩) else (bif Nat.ble y 167 then ⟨"SilentTurn", "heardStatus", "(II)I"⟩ else ⟨"SilentTurn", "weighCoughs", "()V"⟩))))))) else (bif Nat.ble y 252 then (bif Nat.ble y 210 then (bif Nat.ble y 189 then (bif Nat.ble y 179 then (bif Nat.ble y 174 then (bif Nat.ble y 171 then (bif Nat.ble y 170 then (bif Nat.ble y 169 then ⟨"SilentTurn", "tellFraction", "(JJ)V"⟩ else ⟨"SilentTurn", "commonDivisor", "(JJ)J"⟩) else ⟨"SilentTurn", "within", "(III)Z"⟩) else (bif Nat.ble y 173 then (bif Nat.ble y 172 then ⟨"SilentTurn", "truth", "(Z)I"⟩ else ⟨"SilentTurn", "has", "(II)Z"⟩) else ⟨"SilentTurn", "with", "(IIZ)I"⟩)) else (bif Nat.ble y 177 then (bif Nat.ble y 176 then (bif Nat.ble y 175 then ⟨"SilentTurn", "leastOf", "(I)I"⟩ else ⟨"SilentTurn", "onlyOneOf", "(I)I"⟩) else ⟨"SilentTurn", "speechOf", "(II)I"⟩) else (bif Nat.ble y 178 then ⟨"SilentTurn", "monkOf", "(I)I"⟩ else ⟨"SilentTurn", "topicOf", "(I)I"⟩))) else (bif Nat.ble y 184 then (bif Nat.ble y 182 then (bif Nat.ble y 181 then (bif Nat.ble y 180 then ⟨"SilentTurnModel", "plain", "(I)V"⟩ else ⟨"SilentTurnModel", "status", "()I"⟩) else ⟨"SilentTurnModel", "top", "()J"⟩) else (bif Nat.ble y 183 then ⟨"SilentTurnModel", "bottom", "()J"⟩ else ⟨"SilentTurnModel", "is", "(I)Z"⟩)) else (bif Nat.ble y 187 then (bif Nat.ble y 186 then (bif Nat.ble y 185 then ⟨"SilentTurnModel", "refuse", "(I)I"⟩ else ⟨"SilentTurnModel", "gives", "(I)I"⟩) else ⟨"SilentTurnModel", "orNone", "(I)I"⟩) else (bif Nat.ble y 188 then ⟨"SilentTurnModel", "tellsBy", "(JJ)Z"⟩ else ⟨"SilentTurnModel", "isTray", "(I)Z"⟩)))) else (bif Nat.ble y 200 then (bif Nat.ble y 195 then (bif Nat.ble y 192 then (bif Nat.ble y 191 then (bif Nat.ble y 190 then ⟨"SilentTurnModel", "cut", "(JI)J"⟩ else ⟨"SilentTurnModel", "tray", "(III)Z"⟩) else ⟨"SilentTurnModel", "wrongPlace", "(II)I"⟩) else (bif Nat.ble y 194 then (bif Nat.ble y 193 then ⟨"SilentTurnModel", "write", "(IIJ)Z"⟩ else ⟨"SilentTurnModel", "read", "(II)J"⟩) else ⟨"SilentTurnModel", "pour", "(IIIII)Z"⟩)) else (bif Nat.ble y 198 then (bif Nat.ble y 197 then (bif Nat.ble y 196 then ⟨"SilentTurnModel", "isFrom", "(JJJ)Z"⟩ else ⟨"SilentTurnModel", "feed", "(IIIII)I"⟩) else ⟨"SilentTurnModel", "four", "(I)V"⟩) else (bif Nat.ble y 199 then ⟨"SilentTurnModel", "byteAt", "(I)I"⟩ else ⟨"SilentTurnModel", "isSmall", "(I)Z"⟩))) else (bif Nat.ble y 205 then (bif Nat.ble y 203 then (bif Nat.ble y 202 then (bif Nat.ble y 201 then ⟨"SilentTurnModel", "isDigit", "(I)Z"⟩ else ⟨"SilentTurnModel", "ahead", "()V"⟩) else ⟨"SilentTurnModel", "isSign", "(I)Z"⟩) else (bif Nat.ble y 204 then ⟨"SilentTurnModel", "inWords", "(Ljava/lang/String;)I"⟩ else ⟨"SilentTurnModel", "fails", "(I)Z"⟩)) else (bif Nat.ble y 208 then (bif Nat.ble y 207 then (bif Nat.ble y 206 then ⟨"SilentTurnModel", "begins", "(II)Z"⟩ else ⟨"SilentTurnModel", "wantSign", "(I)Z"⟩) else ⟨"SilentTurnModel", "wantWord", "(Ljava/lang/String;I)Z"⟩) else (bif Nat.ble y 209 then ⟨"SilentTurnModel", "number", "(III)Z"⟩ else ⟨"SilentTurnModel", "isName", "(Ljava/lang/String;)Z"⟩))))) else (bif Nat.ble y 231 then (bif Nat.ble y 221 then (bif Nat.ble y 216 then (bif Nat.ble y 213 then (bif Nat.ble y 212 then (bif Nat.ble y 211 then ⟨"SilentTurnModel", "nameHere", "()J"⟩ else ⟨"SilentTurnModel", "findHere", "(II)I"⟩) else ⟨"SilentTurnModel", "fault", "(I)I"⟩) else (bif Nat.ble y 215 then (bif Nat.ble y 214 then ⟨"SilentTurnModel", "taken", "(I)I"⟩ else ⟨"SilentTurnModel", "isThere", "(I)Z"⟩) else ⟨"SilentTurnModel", "newOne", "(III)Z"⟩)) else (bif Nat.ble y 219 then (bif Nat.ble y 218 then (bif Nat.ble y 217 then ⟨"SilentTurnModel", "oldOne", "(III)Z"⟩ else ⟨"SilentTurnModel", "newTopicTo", "(I)Z"⟩) else ⟨"SilentTurnModel", "newMonkTo", "(I)Z"⟩) else (bif Nat.ble y 220 then ⟨"SilentTurnModel", "aTopic", "()Z"⟩ else ⟨"SilentTurnModel", "aMonk", "()Z"⟩))) else (bif Nat.ble y 226 then (bif Nat.ble y 224 then (bif Nat.ble y 223 then (bif Nat.ble y 222 then ⟨"SilentTurnModel", "aFollowing", "()Z"⟩ else ⟨"SilentTurnModel", "anEntry", "()Z"⟩) else ⟨"SilentTurnModel", "aHearing", "()Z"⟩) else (bif Nat.ble y 225 then ⟨"SilentTurnModel", "housePart", "()Z"⟩ else ⟨"SilentTurnModel", "house", "(I)I"⟩)) else (bif Nat.ble y 229 then (bif Nat.ble y 228 then (bif Nat.ble y 227 then ⟨"SilentTurnModel", "monkTo", "(I)Z"⟩ else ⟨"SilentTurnModel", "test", "(I)Z"⟩) else ⟨"SilentTurnModel", "dayOrder", "(II)Z"⟩) else (bif Nat.ble y 230 then ⟨"SilentTurnModel", "dayStep", "()Z"⟩ else ⟨"SilentTurnModel", "days", "(I)I"⟩)))) else (bif Nat.ble y 242 then (bif Nat.ble y 237 then (bif Nat.ble y 234 then (bif Nat.ble y 233 then (bif Nat.ble y 232 then ⟨"SilentTurnModel", "topicRow", "(I)I"⟩ else ⟨"SilentTurnModel", "monkRow", "(I)I"⟩) else ⟨"SilentTurnModel", "entryRow", "(I)I"⟩) else (bif Nat.ble y 236 then (bif Nat.ble y 235 then ⟨"SilentTurnModel", "isTopic", "(J)Z"⟩ else ⟨"SilentTurnModel", "isMonk", "(I)Z"⟩) else ⟨"SilentTurnModel", "isEntry", "(I)Z"⟩)) else (bif Nat.ble y 240 then (bif Nat.ble y 239 then (bif Nat.ble y 238 then ⟨"SilentTurnModel", "areMonks", "(I)Z"⟩ else ⟨"SilentTurnModel", "isIn", "(II)Z"⟩) else ⟨"SilentTurnModel", "bits", "(I)I"⟩) else (bif Nat.ble y 241 then ⟨"SilentTurnModel", "monkOf", "(II)I"⟩ else ⟨"SilentTurnModel", "costOf", "(I)I"⟩))) else (bif Nat.ble y 247 then (bif Nat.ble y 245 then (bif Nat.ble y 244 then (bif Nat.ble y 243 then ⟨"SilentTurnModel", "nextOf", "(I)I"⟩ else ⟨"SilentTurnModel", "awake", "()I"⟩) else ⟨"SilentTurnModel", "aheadOf", "(I)I"⟩) else (bif Nat.ble y 246 then ⟨"SilentTurnModel", "told", "(I)I"⟩ else ⟨"SilentTurnModel", "topic", "(II)I"⟩)) else (bif Nat.ble y 250 then (bif Nat.ble y 249 then (bif Nat.ble y 248 then ⟨"SilentTurnModel", "monk", "(II)I"⟩ else ⟨"SilentTurnModel", "entry", "(II)I"⟩) else ⟨"SilentTurnModel", "silent", "()I"⟩) else (bif Nat.ble y 251 then ⟨"SilentTurnModel", "last", "()I"⟩ else ⟨"SilentTurnModel", "doesFollow", "(I)Z"⟩)))))) else (bif Nat.ble y 294 then (bif Nat.ble y 273 then (bif Nat.ble y 263 then (bif Nat.ble y 258 then (bif Nat.ble y 255 then (bif Nat.ble y 254 then (bif Nat.ble y 253 then ⟨"SilentTurnModel", "canSay", "(II)Z"⟩ else ⟨"SilentTurnModel", "topicsOf", "(I)I"⟩) else ⟨"SilentTurnModel", "can", "(II)I"⟩) else (bif Nat.ble y 257 then (bif Nat.ble y 256 then ⟨"SilentTurnModel", "topics", "(I)I"⟩ else ⟨"SilentTurnModel", "speakers", "(I)I"⟩) else ⟨"SilentTurnModel", "laysSpeaker", "()V"⟩)) else (bif Nat.ble y 261 then (bif Nat.ble y 260 then (bif Nat.ble y 259 then ⟨"SilentTurnModel", "speaker", "()I"⟩ else ⟨"SilentTurnModel", "spoken", "()I"⟩) else ⟨"SilentTurnModel", "saysBy", "(II)V"⟩) else (bif Nat.ble y 262 then ⟨"SilentTurnModel", "minuteGoes", "()V"⟩ else ⟨"SilentTurnModel", "minutesGo", "(I)I"⟩))) else (bif Nat.ble y 268 then (bif Nat.ble y 266 then (bif Nat.ble y 265 then (bif Nat.ble y 264 then ⟨"SilentTurnModel", "minute", "(I)I"⟩ else ⟨"SilentTurnModel", "changes", "(I)Z"⟩) else ⟨"SilentTurnModel", "change", "(I)I"⟩) else (bif Nat.ble y 267 then ⟨"SilentTurnModel", "wakes", "(II)Z"⟩ else ⟨"SilentTurnModel", "wake", "(IZ)Z"⟩)) else (bif Nat.ble y 271 then (bif Nat.ble y 270 then (bif Nat.ble y 269 then ⟨"SilentTurnModel", "follow", "(IIZ)Z"⟩ else ⟨"SilentTurnModel", "hear", "(IIZ)Z"⟩) else ⟨"SilentTurnModel", "enter", "(II)I"⟩) else (bif Nat.ble y 272 then ⟨"SilentTurnModel", "strike", "(I)I"⟩ else ⟨"SilentTurnModel", "breathe", "(II)Z"⟩)))) else (bif Nat.ble y 284 then (bif Nat.ble y 279 then (bif Nat.ble y 276 then (bif Nat.ble y 275 then (bif Nat.ble y 274 then ⟨"SilentTurnModel", "price", "(II)Z"⟩ else ⟨"SilentTurnModel", "rule", "(II)Z"⟩) else ⟨"SilentTurnModel", "keeps", "(I)V"⟩) else (bif Nat.ble y 278 then (bif Nat.ble y 277 then ⟨"SilentTurnModel", "restores", "(I)V"⟩ else ⟨"SilentTurnModel", "isSpan", "(I)Z"⟩) else ⟨"SilentTurnModel", "speakerIn", "(I)I"⟩)) else (bif Nat.ble y 282 then (bif Nat.ble y 281 then (bif Nat.ble y 280 then ⟨"SilentTurnModel", "breathIn", "(II)I"⟩ else ⟨"SilentTurnModel", "firstPause", "(I)I"⟩) else ⟨"SilentTurnModel", "pauseIn", "()I"⟩) else (bif Nat.ble y 283 then ⟨"SilentTurnModel", "pausesIn", "(I)I"⟩ else ⟨"SilentTurnModel", "turnIn", "(I)I"⟩))) else (bif Nat.ble y 289 then (bif Nat.ble y 287 then (bif Nat.ble y 286 then (bif Nat.ble y 285 then ⟨"SilentTurnModel", "unfair", "()I"⟩ else ⟨"SilentTurnModel", "areEnough", "(II)Z"⟩) else ⟨"SilentTurnModel", "isShort", "(I)Z"⟩) else (bif Nat.ble y 288 then ⟨"SilentTurnModel", "enough", "(II)I"⟩ else ⟨"SilentTurnModel", "fewestOf", "(I)I"⟩)) else (bif Nat.ble y 292 then (bif Nat.ble y 291 then (bif Nat.ble y 290 then ⟨"SilentTurnModel", "fewest", "(I)I"⟩ else ⟨"SilentTurnModel", "fewestSet", "(I)I"⟩) else ⟨"SilentTurnModel", "levelAt", "(I)I"⟩) else (bif Nat.ble y 293 then ⟨"SilentTurnModel", "leastBreath", "()I"⟩ else ⟨"SilentTurnModel", "shifting", "(I)I"⟩))))) else (bif Nat.ble y 315 then (bif Nat.ble y 305 then (bif Nat.ble y 300 then (bif Nat.ble y 297 then (bif Nat.ble y 296 then (bif Nat.ble y 295 then ⟨"SilentTurnModel", "shift", "(I)I"⟩ else ⟨"SilentTurnModel", "shiftAt", "(III)I"⟩) else ⟨"SilentTurnModel", "laysTalk", "()V"⟩) else (bif Nat.ble y 299 then (bif Nat.ble y 298 then ⟨"SilentTurnModel", "talkFrom", "(I)I"⟩ else ⟨"SilentTurnModel", "talk", "(I)I"⟩) else ⟨"SilentTurnModel", "talkAt", "(II)I"⟩)) else (bif Nat.ble y 303 then (bif Nat.ble y 302 then (bif Nat.ble y 301 then ⟨"SilentTurnModel", "laysFar", "(I)V"⟩ else ⟨"SilentTurnModel", "nearest", "(I)I"⟩) else ⟨"SilentTurnModel", "laysRing", "()V"⟩) else (bif Nat.ble y 304 then ⟨"SilentTurnModel", "ring", "()I"⟩ else ⟨"SilentTurnModel", "ringAt", "(I)I"⟩))) else (bif Nat.ble y 310 then (bif Nat.ble y 308 then (bif Nat.ble y 307 then (bif Nat.ble y 306 then ⟨"SilentTurnModel", "reach", "(I)I"⟩ else ⟨"SilentTurnModel", "wins", "(I)I"⟩) else ⟨"SilentTurnModel", "best", "(I)I"⟩) else (bif Nat.ble y 309 then ⟨"SilentTurnModel", "wrongHeard", "(II)I"⟩ else ⟨"SilentTurnModel", "counts", "(I)V"⟩)) else (bif Nat.ble y 313 then (bif Nat.ble y 312 then (bif Nat.ble y 311 then ⟨"SilentTurnModel", "laysHeard", "(II)V"⟩ else ⟨"SilentTurnModel", "heard", "(II)I"⟩) else ⟨"SilentTurnModel", "sure", "(III)I"⟩) else (bif Nat.ble y 314 then ⟨"SilentTurnModel", "couplesOf", "(I)I"⟩ else ⟨"SilentTurnModel", "couples", "(I)I"⟩)))) else (bif Nat.ble y 326 then (bif Nat.ble y 321 then (bif Nat.ble y 318 then (bif Nat.ble y 317 then (bif Nat.ble y 316 then ⟨"SilentTurnModel", "allRead", "(I)I"⟩ else ⟨"SilentTurnModel", "coughs", "(I)Z"⟩) else ⟨"SilentTurnModel", "copyBreath", "(I)I"⟩) else (bif Nat.ble y 320 then (bif Nat.ble y 319 then ⟨"SilentTurnModel", "draw", "(I)I"⟩ else ⟨"SilentTurnModel", "minutesBy", "(I)Z"⟩) else ⟨"SilentTurnModel", "coughsAny", "()Z"⟩)) else (bif Nat.ble y 324 then (bif Nat.ble y 323 then (bif Nat.ble y 322 then ⟨"SilentTurnModel", "does", "(I)Z"⟩ else ⟨"SilentTurnModel", "holds", "(I)Z"⟩) else ⟨"SilentTurnModel", "behindEnds", "(I)I"⟩) else (bif Nat.ble y 325 then ⟨"SilentTurnModel", "lives", "(I)V"⟩ else ⟨"SilentTurnModel", "live", "(I)I"⟩))) else (bif Nat.ble y 331 then (bif Nat.ble y 329 then (bif Nat.ble y 328 then (bif Nat.ble y 327 then ⟨"SilentTurnModel", "lived", "(I)I"⟩ else ⟨"SilentTurnModel", "mean", "(II)Z"⟩) else ⟨"SilentTurnModel", "copies", "(II)V"⟩) else (bif Nat.ble y 330 then ⟨"SilentTurnModel", "mark", "()I"⟩ else ⟨"SilentTurnModel", "undo", "()I"⟩)) else (bif Nat.ble y 334 then (bif Nat.ble y 333 then (bif Nat.ble y 332 then ⟨"java/lang/Integer", "bitCount", "(I)I"⟩ else ⟨"java/lang/Math", "floorMod", "(II)I"⟩) else ⟨"java/lang/Math", "max", "(II)I"⟩) else (bif Nat.ble y 335 then ⟨"java/lang/Math", "min", "(II)I"⟩ else ⟨"java/util/Arrays", "fill", "([JJ)V"⟩))))))))
def cd (y : Nat) : ByteArray := (bif Nat.ble y 168 then (bif Nat.ble y 84 then (bif Nat.ble y 42 then (bif Nat.ble y 21 then (bif Nat.ble y 10 then (bif Nat.ble y 5 then (bif Nat.ble y 2 then (bif Nat.ble y 1 then (bif Nat.ble y 0 then prog_2_method_2_code else prog_2_method_2_code) else prog_2_method_3_code) else (bif Nat.ble y 4 then (bif Nat.ble y 3 then prog_2_method_4_code else prog_2_method_5_code) else prog_2_method_6_code)) else (bif Nat.ble y 8 then (bif Nat.ble y 7 then (bif Nat.ble y 6 then prog_2_method_7_code else prog_2_method_8_code) else prog_2_method_9_code) else (bif Nat.ble y 9 then prog_2_method_10_code else prog_2_method_11_code))) else (bif Nat.ble y 16 then (bif Nat.ble y 13 then (bif Nat.ble y 12 then (bif Nat.ble y 11 then prog_2_method_12_code else prog_3_method_2_code) else prog_3_method_3_code) else (bif Nat.ble y 15 then (bif Nat.ble y 14 then prog_3_method_4_code else prog_4_method_2_code) else prog_4_method_3_code)) else (bif Nat.ble y 19 then (bif Nat.ble y 18 then (bif Nat.ble y 17 then prog_4_method_4_code else prog_4_method_5_code) else prog_4_method_6_code) else (bif Nat.ble y 20 then prog_4_method_7_code else prog_4_method_8_code)))) else (bif Nat.ble y 32 then (bif Nat.ble y 27 then (bif Nat.ble y 24 then (bif Nat.ble y 23 then (bif Nat.ble y 22 then prog_4_method_9_code else prog_5_method_2_code) else prog_5_method_3_code) else (bif Nat.ble y 26 then (bif Nat.ble y 25 then prog_5_method_4_code else prog_5_method_5_code) else prog_5_method_6_code)) else (bif Nat.ble y 30 then (bif Nat.ble y 29 then (bif Nat.ble y 28 then prog_5_method_7_code else prog_5_method_8_code) else prog_5_method_9_code) else (bif Nat.ble y 31 then prog_5_method_10_code else prog_5_method_11_code))) else (bif Nat.ble y 37 then (bif Nat.ble y 35 then (bif Nat.ble y 34 then (bif Nat.ble y 33 then prog_5_method_12_code else prog_5_method_13_code) else prog_5_method_14_code) else (bif Nat.ble y 36 then prog_5_method_15_code else prog_5_method_16_code)) else (bif Nat.ble y 40 then (bif Nat.ble y 39 then (bif Nat.ble y 38 then prog_6_method_2_code else prog_6_method_3_code) else prog_6_method_4_code) else (bif Nat.ble y 41 then prog_6_method_5_code else prog_6_method_6_code))))) else (bif Nat.ble y 63 then (bif Nat.ble y 53 then (bif Nat.ble y 48 then (bif Nat.ble y 45 then (bif Nat.ble y 44 then (bif Nat.ble y 43 then prog_6_method_7_code else prog_6_method_8_code) else prog_6_method_9_code) else (bif Nat.ble y 47 then (bif Nat.ble y 46 then prog_6_method_10_code else prog_6_method_11_code) else prog_7_method_2_code)) else (bif Nat.ble y 51 then (bif Nat.ble y 50 then (bif Nat.ble y 49 then prog_7_method_3_code else prog_7_method_4_code) else prog_7_method_5_code) else (bif Nat.ble y 52 then prog_7_method_6_code else prog_7_method_7_code))) else (bif Nat.ble y 58 then (bif Nat.ble y 56 then (bif Nat.ble y 55 then (bif Nat.ble y 54 then prog_7_method_8_code else prog_7_method_9_code) else prog_8_method_2_code) else (bif Nat.ble y 57 then prog_8_method_3_code else prog_8_method_4_code)) else (bif Nat.ble y 61 then (bif Nat.ble y 60 then (bif Nat.ble y 59 then prog_8_method_5_code else prog_8_method_6_code) else prog_8_method_7_code) else (bif Nat.ble y 62 then prog_8_method_8_code else prog_8_method_9_code)))) else (bif Nat.ble y 74 then (bif Nat.ble y 69 then (bif Nat.ble y 66 then (bif Nat.ble y 65 then (bif Nat.ble y 64 then prog_8_method_10_code else prog_8_method_11_code) else prog_8_method_12_code) else (bif Nat.ble y 68 then (bif Nat.ble y 67 then prog_9_method_2_code else prog_9_method_3_code) else prog_9_method_4_code)) else (bif Nat.ble y 72 then (bif Nat.ble y 71 then (bif Nat.ble y 70 then prog_9_method_5_code else prog_9_method_6_code) else prog_9_method_7_code) else (bif Nat.ble y 73 then prog_10_method_2_code else prog_10_method_3_code))) else (bif Nat.ble y 79 then (bif Nat.ble y 77 then (bif Nat.ble y 76 then (bif Nat.ble y 75 then prog_10_method_4_code else prog_10_method_5_code) else prog_10_method_6_code) else (bif Nat.ble y 78 then prog_10_method_7_code else prog_10_method_8_code)) else (bif Nat.ble y 82 then (bif Nat.ble y 81 then (bif Nat.ble y 80 then prog_10_method_9_code else prog_10_method_10_code) else prog_10_method_11_code) else (bif Nat.ble y 83 then prog_10_method_12_code else prog_10_method_13_code)))))) else (bif Nat.ble y 126 then (bif Nat.ble y 105 then (bif Nat.ble y 95 then (bif Nat.ble y 90 then (bif Nat.ble y 87 then (bif Nat.ble y 86 then (bif Nat.ble y 85 then prog_10_method_14_code else prog_11_method_2_code) else prog_11_method_3_code) else (bif Nat.ble y 89 then (bif Nat.ble y 88 then prog_11_method_4_code else prog_11_method_5_code) else prog_11_method_6_code)) else (bif Nat.ble y 93 then (bif Nat.ble y 92 then (bif Nat.ble y 91 then prog_11_method_7_code else prog_12_method_2_code) else prog_12_method_3_code) else (bif Nat.ble y 94 then prog_12_method_4_code else prog_12_method_5_code))) else (bif Nat.ble y 100 then (bif Nat.ble y 98 then (bif Nat.ble y 97 then (bif Nat.ble y 96 then prog_1_method_2_code else prog_1_method_3_code) else prog_1_method_4_code) else (bif Nat.ble y 99 then prog_1_method_5_code else prog_1_method_6_code)) else (bif Nat.ble y 103 then (bif Nat.ble y 102 then (bif Nat.ble y 101 then prog_1_method_7_code else prog_1_method_8_code) else prog_1_method_9_code) else (bif Nat.ble y 104 then prog_1_method_10_code else prog_1_method_11_code)))) else (bif Nat.ble y 116 then (bif Nat.ble y 111 then (bif Nat.ble y 108 then (bif Nat.ble y 107 then (bif Nat.ble y 106 then prog_1_method_12_code else prog_1_method_13_code) else prog_1_method_14_code) else (bif Nat.ble y 110 then (bif Nat.ble y 109 then prog_1_method_15_code else prog_1_method_16_code) else prog_1_method_17_code)) else (bif Nat.ble y 114 then (bif Nat.ble y 113 then (bif Nat.ble y 112 then prog_1_method_18_code else prog_1_method_19_code) else prog_1_method_20_code) else (bif Nat.ble y 115 then prog_1_method_21_code else prog_1_method_22_code))) else (bif Nat.ble y 121 then (bif Nat.ble y 119 then (bif Nat.ble y 118 then (bif Nat.ble y 117 then prog_1_method_23_code else prog_1_method_24_code) else prog_1_method_25_code) else (bif Nat.ble y 120 then prog_1_method_26_code else prog_1_method_27_code)) else (bif Nat.ble y 124 then (bif Nat.ble y 123 then (bif Nat.ble y 122 then prog_1_method_28_code else prog_1_method_29_code) else prog_1_method_30_code) else (bif Nat.ble y 125 then prog_1_method_31_code else prog_1_method_32_code))))) else (bif Nat.ble y 147 then (bif Nat.ble y 137 then (bif Nat.ble y 132 then (bif Nat.ble y 129 then (bif Nat.ble y 128 then (bif Nat.ble y 127 then prog_1_method_33_code else prog_1_method_34_code) else prog_1_method_35_code) else (bif Nat.ble y 131 then (bif Nat.ble y 130 then prog_1_method_36_code else prog_1_method_37_code) else prog_1_method_38_code)) else (bif Nat.ble y 135 then (bif Nat.ble y 134 then (bif Nat.ble y 133 then prog_1_method_39_code else prog_1_method_40_code) else prog_1_method_41_code) else (bif Nat.ble y 136 then prog_1_method_42_code else prog_1_method_43_code))) else (bif Nat.ble y 142 then (bif Nat.ble y 140 then (bif Nat.ble y 139 then (bif Nat.ble y 138 then prog_1_method_44_code else prog_1_method_45_code) else prog_1_method_46_code) else (bif Nat.ble y 141 then prog_1_method_47_code else prog_1_method_48_code)) else (bif Nat.ble y 145 then (bif Nat.ble y 144 then (bif Nat.ble y 143 then prog_1_method_49_code else prog_1_method_50_code) else prog_1_method_51_code) else (bif Nat.ble y 146 then prog_1_method_52_code else prog_1_method_53_code)))) else (bif Nat.ble y 158 then (bif Nat.ble y 153 then (bif Nat.ble y 150 then (bif Nat.ble y 149 then (bif Nat.ble y 148 then prog_1_method_54_code else prog_1_method_55_code) else prog_1_method_56_code) else (bif Nat.ble y 152 then (bif Nat.ble y 151 then prog_1_method_57_code else prog_1_method_58_code) else prog_1_method_59_code)) else (bif Nat.ble y 156 then (bif Nat.ble y 155 then (bif Nat.ble y 154 then prog_1_method_60_code else prog_1_method_61_code) else prog_1_method_62_code) else (bif Nat.ble y 157 then prog_1_method_63_code else prog_1_method_64_code))) else (bif Nat.ble y 163 then (bif Nat.ble y 161 then (bif Nat.ble y 160 then (bif Nat.ble y 159 then prog_1_method_65_code else prog_1_method_66_code) else prog_1_method_67_code) else (bif Nat.ble y 162 then prog_1_method_68_code else prog_1_method_69_code)) else (bif Nat.ble y 166 then (bif Nat.ble y 165 then (bif Nat.ble y 164 then prog_1_method_70_code else prog_1_method_71_code) else prog_1_method_72_code) else (bif Nat.ble y 167 then prog_1_method_73_code else prog_1_method_74_code))))))) else (bif Nat.ble y 252 then (bif Nat.ble y 210 then (bif Nat.ble y 189 then (bif Nat.ble y 179 then (bif Nat.ble y 174 then (bif Nat.ble y 171 then (bif Nat.ble y 170 then (bif Nat.ble y 169 then prog_1_method_75_code else prog_1_method_76_code) else prog_1_method_77_code) else (bif Nat.ble y 173 then (bif Nat.ble y 172 then prog_1_method_78_code else prog_1_method_79_code) else prog_1_method_80_code)) else (bif Nat.ble y 177 then (bif Nat.ble y 176 then (bif Nat.ble y 175 then prog_1_method_81_code else prog_1_method_82_code) else prog_1_method_83_code) else (bif Nat.ble y 178 then prog_1_method_84_code else prog_1_method_85_code))) else (bif Nat.ble y 184 then (bif Nat.ble y 182 then (bif Nat.ble y 181 then (bif Nat.ble y 180 then prog_14_method_2_code else prog_14_method_3_code) else prog_14_method_4_code) else (bif Nat.ble y 183 then prog_14_method_5_code else prog_14_method_6_code)) else (bif Nat.ble y 187 then (bif Nat.ble y 186 then (bif Nat.ble y 185 then prog_14_method_7_code else prog_14_method_8_code) else prog_14_method_9_code) else (bif Nat.ble y 188 then prog_14_method_10_code else prog_14_method_11_code)))) else (bif Nat.ble y 200 then (bif Nat.ble y 195 then (bif Nat.ble y 192 then (bif Nat.ble y 191 then (bif Nat.ble y 190 then prog_14_method_12_code else prog_14_method_13_code) else prog_14_method_14_code) else (bif Nat.ble y 194 then (bif Nat.ble y 193 then prog_14_method_15_code else prog_14_method_16_code) else prog_14_method_17_code)) else (bif Nat.ble y 198 then (bif Nat.ble y 197 then (bif Nat.ble y 196 then prog_14_method_18_code else prog_14_method_19_code) else prog_14_method_20_code) else (bif Nat.ble y 199 then prog_14_method_21_code else prog_14_method_22_code))) else (bif Nat.ble y 205 then (bif Nat.ble y 203 then (bif Nat.ble y 202 then (bif Nat.ble y 201 then prog_14_method_23_code else prog_14_method_24_code) else prog_14_method_25_code) else (bif Nat.ble y 204 then prog_14_method_26_code else prog_14_method_27_code)) else (bif Nat.ble y 208 then (bif Nat.ble y 207 then (bif Nat.ble y 206 then prog_14_method_28_code else prog_14_method_29_code) else prog_14_method_30_code) else (bif Nat.ble y 209 then prog_14_method_31_code else prog_14_method_32_code))))) else (bif Nat.ble y 231 then (bif Nat.ble y 221 then (bif Nat.ble y 216 then (bif Nat.ble y 213 then (bif Nat.ble y 212 then (bif Nat.ble y 211 then prog_14_method_33_code else prog_14_method_34_code) else prog_14_method_35_code) else (bif Nat.ble y 215 then (bif Nat.ble y 214 then prog_14_method_36_code else prog_14_method_37_code) else prog_14_method_38_code)) else (bif Nat.ble y 219 then (bif Nat.ble y 218 then (bif Nat.ble y 217 then prog_14_method_39_code else prog_14_method_40_code) else prog_14_method_41_code) else (bif Nat.ble y 220 then prog_14_method_42_code else prog_14_method_43_code))) else (bif Nat.ble y 226 then (bif Nat.ble y 224 then (bif Nat.ble y 223 then (bif Nat.ble y 222 then prog_14_method_44_code else prog_14_method_45_code) else prog_14_method_46_code) else (bif Nat.ble y 225 then prog_14_method_47_code else prog_14_method_48_code)) else (bif Nat.ble y 229 then (bif Nat.ble y 228 then (bif Nat.ble y 227 then prog_14_method_49_code else prog_14_method_50_code) else prog_14_method_51_code) else (bif Nat.ble y 230 then prog_14_method_52_code else prog_14_method_53_code)))) else (bif Nat.ble y 242 then (bif Nat.ble y 237 then (bif Nat.ble y 234 then (bif Nat.ble y 233 then (bif Nat.ble y 232 then prog_14_method_54_code else prog_14_method_55_code) else prog_14_method_56_code) else (bif Nat.ble y 236 then (bif Nat.ble y 235 then prog_14_method_57_code else prog_14_method_58_code) else prog_14_method_59_code)) else (bif Nat.ble y 240 then (bif Nat.ble y 239 then (bif Nat.ble y 238 then prog_14_method_60_code else prog_14_method_61_code) else prog_14_method_62_code) else (bif Nat.ble y 241 then prog_14_method_63_code else prog_14_method_64_code))) else (bif Nat.ble y 247 then (bif Nat.ble y 245 then (bif Nat.ble y 244 then (bif Nat.ble y 243 then prog_14_method_65_code else prog_14_method_66_code) else prog_14_method_67_code) else (bif Nat.ble y 246 then prog_14_method_68_code else prog_14_method_69_code)) else (bif Nat.ble y 250 then (bif Nat.ble y 249 then (bif Nat.ble y 248 then prog_14_method_70_code else prog_14_method_71_code) else prog_14_method_72_code) else (bif Nat.ble y 251 then prog_14_method_73_code else prog_14_method_74_code)))))) else (bif Nat.ble y 294 then (bif Nat.ble y 273 then (bif Nat.ble y 263 then (bif Nat.ble y 258 then (bif Nat.ble y 255 then (bif Nat.ble y 254 then (bif Nat.ble y 253 then prog_14_method_75_code else prog_14_method_76_code) else prog_14_method_77_code) else (bif Nat.ble y 257 then (bif Nat.ble y 256 then prog_14_method_78_code else prog_14_method_79_code) else prog_14_method_80_code)) else (bif Nat.ble y 261 then (bif Nat.ble y 260 then (bif Nat.ble y 259 then prog_14_method_81_code else prog_14_method_82_code) else prog_14_method_83_code) else (bif Nat.ble y 262 then prog_14_method_84_code else prog_14_method_85_code))) else (bif Nat.ble y 268 then (bif Nat.ble y 266 then (bif Nat.ble y 265 then (bif Nat.ble y 264 then prog_14_method_86_code else prog_14_method_87_code) else prog_14_method_88_code) else (bif Nat.ble y 267 then prog_14_method_89_code else prog_14_method_90_code)) else (bif Nat.ble y 271 then (bif Nat.ble y 270 then (bif Nat.ble y 269 then prog_14_method_91_code else prog_14_method_92_code) else prog_14_method_93_code) else (bif Nat.ble y 272 then prog_14_method_94_code else prog_14_method_95_code)))) else (bif Nat.ble y 284 then (bif Nat.ble y 279 then (bif Nat.ble y 276 then (bif Nat.ble y 275 then (bif Nat.ble y 274 then prog_14_method_96_code else prog_14_method_97_code) else prog_14_method_98_code) else (bif Nat.ble y 278 then (bif Nat.ble y 277 then prog_14_method_99_code else prog_14_method_100_code) else prog_14_method_101_code)) else (bif Nat.ble y 282 then (bif Nat.ble y 281 then (bif Nat.ble y 280 then prog_14_method_102_code else prog_14_method_103_code) else prog_14_method_104_code) else (bif Nat.ble y 283 then prog_14_method_105_code else prog_14_method_106_code))) else (bif Nat.ble y 289 then (bif Nat.ble y 287 then (bif Nat.ble y 286 then (bif Nat.ble y 285 then prog_14_method_107_code else prog_14_method_108_code) else prog_14_method_109_code) else (bif Nat.ble y 288 then prog_14_method_110_code else prog_14_method_111_code)) else (bif Nat.ble y 292 then (bif Nat.ble y 291 then (bif Nat.ble y 290 then prog_14_method_112_code else prog_14_method_113_code) else prog_14_method_114_code) else (bif Nat.ble y 293 then prog_14_method_115_code else prog_14_method_116_code))))) else (bif Nat.ble y 315 then (bif Nat.ble y 305 then (bif Nat.ble y 300 then (bif Nat.ble y 297 then (bif Nat.ble y 296 then (bif Nat.ble y 295 then prog_14_method_117_code else prog_14_method_118_code) else prog_14_method_119_code) else (bif Nat.ble y 299 then (bif Nat.ble y 298 then prog_14_method_120_code else prog_14_method_121_code) else prog_14_method_122_code)) else (bif Nat.ble y 303 then (bif Nat.ble y 302 then (bif Nat.ble y 301 then prog_14_method_123_code else prog_14_method_124_code) else prog_14_method_125_code) else (bif Nat.ble y 304 then prog_14_method_126_code else prog_14_method_127_code))) else (bif Nat.ble y 310 then (bif Nat.ble y 308 then (bif Nat.ble y 307 then (bif Nat.ble y 306 then prog_14_method_128_code else prog_14_method_129_code) else prog_14_method_130_code) else (bif Nat.ble y 309 then prog_14_method_131_code else prog_14_method_132_code)) else (bif Nat.ble y 313 then (bif Nat.ble y 312 then (bif Nat.ble y 311 then prog_14_method_133_code else prog_14_method_134_code) else prog_14_method_135_code) else (bif Nat.ble y 314 then prog_14_method_136_code else prog_14_method_137_code)))) else (bif Nat.ble y 326 then (bif Nat.ble y 321 then (bif Nat.ble y 318 then (bif Nat.ble y 317 then (bif Nat.ble y 316 then prog_14_method_138_code else prog_14_method_139_code) else prog_14_method_140_code) else (bif Nat.ble y 320 then (bif Nat.ble y 319 then prog_14_method_141_code else prog_14_method_142_code) else prog_14_method_143_code)) else (bif Nat.ble y 324 then (bif Nat.ble y 323 then (bif Nat.ble y 322 then prog_14_method_144_code else prog_14_method_145_code) else prog_14_method_146_code) else (bif Nat.ble y 325 then prog_14_method_147_code else prog_14_method_148_code))) else (bif Nat.ble y 331 then (bif Nat.ble y 329 then (bif Nat.ble y 328 then (bif Nat.ble y 327 then prog_14_method_149_code else prog_14_method_150_code) else prog_14_method_151_code) else (bif Nat.ble y 330 then prog_14_method_152_code else prog_14_method_153_code)) else (bif Nat.ble y 334 then (bif Nat.ble y 333 then (bif Nat.ble y 332 then prog_15_method_49_code else prog_16_method_50_code) else prog_16_method_65_code) else (bif Nat.ble y 335 then prog_16_method_69_code else prog_21_method_101_code))))))))
def rt (y : Nat) : Option FieldType := (bif Nat.ble y 168 then (bif Nat.ble y 84 then (bif Nat.ble y 42 then (bif Nat.ble y 21 then (bif Nat.ble y 10 then (bif Nat.ble y 5 then (bif Nat.ble y 2 then (bif Nat.ble y 1 then (bif Nat.ble y 0 then (some (.object "SilentTurn$House")) else (some (.object "SilentTurn$House"))) else (some .int)) else (bif Nat.ble y 4 then (bif Nat.ble y 3 then (some .int) else (some .boolean)) else (some .int))) else (bif Nat.ble y 8 then (bif Nat.ble y 7 then (bif Nat.ble y 6 then (some .int) else none) else none) else (bif Nat.ble y 9 then none else (some .int)))) else (bif Nat.ble y 16 then (bif Nat.ble y 13 then (bif Nat.ble y 12 then (bif Nat.ble y 11 then (some .int) else none) else none) else (bif Nat.ble y 15 then (bif Nat.ble y 14 then (some .int) else (some .boolean)) else (some .boolean))) else (bif Nat.ble y 19 then (bif Nat.ble y 18 then (bif Nat.ble y 17 then (some .boolean) else (some .int)) else (some .boolean)) else (bif Nat.ble y 20 then (some .boolean) else (some .boolean))))) else (bif Nat.ble y 32 then (bif Nat.ble y 27 then (bif Nat.ble y 24 then (bif Nat.ble y 23 then (bif Nat.ble y 22 then (some .boolean) else none) else none) else (bif Nat.ble y 26 then (bif Nat.ble y 25 then none else none) else (some .boolean))) else (bif Nat.ble y 30 then (bif Nat.ble y 29 then (bif Nat.ble y 28 then (some .int) else (some .boolean)) else (some .int)) else (bif Nat.ble y 31 then (some .int) else (some .int)))) else (bif Nat.ble y 37 then (bif Nat.ble y 35 then (bif Nat.ble y 34 then (bif Nat.ble y 33 then (some .int) else (some .int)) else (some .boolean)) else (bif Nat.ble y 36 then none else (some .int))) else (bif Nat.ble y 40 then (bif Nat.ble y 39 then (bif Nat.ble y 38 then (some .boolean) else (some .boolean)) else (some .boolean)) else (bif Nat.ble y 41 then (some .boolean) else (some .boolean)))))) else (bif Nat.ble y 63 then (bif Nat.ble y 53 then (bif Nat.ble y 48 then (bif Nat.ble y 45 then (bif Nat.ble y 44 then (bif Nat.ble y 43 then (some .boolean) else (some .long)) else (some .boolean)) else (bif Nat.ble y 47 then (bif Nat.ble y 46 then (some .boolean) else (some .boolean)) else none)) else (bif Nat.ble y 51 then (bif Nat.ble y 50 then (bif Nat.ble y 49 then (some .int) else (some .int)) else none) else (bif Nat.ble y 52 then (some .boolean) else (some .int)))) else (bif Nat.ble y 58 then (bif Nat.ble y 56 then (bif Nat.ble y 55 then (bif Nat.ble y 54 then (some .boolean) else (some .boolean)) else none) else (bif Nat.ble y 57 then none else none)) else (bif Nat.ble y 61 then (bif Nat.ble y 60 then (bif Nat.ble y 59 then (some .int) else (some .boolean)) else none) else (bif Nat.ble y 62 then none else (some .int))))) else (bif Nat.ble y 74 then (bif Nat.ble y 69 then (bif Nat.ble y 66 then (bif Nat.ble y 65 then (bif Nat.ble y 64 then (some .int) else (some .int)) else (some .int)) else (bif Nat.ble y 68 then (bif Nat.ble y 67 then (some .int) else none) else (some .int))) else (bif Nat.ble y 72 then (bif Nat.ble y 71 then (bif Nat.ble y 70 then (some .boolean) else (some .int)) else (some .int)) else (bif Nat.ble y 73 then none else none))) else (bif Nat.ble y 79 then (bif Nat.ble y 77 then (bif Nat.ble y 76 then (bif Nat.ble y 75 then none else none) else none) else (bif Nat.ble y 78 then none else (some .boolean))) else (bif Nat.ble y 82 then (bif Nat.ble y 81 then (bif Nat.ble y 80 then (some .boolean) else (some .boolean)) else (some .boolean)) else (bif Nat.ble y 83 then (some .boolean) else (some .int))))))) else (bif Nat.ble y 126 then (bif Nat.ble y 105 then (bif Nat.ble y 95 then (bif Nat.ble y 90 then (bif Nat.ble y 87 then (bif Nat.ble y 86 then (bif Nat.ble y 85 then (some .int) else none) else none) else (bif Nat.ble y 89 then (bif Nat.ble y 88 then (some .int) else (some .int)) else (some .int))) else (bif Nat.ble y 93 then (bif Nat.ble y 92 then (bif Nat.ble y 91 then (some .int) else none) else (some .boolean)) else (bif Nat.ble y 94 then none else (some .long)))) else (bif Nat.ble y 100 then (bif Nat.ble y 98 then (bif Nat.ble y 97 then (bif Nat.ble y 96 then (some .int) else (some .long)) else (some .long)) else (bif Nat.ble y 99 then (some .boolean) else (some .boolean))) else (bif Nat.ble y 103 then (bif Nat.ble y 102 then (bif Nat.ble y 101 then (some .long) else (some .boolean)) else (some .int)) else (bif Nat.ble y 104 then (some .int) else (some .int))))) else (bif Nat.ble y 116 then (bif Nat.ble y 111 then (bif Nat.ble y 108 then (bif Nat.ble y 107 then (bif Nat.ble y 106 then (some .int) else (some .int)) else (some .int)) else (bif Nat.ble y 110 then (bif Nat.ble y 109 then (some .int) else (some .int)) else (some .int))) else (bif Nat.ble y 114 then (bif Nat.ble y 113 then (bif Nat.ble y 112 then (some .int) else (some .int)) else (some .int)) else (bif Nat.ble y 115 then (some .boolean) else (some .boolean)))) else (bif Nat.ble y 121 then (bif Nat.ble y 119 then (bif Nat.ble y 118 then (bif Nat.ble y 117 then (some .boolean) else (some .int)) else (some .int)) else (bif Nat.ble y 120 then (some .boolean) else (some .boolean))) else (bif Nat.ble y 124 then (bif Nat.ble y 123 then (bif Nat.ble y 122 then (some .boolean) else (some .int)) else (some .int)) else (bif Nat.ble y 125 then (some .int) else (some .int)))))) else (bif Nat.ble y 147 then (bif Nat.ble y 137 then (bif Nat.ble y 132 then (bif Nat.ble y 129 then (bif Nat.ble y 128 then (bif Nat.ble y 127 then (some .int) else (some .int)) else (some .int)) else (bif Nat.ble y 131 then (bif Nat.ble y 130 then (some .int) else (some .int)) else (some .int))) else (bif Nat.ble y 135 then (bif Nat.ble y 134 then (bif Nat.ble y 133 then (some .int) else (some .int)) else (some .int)) else (bif Nat.ble y 136 then (some .int) else (some .int)))) else (bif Nat.ble y 142 then (bif Nat.ble y 140 then (bif Nat.ble y 139 then (bif Nat.ble y 138 then (some .int) else (some .int)) else (some .int)) else (bif Nat.ble y 141 then (some .int) else (some .int))) else (bif Nat.ble y 145 then (bif Nat.ble y 144 then (bif Nat.ble y 143 then (some .int) else (some .int)) else (some .int)) else (bif Nat.ble y 146 then (some .int) else (some .int))))) else (bif Nat.ble y 158 then (bif Nat.ble y 153 then (bif Nat.ble y 150 then (bif Nat.ble y 149 then (bif Nat.ble y 148 then (some .int) else (some .int)) else (some .boolean)) else (bif Nat.ble y 152 then (bif Nat.ble y 151 then (some .int) else (some .int)) else (some .int))) else (bif Nat.ble y 156 then (bif Nat.ble y 155 then (bif Nat.ble y 154 then (some .boolean) else (some .int)) else (some .int)) else (bif Nat.ble y 157 then (some .int) else (some .int)))) else (bif Nat.ble y 163 then (bif Nat.ble y 161 then (bif Nat.ble y 160 then (bif Nat.ble y 159 then (some .int) else (some .boolean)) else (some .boolean)) else (bif Nat.ble y 162 then (some .boolean) else (some .boolean))) else (bif Nat.ble y 166 then (bif Nat.ble y 165 then (bif Nat.ble y 164 then (some .boolean) else (some .boolean)) else (some .int)) else (bif Nat.ble y 167 then (some .int) else none))))))) else (bif Nat.ble y 252 then (bif Nat.ble y 210 then (bif Nat.ble y 189 then (bif Nat.ble y 179 then (bif Nat.ble y 174 then (bif Nat.ble y 171 then (bif Nat.ble y 170 then (bif Nat.ble y 169 then none else (some .long)) else (some .boolean)) else (bif Nat.ble y 173 then (bif Nat.ble y 172 then (some .int) else (some .boolean)) else (some .int))) else (bif Nat.ble y 177 then (bif Nat.ble y 176 then (bif Nat.ble y 175 then (some .int) else (some .int)) else (some .int)) else (bif Nat.ble y 178 then (some .int) else (some .int)))) else (bif Nat.ble y 184 then (bif Nat.ble y 182 then (bif Nat.ble y 181 then (bif Nat.ble y 180 then none else (some .int)) else (some .long)) else (bif Nat.ble y 183 then (some .long) else (some .boolean))) else (bif Nat.ble y 187 then (bif Nat.ble y 186 then (bif Nat.ble y 185 then (some .int) else (some .int)) else (some .int)) else (bif Nat.ble y 188 then (some .boolean) else (some .boolean))))) else (bif Nat.ble y 200 then (bif Nat.ble y 195 then (bif Nat.ble y 192 then (bif Nat.ble y 191 then (bif Nat.ble y 190 then (some .long) else (some .boolean)) else (some .int)) else (bif Nat.ble y 194 then (bif Nat.ble y 193 then (some .boolean) else (some .long)) else (some .boolean))) else (bif Nat.ble y 198 then (bif Nat.ble y 197 then (bif Nat.ble y 196 then (some .boolean) else (some .int)) else none) else (bif Nat.ble y 199 then (some .int) else (some .boolean)))) else (bif Nat.ble y 205 then (bif Nat.ble y 203 then (bif Nat.ble y 202 then (bif Nat.ble y 201 then (some .boolean) else none) else (some .boolean)) else (bif Nat.ble y 204 then (some .int) else (some .boolean))) else (bif Nat.ble y 208 then (bif Nat.ble y 207 then (bif Nat.ble y 206 then (some .boolean) else (some .boolean)) else (some .boolean)) else (bif Nat.ble y 209 then (some .boolean) else (some .boolean)))))) else (bif Nat.ble y 231 then (bif Nat.ble y 221 then (bif Nat.ble y 216 then (bif Nat.ble y 213 then (bif Nat.ble y 212 then (bif Nat.ble y 211 then (some .long) else (some .int)) else (some .int)) else (bif Nat.ble y 215 then (bif Nat.ble y 214 then (some .int) else (some .boolean)) else (some .boolean))) else (bif Nat.ble y 219 then (bif Nat.ble y 218 then (bif Nat.ble y 217 then (some .boolean) else (some .boolean)) else (some .boolean)) else (bif Nat.ble y 220 then (some .boolean) else (some .boolean)))) else (bif Nat.ble y 226 then (bif Nat.ble y 224 then (bif Nat.ble y 223 then (bif Nat.ble y 222 then (some .boolean) else (some .boolean)) else (some .boolean)) else (bif Nat.ble y 225 then (some .boolean) else (some .int))) else (bif Nat.ble y 229 then (bif Nat.ble y 228 then (bif Nat.ble y 227 then (some .boolean) else (some .boolean)) else (some .boolean)) else (bif Nat.ble y 230 then (some .boolean) else (some .int))))) else (bif Nat.ble y 242 then (bif Nat.ble y 237 then (bif Nat.ble y 234 then (bif Nat.ble y 233 then (bif Nat.ble y 232 then (some .int) else (some .int)) else (some .int)) else (bif Nat.ble y 236 then (bif Nat.ble y 235 then (some .boolean) else (some .boolean)) else (some .boolean))) else (bif Nat.ble y 240 then (bif Nat.ble y 239 then (bif Nat.ble y 238 then (some .boolean) else (some .boolean)) else (some .int)) else (bif Nat.ble y 241 then (some .int) else (some .int)))) else (bif Nat.ble y 247 then (bif Nat.ble y 245 then (bif Nat.ble y 244 then (bif Nat.ble y 243 then (some .int) else (some .int)) else (some .int)) else (bif Nat.ble y 246 then (some .int) else (some .int))) else (bif Nat.ble y 250 then (bif Nat.ble y 249 then (bif Nat.ble y 248 then (some .int) else (some .int)) else (some .int)) else (bif Nat.ble y 251 then (some .int) else (some .boolean))))))) else (bif Nat.ble y 294 then (bif Nat.ble y 273 then (bif Nat.ble y 263 then (bif Nat.ble y 258 then (bif Nat.ble y 255 then (bif Nat.ble y 254 then (bif Nat.ble y 253 then (some .boolean) else (some .int)) else (some .int)) else (bif Nat.ble y 257 then (bif Nat.ble y 256 then (some .int) else (some .int)) else none)) else (bif Nat.ble y 261 then (bif Nat.ble y 260 then (bif Nat.ble y 259 then (some .int) else (some .int)) else none) else (bif Nat.ble y 262 then none else (some .int)))) else (bif Nat.ble y 268 then (bif Nat.ble y 266 then (bif Nat.ble y 265 then (bif Nat.ble y 264 then (some .int) else (some .boolean)) else (some .int)) else (bif Nat.ble y 267 then (some .boolean) else (some .boolean))) else (bif Nat.ble y 271 then (bif Nat.ble y 270 then (bif Nat.ble y 269 then (some .boolean) else (some .boolean)) else (some .int)) else (bif Nat.ble y 272 then (some .int) else (some .boolean))))) else (bif Nat.ble y 284 then (bif Nat.ble y 279 then (bif Nat.ble y 276 then (bif Nat.ble y 275 then (bif Nat.ble y 274 then (some .boolean) else (some .boolean)) else none) else (bif Nat.ble y 278 then (bif Nat.ble y 277 then none else (some .boolean)) else (some .int))) else (bif Nat.ble y 282 then (bif Nat.ble y 281 then (bif Nat.ble y 280 then (some .int) else (some .int)) else (some .int)) else (bif Nat.ble y 283 then (some .int) else (some .int)))) else (bif Nat.ble y 289 then (bif Nat.ble y 287 then (bif Nat.ble y 286 then (bif Nat.ble y 285 then (some .int) else (some .boolean)) else (some .boolean)) else (bif Nat.ble y 288 then (some .int) else (some .int))) else (bif Nat.ble y 292 then (bif Nat.ble y 291 then (bif Nat.ble y 290 then (some .int) else (some .int)) else (some .int)) else (bif Nat.ble y 293 then (some .int) else (some .int)))))) else (bif Nat.ble y 315 then (bif Nat.ble y 305 then (bif Nat.ble y 300 then (bif Nat.ble y 297 then (bif Nat.ble y 296 then (bif Nat.ble y 295 then (some .int) else (some .int)) else none) else (bif Nat.ble y 299 then (bif Nat.ble y 298 then (some .int) else (some .int)) else (some .int))) else (bif Nat.ble y 303 then (bif Nat.ble y 302 then (bif Nat.ble y 301 then none else (some .int)) else none) else (bif Nat.ble y 304 then (some .int) else (some .int)))) else (bif Nat.ble y 310 then (bif Nat.ble y 308 then (bif Nat.ble y 307 then (bif Nat.ble y 306 then (some .int) else (some .int)) else (some .int)) else (bif Nat.ble y 309 then (some .int) else none)) else (bif Nat.ble y 313 then (bif Nat.ble y 312 then (bif Nat.ble y 311 then none else (some .int)) else (some .int)) else (bif Nat.ble y 314 then (some .int) else (some .int))))) else (bif Nat.ble y 326 then (bif Nat.ble y 321 then (bif Nat.ble y 318 then (bif Nat.ble y 317 then (bif Nat.ble y 316 then (some .int) else (some .boolean)) else (some .int)) else (bif Nat.ble y 320 then (bif Nat.ble y 319 then (some .int) else (some .boolean)) else (some .boolean))) else (bif Nat.ble y 324 then (bif Nat.ble y 323 then (bif Nat.ble y 322 then (some .boolean) else (some .boolean)) else (some .int)) else (bif Nat.ble y 325 then none else (some .int)))) else (bif Nat.ble y 331 then (bif Nat.ble y 329 then (bif Nat.ble y 328 then (bif Nat.ble y 327 then (some .int) else (some .boolean)) else none) else (bif Nat.ble y 330 then (some .int) else (some .int))) else (bif Nat.ble y 334 then (bif Nat.ble y 333 then (bif Nat.ble y 332 then (some .int) else (some .int)) else (some .int)) else (bif Nat.ble y 335 then (some .int) else none))))))))
def ocl (y : Nat) : Nat := (bif Nat.ble y 168 then (bif Nat.ble y 84 then (bif Nat.ble y 42 then (bif Nat.ble y 21 then (bif Nat.ble y 10 then (bif Nat.ble y 5 then (bif Nat.ble y 2 then (bif Nat.ble y 1 then (bif Nat.ble y 0 then 0 else 0) else 0) else (bif Nat.ble y 4 then (bif Nat.ble y 3 then 0 else 0) else 0)) else (bif Nat.ble y 8 then (bif Nat.ble y 7 then (bif Nat.ble y 6 then 0 else 0) else 0) else (bif Nat.ble y 9 then 0 else 0))) else (bif Nat.ble y 16 then (bif Nat.ble y 13 then (bif Nat.ble y 12 then (bif Nat.ble y 11 then 0 else 1) else 1) else (bif Nat.ble y 15 then (bif Nat.ble y 14 then 1 else 2) else 2)) else (bif Nat.ble y 19 then (bif Nat.ble y 18 then (bif Nat.ble y 17 then 2 else 2) else 2) else (bif Nat.ble y 20 then 2 else 2)))) else (bif Nat.ble y 32 then (bif Nat.ble y 27 then (bif Nat.ble y 24 then (bif Nat.ble y 23 then (bif Nat.ble y 22 then 2 else 3) else 3) else (bif Nat.ble y 26 then (bif Nat.ble y 25 then 3 else 3) else 3)) else (bif Nat.ble y 30 then (bif Nat.ble y 29 then (bif Nat.ble y 28 then 3 else 3) else 3) else (bif Nat.ble y 31 then 3 else 3))) else (bif Nat.ble y 37 then (bif Nat.ble y 35 then (bif Nat.ble y 34 then (bif Nat.ble y 33 then 3 else 3) else 3) else (bif Nat.ble y 36 then 3 else 3)) else (bif Nat.ble y 40 then (bif Nat.ble y 39 then (bif Nat.ble y 38 then 4 else 4) else 4) else (bif Nat.ble y 41 then 4 else 4))))) else (bif Nat.ble y 63 then (bif Nat.ble y 53 then (bif Nat.ble y 48 then (bif Nat.ble y 45 then (bif Nat.ble y 44 then (bif Nat.ble y 43 then 4 else 4) else 4) else (bif Nat.ble y 47 then (bif Nat.ble y 46 then 4 else 4) else 5)) else (bif Nat.ble y 51 then (bif Nat.ble y 50 then (bif Nat.ble y 49 then 5 else 5) else 5) else (bif Nat.ble y 52 then 5 else 5))) else (bif Nat.ble y 58 then (bif Nat.ble y 56 then (bif Nat.ble y 55 then (bif Nat.ble y 54 then 5 else 5) else 6) else (bif Nat.ble y 57 then 6 else 6)) else (bif Nat.ble y 61 then (bif Nat.ble y 60 then (bif Nat.ble y 59 then 6 else 6) else 6) else (bif Nat.ble y 62 then 6 else 6)))) else (bif Nat.ble y 74 then (bif Nat.ble y 69 then (bif Nat.ble y 66 then (bif Nat.ble y 65 then (bif Nat.ble y 64 then 6 else 6) else 6) else (bif Nat.ble y 68 then (bif Nat.ble y 67 then 7 else 7) else 7)) else (bif Nat.ble y 72 then (bif Nat.ble y 71 then (bif Nat.ble y 70 then 7 else 7) else 7) else (bif Nat.ble y 73 then 8 else 8))) else (bif Nat.ble y 79 then (bif Nat.ble y 77 then (bif Nat.ble y 76 then (bif Nat.ble y 75 then 8 else 8) else 8) else (bif Nat.ble y 78 then 8 else 8)) else (bif Nat.ble y 82 then (bif Nat.ble y 81 then (bif Nat.ble y 80 then 8 else 8) else 8) else (bif Nat.ble y 83 then 8 else 8)))))) else (bif Nat.ble y 126 then (bif Nat.ble y 105 then (bif Nat.ble y 95 then (bif Nat.ble y 90 then (bif Nat.ble y 87 then (bif Nat.ble y 86 then (bif Nat.ble y 85 then 8 else 9) else 9) else (bif Nat.ble y 89 then (bif Nat.ble y 88 then 9 else 9) else 9)) else (bif Nat.ble y 93 then (bif Nat.ble y 92 then (bif Nat.ble y 91 then 9 else 10) else 10) else (bif Nat.ble y 94 then 10 else 10))) else (bif Nat.ble y 100 then (bif Nat.ble y 98 then (bif Nat.ble y 97 then (bif Nat.ble y 96 then 11 else 11) else 11) else (bif Nat.ble y 99 then 11 else 11)) else (bif Nat.ble y 103 then (bif Nat.ble y 102 then (bif Nat.ble y 101 then 11 else 11) else 11) else (bif Nat.ble y 104 then 11 else 11)))) else (bif Nat.ble y 116 then (bif Nat.ble y 111 then (bif Nat.ble y 108 then (bif Nat.ble y 107 then (bif Nat.ble y 106 then 11 else 11) else 11) else (bif Nat.ble y 110 then (bif Nat.ble y 109 then 11 else 11) else 11)) else (bif Nat.ble y 114 then (bif Nat.ble y 113 then (bif Nat.ble y 112 then 11 else 11) else 11) else (bif Nat.ble y 115 then 11 else 11))) else (bif Nat.ble y 121 then (bif Nat.ble y 119 then (bif Nat.ble y 118 then (bif Nat.ble y 117 then 11 else 11) else 11) else (bif Nat.ble y 120 then 11 else 11)) else (bif Nat.ble y 124 then (bif Nat.ble y 123 then (bif Nat.ble y 122 then 11 else 11) else 11) else (bif Nat.ble y 125 then 11 else 11))))) else (bif Nat.ble y 147 then (bif Nat.ble y 137 then (bif Nat.ble y 132 then (bif Nat.ble y 129 then (bif Nat.ble y 128 then (bif Nat.ble y 127 then 11 else 11) else 11) else (bif Nat.ble y 131 then (bif Nat.ble y 130 then 11 else 11) else 11)) else (bif Nat.ble y 135 then (bif Nat.ble y 134 then (bif Nat.ble y 133 then 11 else 11) else 11) else (bif Nat.ble y 136 then 11 else 11))) else (bif Nat.ble y 142 then (bif Nat.ble y 140 then (bif Nat.ble y 139 then (bif Nat.ble y 138 then 11 else 11) else 11) else (bif Nat.ble y 141 then 11 else 11)) else (bif Nat.ble y 145 then (bif Nat.ble y 144 then (bif Nat.ble y 143 then 11 else 11) else 11) else (bif Nat.ble y 146 then 11 else 11)))) else (bif Nat.ble y 158 then (bif Nat.ble y 153 then (bif Nat.ble y 150 then (bif Nat.ble y 149 then (bif Nat.ble y 148 then 11 else 11) else 11) else (bif Nat.ble y 152 then (bif Nat.ble y 151 then 11 else 11) else 11)) else (bif Nat.ble y 156 then (bif Nat.ble y 155 then (bif Nat.ble y 154 then 11 else 11) else 11) else (bif Nat.ble y 157 then 11 else 11))) else (bif Nat.ble y 163 then (bif Nat.ble y 161 then (bif Nat.ble y 160 then (bif Nat.ble y 159 then 11 else 11) else 11) else (bif Nat.ble y 162 then 11 else 11)) else (bif Nat.ble y 166 then (bif Nat.ble y 165 then (bif Nat.ble y 164 then 11 else 11) else 11) else (bif Nat.ble y 167 then 11 else 11))))))) else (bif Nat.ble y 252 then (bif Nat.ble y 210 then (bif Nat.ble y 189 then (bif Nat.ble y 179 then (bif Nat.ble y 174 then (bif Nat.ble y 171 then (bif Nat.ble y 170 then (bif Nat.ble y 169 then 11 else 11) else 11) else (bif Nat.ble y 173 then (bif Nat.ble y 172 then 11 else 11) else 11)) else (bif Nat.ble y 177 then (bif Nat.ble y 176 then (bif Nat.ble y 175 then 11 else 11) else 11) else (bif Nat.ble y 178 then 11 else 11))) else (bif Nat.ble y 184 then (bif Nat.ble y 182 then (bif Nat.ble y 181 then (bif Nat.ble y 180 then 12 else 12) else 12) else (bif Nat.ble y 183 then 12 else 12)) else (bif Nat.ble y 187 then (bif Nat.ble y 186 then (bif Nat.ble y 185 then 12 else 12) else 12) else (bif Nat.ble y 188 then 12 else 12)))) else (bif Nat.ble y 200 then (bif Nat.ble y 195 then (bif Nat.ble y 192 then (bif Nat.ble y 191 then (bif Nat.ble y 190 then 12 else 12) else 12) else (bif Nat.ble y 194 then (bif Nat.ble y 193 then 12 else 12) else 12)) else (bif Nat.ble y 198 then (bif Nat.ble y 197 then (bif Nat.ble y 196 then 12 else 12) else 12) else (bif Nat.ble y 199 then 12 else 12))) else (bif Nat.ble y 205 then (bif Nat.ble y 203 then (bif Nat.ble y 202 then (bif Nat.ble y 201 then 12 else 12) else 12) else (bif Nat.ble y 204 then 12 else 12)) else (bif Nat.ble y 208 then (bif Nat.ble y 207 then (bif Nat.ble y 206 then 12 else 12) else 12) else (bif Nat.ble y 209 then 12 else 12))))) else (bif Nat.ble y 231 then (bif Nat.ble y 221 then (bif Nat.ble y 216 then (bif Nat.ble y 213 then (bif Nat.ble y 212 then (bif Nat.ble y 211 then 12 else 12) else 12) else (bif Nat.ble y 215 then (bif Nat.ble y 214 then 12 else 12) else 12)) else (bif Nat.ble y 219 then (bif Nat.ble y 218 then (bif Nat.ble y 217 then 12 else 12) else 12) else (bif Nat.ble y 220 then 12 else 12))) else (bif Nat.ble y 226 then (bif Nat.ble y 224 then (bif Nat.ble y 223 then (bif Nat.ble y 222 then 12 else 12) else 12) else (bif Nat.ble y 225 then 12 else 12)) else (bif Nat.ble y 229 then (bif Nat.ble y 228 then (bif Nat.ble y 227 then 12 else 12) else 12) else (bif Nat.ble y 230 then 12 else 12)))) else (bif Nat.ble y 242 then (bif Nat.ble y 237 then (bif Nat.ble y 234 then (bif Nat.ble y 233 then (bif Nat.ble y 232 then 12 else 12) else 12) else (bif Nat.ble y 236 then (bif Nat.ble y 235 then 12 else 12) else 12)) else (bif Nat.ble y 240 then (bif Nat.ble y 239 then (bif Nat.ble y 238 then 12 else 12) else 12) else (bif Nat.ble y 241 then 12 else 12))) else (bif Nat.ble y 247 then (bif Nat.ble y 245 then (bif Nat.ble y 244 then (bif Nat.ble y 243 then 12 else 12) else 12) else (bif Nat.ble y 246 then 12 else 12)) else (bif Nat.ble y 250 then (bif Nat.ble y 249 then (bif Nat.ble y 248 then 12 else 12) else 12) else (bif Nat.ble y 251 then 12 else 12)))))) else (bif Nat.ble y 294 then (bif Nat.ble y 273 then (bif Nat.ble y 263 then (bif Nat.ble y 258 then (bif Nat.ble y 255 then (bif Nat.ble y 254 then (bif Nat.ble y 253 then 12 else 12) else 12) else (bif Nat.ble y 257 then (bif Nat.ble y 256 then 12 else 12) else 12)) else (bif Nat.ble y 261 then (bif Nat.ble y 260 then (bif Nat.ble y 259 then 12 else 12) else 12) else (bif Nat.ble y 262 then 12 else 12))) else (bif Nat.ble y 268 then (bif Nat.ble y 266 then (bif Nat.ble y 265 then (bif Nat.ble y 264 then 12 else 12) else 12) else (bif Nat.ble y 267 then 12 else 12)) else (bif Nat.ble y 271 then (bif Nat.ble y 270 then (bif Nat.ble y 269 then 12 else 12) else 12) else (bif Nat.ble y 272 then 12 else 12)))) else (bif Nat.ble y 284 then (bif Nat.ble y 279 then (bif Nat.ble y 276 then (bif Nat.ble y 275 then (bif Nat.ble y 274 then 12 else 12) else 12) else (bif Nat.ble y 278 then (bif Nat.ble y 277 then 12 else 12) else 12)) else (bif Nat.ble y 282 then (bif Nat.ble y 281 then (bif Nat.ble y 280 then 12 else 12) else 12) else (bif Nat.ble y 283 then 12 else 12))) else (bif Nat.ble y 289 then (bif Nat.ble y 287 then (bif Nat.ble y 286 then (bif Nat.ble y 285 then 12 else 12) else 12) else (bif Nat.ble y 288 then 12 else 12)) else (bif Nat.ble y 292 then (bif Nat.ble y 291 then (bif Nat.ble y 290 then 12 else 12) else 12) else (bif Nat.ble y 293 then 12 else 12))))) else (bif Nat.ble y 315 then (bif Nat.ble y 305 then (bif Nat.ble y 300 then (bif Nat.ble y 297 then (bif Nat.ble y 296 then (bif Nat.ble y 295 then 12 else 12) else 12) else (bif Nat.ble y 299 then (bif Nat.ble y 298 then 12 else 12) else 12)) else (bif Nat.ble y 303 then (bif Nat.ble y 302 then (bif Nat.ble y 301 then 12 else 12) else 12) else (bif Nat.ble y 304 then 12 else 12))) else (bif Nat.ble y 310 then (bif Nat.ble y 308 then (bif Nat.ble y 307 then (bif Nat.ble y 306 then 12 else 12) else 12) else (bif Nat.ble y 309 then 12 else 12)) else (bif Nat.ble y 313 then (bif Nat.ble y 312 then (bif Nat.ble y 311 then 12 else 12) else 12) else (bif Nat.ble y 314 then 12 else 12)))) else (bif Nat.ble y 326 then (bif Nat.ble y 321 then (bif Nat.ble y 318 then (bif Nat.ble y 317 then (bif Nat.ble y 316 then 12 else 12) else 12) else (bif Nat.ble y 320 then (bif Nat.ble y 319 then 12 else 12) else 12)) else (bif Nat.ble y 324 then (bif Nat.ble y 323 then (bif Nat.ble y 322 then 12 else 12) else 12) else (bif Nat.ble y 325 then 12 else 12))) else (bif Nat.ble y 331 then (bif Nat.ble y 329 then (bif Nat.ble y 328 then (bif Nat.ble y 327 then 12 else 12) else 12) else (bif Nat.ble y 330 then 12 else 12)) else (bif Nat.ble y 334 then (bif Nat.ble y 333 then (bif Nat.ble y 332 then 13 else 14) else 14) else (bif Nat.ble y 335 then 14 else 15))))))))
end
section
/-! calls and answers -/
def rmK (k : Nat) : Room := { frames := k + 8, cells := 0, slots := 0, locals := 60 * k + 500 }
def wsM (y : Nat) : List Cond := Cond.code (mn y) (cd y) (mxl y) (rt y) :: Tg
def ro (ad : Nat × Nat → Nat) (v : AV) : Option Value := if isU v = true then none else some (cv ad v)
def QcK (D : va_G) (ad : Nat × Nat → Nat) (cA : Nat → ClassId) (void : Bool) (K : AV → AM → Prop) : Array Value → State → Outcome → State → Prop := fun _ st oc t => (∃ (v : AV) (σ' : AM), oc = .returned (ro ad v) ∧ isU v = void ∧ K v σ' ∧ vv v ∧ va_P D clA (wsA ad cA σ') t.heap) ∧ va_F (AA ad) st t
/-- a call of a method at a level of the room, from a memory, comes back as 'K' says -/
def CALLm (l : Launch) (D : va_G) (ad : Nat × Nat → Nat) (cA : Nat → ClassId) (r y : Nat) (args : List AV) (σ : AM) (K : AV → AM → Prop) : Prop :=
  AllV args → argW args ≤ mxl y → Met l (mn y) (wsM y) (rmK r) (va_Pc (args.map (cv ad)) (fun U => va_P D clA (wsA ad cA σ) U.heap ∧ va_K D clA (tysA cA) U ∧ SW ad U U.heap)) (QcK D ad cA (rt y).isNone K) 0 0 (AA ad)
theorem argW_sl {ad : Nat × Nat → Nat} : ∀ l : List AV, (lg_sl (l.map (cv ad))).length = argW l
  | [] => rfl
  | v :: r => by
    have ih := argW_sl (ad := ad) r
    show (lg_sl (cv ad v :: r.map (cv ad))).length = _
    rw [argW, ← ih]
    unfold lg_sl
    rw [List.flatMap_cons, List.length_append]
    congr 1
    rcases v with x | x | ⟨t, i⟩ <;> rfl
theorem ent_in {ad : Nat × Nat → Nat} : ∀ (n : Nat) (a : List AV) (i : Nat) (q : Nat × Value), q ∈ lvc ad i (ent n a) → q ∈ lv_args i (a.map (cv ad))
  | 0, a, i, q, h => by simp [ent, lvc] at h
  | n + 1, [], i, q, h => by
    rw [ent, lvc] at h
    exact ent_in n [] (i + 1) q h
  | n + 1, .inl x :: r, i, q, h => by
    rw [ent, lvc] at h
    rcases List.mem_cons.mp h with h | h
    · rw [h]; exact List.mem_cons_self
    · exact List.mem_cons_of_mem _ (ent_in n r (i + 1) q h)
  | n + 1, .inr (.inr p) :: r, i, q, h => by
    rw [ent, lvc] at h
    have key : q ∈ lvc ad (i + 1) (ent n r) → q ∈ lv_args i ((.inr (.inr p) :: r).map (cv ad)) := fun h => List.mem_cons_of_mem _ (ent_in n r (i + 1) q h)
    cases hu : isU (.inr (.inr p)) with
    | true => rw [hu] at h; exact key h
    | false =>
      rw [hu] at h
      rcases List.mem_cons.mp h with h | h
      · rw [h]; exact List.mem_cons_self
      · exact key h
  | 1, .inr (.inl x) :: r, i, q, h => by
    rw [ent, lvc] at h
    rcases List.mem_cons.mp h with h | h
    · rw [h]; exact List.mem_cons_self
    · simp [lvc] at h
  | n + 2, .inr (.inl x) :: r, i, q, h => by
    rw [ent, lvc] at h
    rcases List.mem_cons.mp h with h | h
    · rw [h]; exact List.mem_cons_self
    · exact List.mem_cons_of_mem _ (ent_in n r (i + 2) q h)
theorem ent_vv : ∀ (n : Nat) (a : List AV), AllV a → AllV (ent n a)
  | 0, a, h => by rw [ent]; exact AllV.nil
  | n + 1, [], h => by rw [ent]; exact AllV.cons (Or.inl ⟨rfl, rfl⟩) (ent_vv n [] h)
  | n + 1, .inl x :: r, h => by rw [ent]; exact AllV.cons trivial (ent_vv n r h.tl)
  | n + 1, .inr (.inr p) :: r, h => by rw [ent]; exact AllV.cons h.hd (ent_vv n r h.tl)
  | 1, .inr (.inl x) :: r, h => by rw [ent]; exact AllV.cons trivial AllV.nil
  | n + 2, .inr (.inl x) :: r, h => by rw [ent]; exact AllV.cons trivial (AllV.cons (Or.inl ⟨rfl, rfl⟩) (ent_vv n r h.tl))
theorem cat_len (ad : Nat × Nat → Nat) : ∀ st : List AV, ((st.map (cv ad)).map fun v => v.category).sum ≤ 2 * st.length
  | [] => Nat.le_refl 0
  | v :: r => by
    have ih := cat_len ad r
    have h : (cv ad v).category ≤ 2 := by rw [isL_cat]; split <;> omega
    simp only [List.map_cons, List.sum_cons, List.length_cons]
    omega
section SND3
variable {p : Program} {l : Launch} {e : Env} {R : Room} {s : State} {m : MethodId} {args : Array Value} {below : List Frame} {meth : Method} {c : Code} {Q : State → Prop} {cc : ByteArray} {D : va_G} {ad : Nat × Nat → Nat} {cA : Nat → ClassId} {nL pc : Nat} {own : String} {lv st : List AV} {σ : AM} {K : AV → AM → Prop}
theorem va_callK {H : Heap} {locs : List Loc} {ls : Array Slot} {st0 rest : List Value} {a : Array Value} {void : Bool} (hr : va_Run p l e R s m args below meth c H locs 0 0 0 0 (F0 m pc ls st0) rest (QcK D ad cA void K a) (AA ad)) (hS : va_S (AA ad) s.heap H locs)
    (kk : ∀ (v : AV) (σ' : AM) (H1 : Heap) (locs1 : List Loc), isU v = void → K v σ' → vv v → va_P D clA (wsA ad cA σ') H1 → va_S (AA ad) s.heap H1 locs1 → W p l e R s m args below meth c H1 locs1 0 0 Q (F0 m (pc + 3) ls ((ro ad v).toList ++ rest))) : W p l e R s m args below meth c H locs 0 0 Q (F0 m pc ls st0) := by
  intro T hT X
  obtain ⟨v, st₀, t, T', L, h0, X', hL, e1, e2, ⟨⟨av, σ', hv, hu, hK, hvv, hP⟩, hz, hk⟩, st⟩ := hr T hT X
  have hv : v = ro ad av := Outcome.returned.inj hv
  subst hv
  rw [h0] at hz hk
  obtain ⟨t2, a1, b1⟩ := kk av σ' T'.heap (locs ++ L) hu hK hvv (by rw [e1]; exact hP)
    ⟨Nat.le_trans hS.1 (by rw [e1]; exact hz), fun q h1 h2 => by rw [e1, hk q (Nat.lt_of_lt_of_le h1 hS.1) h2]; exact hS.2.1 q h1 h2, fun q hq => by
      rcases List.mem_append.mp hq with h | h
      · exact hS.2.2 q h
      · exact hL q h⟩ T' rfl X'
  exact ⟨t2, st t2 a1, b1⟩
/-- what a call hands over holds in the callee's start -/
theorem pre_ok {H : Heap} {locs : List Loc} (C : Cx p s m args c cc D ad cA nL own) (hP : va_P D clA (wsA ad cA σ) H) (hS : va_S (AA ad) s.heap H locs) : ∀ U : State, U.heap = H → s.WarmedH U.vm → (va_P D clA (wsA ad cA σ) U.heap ∧ va_K D clA (tysA cA) U ∧ SW ad U U.heap) := by
  intro U hU hW
  refine ⟨by rw [hU]; exact hP, va_K.moved hW.alike C.2.2.2.2.2.1, ?_⟩
  rw [hU]
  exact SW.warm hW (C.2.2.2.2.2.2.2.kept hS.2.1)
theorem pre_blind {as : List Value} : FrameBlind (va_Pc as (fun U => va_P D clA (wsA ad cA σ) U.heap ∧ va_K D clA (tysA cA) U ∧ SW ad U U.heap)) := by
  intro a U g mk h
  obtain ⟨h1, h2, h3, h4⟩ := h
  exact ⟨h1, h2, va_K.moved (u := U) (U := U.calling g mk a) (Vm.Alike.refl U.vm) h3, SW.same (u := U) rfl h4⟩
/-- the words of a callee: its code is among the tables' -/
theorem wsM_in {y : Nat} (h : Cond.code (mn y) (cd y) (mxl y) (rt y) ∈ Tg) : ∀ w ∈ wsM y, w ∈ Tg := fun w hw => (List.mem_cons.mp hw).elim (fun e => e ▸ h) id
/-- what is known of a method by the tables -/
def YOk (y : Nat) : Prop := Cond.code (mn y) (cd y) (mxl y) (rt y) ∈ Tg ∧ Cond.initialized (mn y).cls ∈ Tg ∧ ((mn y).cls ≠ "java/lang/invoke/MethodHandle" ∧ (mn y).cls ≠ "java/lang/invoke/VarHandle") ∧ mxl y ≤ 40
theorem callB_m {r y idx n : Nat} (C : Cx p s m args c cc D ad cA nL own) (hy : YOk y) (hn : (parseMethodDescriptor (mn y).desc).map (fun d => d.parameters.length) = some n) (hl : Cond.methodLink own idx (mn y) ∈ Tg) : CallB (rmK (r + 1)) s args own idx (mn y) (cd y) (mxl y) (rt y) (wsM y) (rmK r) 0 0 n := by
  obtain ⟨h1, h2, h3, h4⟩ := hy
  exact callB_of n C.2.2.2.2.1 (goodT (wsM_in h1)) rfl rfl rfl (C.2.2.2.2.1 _ h2) (C.2.2.2.2.1 _ hl) ⟨h3.1, h3.2, hn⟩ ⟨by show r + 8 + 1 ≤ r + 1 + 8; omega, by show 8 + (mxl y + 11) + (60 * r + 500) ≤ 60 * (r + 1) + 500; omega⟩
theorem g_callV {r y idx n t i cI : Nat} {As : List AV} (C : Cx p s m args c cc D ad cA nL own) (hd : decode cc pc = .ok (.invokevirtual idx, 3)) (hy : YOk y) (hn : (parseMethodDescriptor (mn y).desc).map (fun d => d.parameters.length) = some n) (hAs : As.length = n) (hl : Cond.methodLink own idx (mn y) ∈ Tg) (hi1 : Cond.instanceMethod (mn y) ∈ Tg) (hs1 : Cond.selects (mn y).cls (mn y) (mn y) ∈ Tg)
    (hc : cI < 13) (hsh : sh t = (0, cI)) (hrn : RN cI = (mn y).cls) (hst : st.length ≤ 4) (hw : argW (.inr (.inr (t, i)) :: As) ≤ mxl y)
    (h : CALLm l D ad cA r y (.inr (.inr (t, i)) :: As) σ (fun v σ' => Gd p l e (rmK (r + 1)) s m args below meth c nL Q D ad cA (pc + 3) lv (if (rt y).isNone then st else v :: st) σ')) : Gd p l e (rmK (r + 1)) s m args below meth c nL Q D ad cA pc lv (As.reverse ++ .inr (.inr (t, i)) :: st) σ := by
  intro hlv hsv H locs ls hP hS hv
  have hsv2 : AllV (As ++ .inr (.inr (t, i)) :: st) := fun w hw => hsv w (by
    rcases List.mem_append.mp hw with h | h
    · exact List.mem_append.mpr (Or.inl (List.mem_reverse.mpr h))
    · exact List.mem_append.mpr (Or.inr h))
  have hvAs : AllV As := fun w hw => hsv2 w (List.mem_append.mpr (Or.inl hw))
  have hvr : AllV (.inr (.inr (t, i)) :: st) := fun w hw => hsv2 w (List.mem_append.mpr (Or.inr hw))
  obtain ⟨ht, hi⟩ := vld hvr.hd (by rw [hsh]; simp)
  have he : (wsA ad cA σ)[ps t + i]? = some (ad (t, i), .inr (cI, flds ad σ t i cI)) := by rw [wsA_at ht hi]; simp [cellOf, hsh]
  have hM := h (AllV.cons hvr.hd hvAs) hw
  have hcw : CallW (rmK (r + 1)) s args own (mn y).cls idx (mn y) (cd y) (mxl y) (rt y) (wsM y) (rmK r) 0 0 n := ⟨callB_m C hy hn hl, C.2.2.2.2.1 _ hi1, C.2.2.2.2.1 _ hs1⟩
  have hrun := va_runV (p := p) (e := e) (below := below) (meth := meth) (locs := locs) (cells := 0) (slots := 0) (b := ad (t, i)) (As := As.map (cv ad)) (rest := st.map (cv ad)) (g := F0 m pc ls ((As.reverse ++ .inr (.inr (t, i)) :: st).map (cv ad))) (H := H) (Ts := Tg) (nL := nL) ⟨C.1, C.2.1, C.2.2.2.1, C.2.2.1, C.2.2.2.2.1⟩ hM hcw
    ⟨pre_blind, by rw [← hrn]; exact va_recv C.2.2.2.2.2.1 hP (clA_at cI hc) he, fun U hU hW => ⟨rfl, pre_ok C hP hS U hU hW⟩⟩ rfl (by rw [List.length_map]; exact hAs) hv.1 (by show List.map _ _ = _; rw [List.map_append, List.map_reverse]; rfl) (lv_room (Nat.le_trans (cat_len ad st) (by omega))) hd ⟨Nat.le_refl _, Nat.le_refl _⟩
  refine va_callK hrun hS (fun v σ' H1 locs1 hu hk hvv hP1 hS1 => ?_)
  by_cases hv0 : (rt y).isNone = true
  · rw [if_pos hv0] at hk
    have e0 : ro ad v = none := by unfold ro; rw [if_pos (hu.trans hv0)]
    rw [e0]
    exact hk hlv hvr.tl H1 locs1 ls hP1 hS1 hv
  · rw [if_neg hv0] at hk
    have e0 : ro ad v = some (cv ad v) := by unfold ro; rw [if_neg (fun z => hv0 (hu.symm.trans z))]
    rw [e0]
    exact hk hlv (AllV.cons hvv hvr.tl) H1 locs1 ls hP1 hS1 hv
theorem g_callS {r y idx n : Nat} {As : List AV} (C : Cx p s m args c cc D ad cA nL own) (hd : decode cc pc = .ok (.invokestatic idx, 3)) (hy : YOk y) (hn : (parseMethodDescriptor (mn y).desc).map (fun d => d.parameters.length) = some n) (hAs : As.length = n) (hl : Cond.methodLink own idx (mn y) ∈ Tg ∨ ∃ host, Cond.methodLinkNest own idx (mn y) host ∈ Tg) (hi1 : Cond.static (mn y) ∈ Tg)
    (hst : st.length ≤ 4) (hw : argW As ≤ mxl y)
    (h : CALLm l D ad cA r y As σ (fun v σ' => Gd p l e (rmK (r + 1)) s m args below meth c nL Q D ad cA (pc + 3) lv (if (rt y).isNone then st else v :: st) σ')) : Gd p l e (rmK (r + 1)) s m args below meth c nL Q D ad cA pc lv (As.reverse ++ st) σ := by
  intro hlv hsv H locs ls hP hS hv
  have hvAs : AllV As := fun w hw => hsv w (List.mem_append.mpr (Or.inl (List.mem_reverse.mpr hw)))
  have hvr : AllV st := fun w hw => hsv w (List.mem_append.mpr (Or.inr hw))
  have hM := h hvAs hw
  have hrun : va_Run p l e (rmK (r + 1)) s m args below meth c H locs 0 0 0 0 (F0 m pc ls ((As.reverse ++ st).map (cv ad))) (st.map (cv ad)) (QcK D ad cA (rt y).isNone (fun v σ' => Gd p l e (rmK (r + 1)) s m args below meth c nL Q D ad cA (pc + 3) lv (if (rt y).isNone then st else v :: st) σ') (As.map (cv ad)).toArray) (AA ad) := by
    have hstk : (F0 m pc ls ((As.reverse ++ st).map (cv ad))).stack = (As.map (cv ad)).reverse ++ st.map (cv ad) := by show List.map _ _ = _; rw [List.map_append, List.map_reverse]
    rcases hl with hl | ⟨host, hl⟩
    · exact va_runS (Ts := Tg) (nL := nL) ⟨C.1, C.2.1, C.2.2.2.1, C.2.2.1, C.2.2.2.2.1⟩ hM ⟨callB_m C hy hn hl, C.2.2.2.2.1 _ hi1⟩ ⟨pre_blind, fun U hU hW => ⟨rfl, pre_ok C hP hS U hU hW⟩⟩ rfl (by rw [List.length_map]; exact hAs) hv.1 hstk (lv_room (Nat.le_trans (cat_len ad st) (by omega))) hd ⟨Nat.le_refl _, Nat.le_refl _⟩
    · obtain ⟨h1, h2, h3, h4⟩ := hy
      have hcn : va_CN (rmK (r + 1)) s args own idx (mn y) host (cd y) (mxl y) (rt y) (wsM y) (rmK r) 0 0 n := va_cnB n C.2.2.2.2.1 (goodT (wsM_in h1)) rfl rfl rfl (va_tabs rfl rfl (C.2.2.2.2.1 _ hl)) (C.2.2.2.2.1 _ h2) ⟨h3.1, h3.2, hn⟩ ⟨by show r + 8 + 1 ≤ r + 1 + 8; omega, by show 8 + (mxl y + 11) + (60 * r + 500) ≤ 60 * (r + 1) + 500; omega⟩
      exact va_runSN (Ts := Tg) (nL := nL) ⟨C.1, C.2.1, C.2.2.2.1, C.2.2.1, C.2.2.2.2.1⟩ hM ⟨hcn, C.2.2.2.2.1 _ hi1, trivial⟩ ⟨pre_blind, fun U hU hW => ⟨rfl, pre_ok C hP hS U hU hW⟩⟩ rfl (by rw [List.length_map]; exact hAs) hv.1 hstk (lv_room (Nat.le_trans (cat_len ad st) (by omega))) hd ⟨Nat.le_refl _, Nat.le_refl _⟩
  refine va_callK hrun hS (fun v σ' H1 locs1 hu hk hvv hP1 hS1 => ?_)
  by_cases hv0 : (rt y).isNone = true
  · rw [if_pos hv0] at hk
    have e0 : ro ad v = none := by unfold ro; rw [if_pos (hu.trans hv0)]
    rw [e0]
    exact hk hlv hvr H1 locs1 ls hP1 hS1 hv
  · rw [if_neg hv0] at hk
    have e0 : ro ad v = some (cv ad v) := by unfold ro; rw [if_neg (fun z => hv0 (hu.symm.trans z))]
    rw [e0]
    exact hk hlv (AllV.cons hvv hvr) H1 locs1 ls hP1 hS1 hv
theorem nfw : nativeFrameWords "java/lang/System" "arraycopy" 5 ≤ 200 := by decide
theorem g_copyI {r t0 i0 t1 i1 n0 n1 idx : Nat} {sp dp n : Int32} (C : Cx p s m args c cc D ad cA nL own) (hd : decode cc pc = .ok (.invokestatic idx, 3)) (hln : Cond.methodLink own idx arraycopyName ∈ Tg) (hh : Cond.native arraycopyName ∈ Tg ∧ Cond.static arraycopyName ∈ Tg ∧ Cond.initialized "java/lang/System" ∈ Tg) (hs0 : sh t0 = (1, n0)) (hs1 : sh t1 = (1, n1)) (hst : st.length ≤ 4)
    (ho : ¬ sp < 0 ∧ ¬ dp < 0 ∧ ¬ n < 0 ∧ sp.toNatClampNeg + n.toNatClampNeg ≤ n0 ∧ dp.toNatClampNeg + n.toNatClampNeg ≤ n1) (kk : Gd p l e (rmK (r + 1)) s m args below meth c nL Q D ad cA (pc + 3) lv st (cpI σ t0 i0 t1 i1 sp.toNatClampNeg dp.toNatClampNeg n.toNatClampNeg)) : Gd p l e (rmK (r + 1)) s m args below meth c nL Q D ad cA pc lv (.inl n :: .inl dp :: .inr (.inr (t1, i1)) :: .inl sp :: .inr (.inr (t0, i0)) :: st) σ := by
  intro hl hs H locs ls hP hS hv
  obtain ⟨hx, hb, hown, hml, hts, hK, hA, hW⟩ := C
  obtain ⟨ht1, hi1⟩ := vld hs.tl.tl.hd (by rw [hs1]; simp)
  obtain ⟨ht0, hi0⟩ := vld hs.tl.tl.tl.tl.hd (by rw [hs0]; simp)
  obtain ⟨o1, o2, o3, o4, o5⟩ := ho
  have hc := cat_len ad st
  have hnf := nfw
  refine va_copyi hx hb (hml.trans hv.1.symm) hown (hts _ hln) (hts _ hh.1) (hts _ hh.2.1) (hts _ hh.2.2) hK hP (wsA_D hA) hS (ps t0 + i0) (ps t1 + i1) 0 0 (c0 := cA 1) (c1 := cA 1) (n0 := n0) (n1 := n1) (f := σ.1 t0 i0) (g := σ.1 t1 i1) (ty := .int) (by rw [wsA_at ht0 hi0]; simp [cellOf, hs0]) (by rw [wsA_at ht1 hi1]; simp [cellOf, hs1]) rfl rfl rfl o1 o2 o3 o4 o5 (fun _ _ => rfl) (by show 1 ≤ r + 1 + 8; omega) (by show _ ≤ 60 * (r + 1) + 500; omega) hd (fun H1 locs1 hP1 _ hS1 => ?_)
  rw [wsA_set (σ' := cpI σ t0 i0 t1 i1 sp.toNatClampNeg dp.toNatClampNeg n.toNatClampNeg) ht1 hi1 (by simp [cellOf, hs1, cpy_cpI]) (cpI_ne _ _ _ _ _ _ _ _)] at hP1
  exact kk hl hs.tl.tl.tl.tl.tl H1 locs1 ls hP1 hS1 hv
theorem g_copyL {r t0 i0 t1 i1 n0 n1 idx : Nat} {sp dp n : Int32} (C : Cx p s m args c cc D ad cA nL own) (hd : decode cc pc = .ok (.invokestatic idx, 3)) (hln : Cond.methodLink own idx arraycopyName ∈ Tg) (hh : Cond.native arraycopyName ∈ Tg ∧ Cond.static arraycopyName ∈ Tg ∧ Cond.initialized "java/lang/System" ∈ Tg) (hs0 : sh t0 = (2, n0)) (hs1 : sh t1 = (2, n1)) (hst : st.length ≤ 4)
    (ho : ¬ sp < 0 ∧ ¬ dp < 0 ∧ ¬ n < 0 ∧ sp.toNatClampNeg + n.toNatClampNeg ≤ n0 ∧ dp.toNatClampNeg + n.toNatClampNeg ≤ n1) (kk : Gd p l e (rmK (r + 1)) s m args below meth c nL Q D ad cA (pc + 3) lv st (cpL σ t0 i0 t1 i1 sp.toNatClampNeg dp.toNatClampNeg n.toNatClampNeg)) : Gd p l e (rmK (r + 1)) s m args below meth c nL Q D ad cA pc lv (.inl n :: .inl dp :: .inr (.inr (t1, i1)) :: .inl sp :: .inr (.inr (t0, i0)) :: st) σ := by
  intro hl hs H locs ls hP hS hv
  obtain ⟨hx, hb, hown, hml, hts, hK, hA, hW⟩ := C
  obtain ⟨ht1, hi1⟩ := vld hs.tl.tl.hd (by rw [hs1]; simp)
  obtain ⟨ht0, hi0⟩ := vld hs.tl.tl.tl.tl.hd (by rw [hs0]; simp)
  obtain ⟨o1, o2, o3, o4, o5⟩ := ho
  have hc := cat_len ad st
  have hnf := nfw
  refine va_copyl hx hb (hml.trans hv.1.symm) hown (hts _ hln) (hts _ hh.1) (hts _ hh.2.1) (hts _ hh.2.2) hK hP (wsA_D hA) hS (ps t0 + i0) (ps t1 + i1) 1 1 (c0 := cA 2) (c1 := cA 2) (n0 := n0) (n1 := n1) (f := σ.2.1 t0 i0) (g := σ.2.1 t1 i1) (ty := .long) (by rw [wsA_at ht0 hi0]; simp [cellOf, hs0]) (by rw [wsA_at ht1 hi1]; simp [cellOf, hs1]) rfl rfl rfl o1 o2 o3 o4 o5 (fun _ _ => rfl) (by show 1 ≤ r + 1 + 8; omega) (by show _ ≤ 60 * (r + 1) + 500; omega) hd (fun H1 locs1 hP1 _ hS1 => ?_)
  rw [wsA_set (σ' := cpL σ t0 i0 t1 i1 sp.toNatClampNeg dp.toNatClampNeg n.toNatClampNeg) ht1 hi1 (by simp [cellOf, hs1, cpy_cpL]) (cpL_ne _ _ _ _ _ _ _ _)] at hP1
  exact kk hl hs.tl.tl.tl.tl.tl H1 locs1 ls hP1 hS1 hv
theorem g_ldc {idx : Nat} {v : Int32} (C : Cx p s m args c cc D ad cA nL own) (hd : decode cc pc = .ok (.ldc idx, 2)) (hw : Cond.constant own idx v ∈ Tg) (k : Gd p l e R s m args below meth c nL Q D ad cA (pc + 2) lv (.inl v :: st) σ) : Gd p l e R s m args below meth c nL Q D ad cA pc lv st σ := by
  intro hl hs H locs ls hP hS hv
  exact lv_ldc C.1 C.2.1 C.2.2.1 (C.2.2.2.2.1 _ hw) hd (k hl (AllV.cons trivial hs) H locs ls hP hS hv)
theorem g_ldcw {idx : Nat} {v : Int32} (C : Cx p s m args c cc D ad cA nL own) (hd : decode cc pc = .ok (.ldc_w idx, 3)) (hw : Cond.constant own idx v ∈ Tg) (k : Gd p l e R s m args below meth c nL Q D ad cA (pc + 3) lv (.inl v :: st) σ) : Gd p l e R s m args below meth c nL Q D ad cA pc lv st σ := by
  intro hl hs H locs ls hP hS hv
  exact lv_ldcw C.1 C.2.1 C.2.2.1 (C.2.2.2.2.1 _ hw) hd (k hl (AllV.cons trivial hs) H locs ls hP hS hv)
theorem g_ldc2 {idx : Nat} {v : Int64} (C : Cx p s m args c cc D ad cA nL own) (hd : decode cc pc = .ok (.ldc2_w idx, 3)) (hw : Cond.constantLong own idx v ∈ Tg) (k : Gd p l e R s m args below meth c nL Q D ad cA (pc + 3) lv (.inr (.inl v) :: st) σ) : Gd p l e R s m args below meth c nL Q D ad cA pc lv st σ := by
  intro hl hs H locs ls hP hS hv
  exact lv_ldc2 C.1 C.2.1 C.2.2.1 (C.2.2.2.2.1 _ hw) hd (k hl (AllV.cons trivial hs) H locs ls hP hS hv)
theorem g_ireturn {x : Int32} (C : Cx p s m args c cc D ad cA nL own) (hlocks : meth.locks = false) (hr : meth.sig.returnType = some .int) (hd : decode cc pc = .ok (.ireturn, 1)) (hk : K (.inl x) σ) : Gd p l e R s m args below meth c nL (MQ below (QcK D ad cA false K) args s 0 0 (AA ad)) D ad cA pc lv [.inl x] σ := by
  intro hl hs H locs ls hP hS hv
  exact W.iret C.1 C.2.1 hr (fun t ht _ => ⟨⟨.inl x, σ, rfl, rfl, hk, trivial, by rw [ht]; exact hP⟩, hS.F ht⟩) hS.2.2 hd hlocks
theorem g_zreturn {x : Int32} (C : Cx p s m args c cc D ad cA nL own) (hlocks : meth.locks = false) (hr : meth.sig.returnType = some .boolean) (hd : decode cc pc = .ok (.ireturn, 1)) (h01 : x = 0 ∨ x = 1) (hk : K (.inl x) σ) : Gd p l e R s m args below meth c nL (MQ below (QcK D ad cA false K) args s 0 0 (AA ad)) D ad cA pc lv [.inl x] σ := by
  intro hl hs H locs ls hP hS hv
  exact W.zret C.1 C.2.1 hr (nar_bool h01).2.1 (fun t ht _ => ⟨⟨.inl x, σ, rfl, rfl, hk, trivial, by rw [ht]; exact hP⟩, hS.F ht⟩) hS.2.2 hd hlocks
theorem g_lreturn {x : Int64} (C : Cx p s m args c cc D ad cA nL own) (hlocks : meth.locks = false) (hr : meth.sig.returnType = some .long) (hd : decode cc pc = .ok (.lreturn, 1)) (hk : K (.inr (.inl x)) σ) : Gd p l e R s m args below meth c nL (MQ below (QcK D ad cA false K) args s 0 0 (AA ad)) D ad cA pc lv [.inr (.inl x)] σ := by
  intro hl hs H locs ls hP hS hv
  exact W.lret C.1 C.2.1 hr (fun t ht _ => ⟨⟨.inr (.inl x), σ, rfl, rfl, hk, trivial, by rw [ht]; exact hP⟩, hS.F ht⟩) hS.2.2 hd hlocks
theorem g_areturn {t i : Nat} {nm : String} (C : Cx p s m args c cc D ad cA nL own) (hlocks : meth.locks = false) (hr : meth.sig.returnType = some (.object nm)) (hd : decode cc pc = .ok (.areturn, 1)) (h0 : isU (.inr (.inr (t, i))) = false) (hk : K (.inr (.inr (t, i))) σ) : Gd p l e R s m args below meth c nL (MQ below (QcK D ad cA false K) args s 0 0 (AA ad)) D ad cA pc lv [.inr (.inr (t, i))] σ := by
  intro hl hs H locs ls hP hS hv
  exact W.aret C.1 C.2.1 hr (Or.inl ⟨nm, rfl⟩) (Or.inr ⟨_, rfl⟩) (fun t' ht _ => ⟨⟨.inr (.inr (t, i)), σ, by unfold ro; rw [if_neg (by rw [h0]; simp)]; rfl, h0, hk, hs.hd, by rw [ht]; exact hP⟩, hS.F ht⟩) hS.2.2 hd hlocks
theorem g_return (C : Cx p s m args c cc D ad cA nL own) (hlocks : meth.locks = false) (hr : meth.sig.returnType = none) (hd : decode cc pc = .ok (.return_, 1)) (hk : K unset σ) : Gd p l e R s m args below meth c nL (MQ below (QcK D ad cA true K) args s 0 0 (AA ad)) D ad cA pc lv [] σ := by
  intro hl hs H locs ls hP hS hv
  exact W.vret C.1 C.2.1 hr (fun t ht _ => ⟨⟨unset, σ, rfl, rfl, hk, Or.inl ⟨rfl, rfl⟩, by rw [ht]; exact hP⟩, hS.F ht⟩) hS.2.2 hd hlocks
end SND3
end
section
def FLo (o : Nat) : List (Nat × Nat × Nat × Nat) := (bif Nat.ble o 7 then (bif Nat.ble o 3 then (bif Nat.ble o 1 then (bif Nat.ble o 0 then [(101, 9, 1, 329), (94, 6, 1, 360), (52, 6, 7, 375), (58, 6, 8, 379), (97, 3, 0, 406), (48, 3, 1, 410), (11, 0, 0, 467), (17, 0, 1, 468), (21, 0, 2, 469), (70, 0, 3, 470), (73, 0, 4, 471), (128, 0, 5, 472), (24, 0, 6, 473), (131, 0, 7, 475), (134, 10, 0, 616)] else [(11, 1, 0, 565), (15, 1, 1, 567), (18, 1, 2, 570), (21, 1, 3, 573), (24, 1, 4, 576), (27, 1, 5, 579), (30, 1, 6, 582), (34, 1, 7, 584), (37, 1, 8, 587)]) else (bif Nat.ble o 2 then [(36, 8, 5, 223), (41, 8, 7, 226), (103, 8, 9, 231), (15, 2, 0, 288), (9, 2, 1, 289), (32, 2, 2, 290), (19, 2, 3, 291), (23, 2, 4, 292), (97, 3, 0, 405), (123, 3, 1, 412), (94, 1, 1, 569), (130, 1, 2, 572), (91, 1, 3, 574), (116, 1, 4, 577), (63, 1, 5, 581), (88, 1, 7, 585), (51, 1, 8, 588)] else [(86, 9, 1, 328), (79, 9, 2, 333), (42, 9, 3, 336), (89, 6, 1, 359), (138, 6, 4, 367), (141, 6, 5, 370), (76, 6, 7, 376), (116, 6, 8, 383), (12, 3, 0, 403), (21, 3, 1, 408), (25, 3, 2, 414), (29, 3, 3, 416), (48, 3, 4, 418), (32, 3, 5, 421), (36, 3, 6, 424), (51, 3, 7, 427), (54, 3, 8, 430), (57, 3, 9, 433), (60, 3, 10, 436), (39, 3, 11, 439)])) else (bif Nat.ble o 5 then (bif Nat.ble o 4 then [(31, 8, 5, 222), (41, 8, 7, 227), (118, 8, 9, 232), (9, 4, 0, 269), (15, 4, 1, 270), (24, 4, 2, 271), (28, 4, 3, 272), (130, 9, 2, 334), (89, 9, 3, 339), (109, 6, 8, 381), (85, 3, 0, 404), (105, 3, 1, 411), (138, 3, 4, 419), (76, 3, 5, 422), (82, 3, 6, 425)] else [(123, 6, 1, 358), (117, 6, 8, 380), (92, 3, 1, 409), (40, 3, 7, 428), (46, 3, 8, 431), (50, 3, 9, 434), (89, 3, 10, 437), (136, 3, 11, 440), (9, 5, 0, 518), (15, 5, 1, 519), (19, 5, 2, 520), (23, 5, 3, 521), (27, 5, 4, 522), (30, 5, 5, 524), (45, 5, 6, 526), (49, 5, 7, 528), (53, 5, 8, 530), (33, 5, 9, 532), (37, 5, 10, 534), (63, 1, 0, 566), (76, 1, 1, 568), (79, 1, 2, 571), (133, 1, 3, 575), (139, 1, 4, 578), (73, 1, 5, 580), (54, 1, 6, 583)]) else (bif Nat.ble o 6 then [(9, 6, 0, 356), (15, 6, 1, 357), (19, 6, 2, 362), (22, 6, 3, 364), (25, 6, 4, 366), (28, 6, 5, 369), (31, 6, 6, 372), (38, 6, 7, 374), (34, 6, 8, 378)] else [(36, 9, 2, 332), (41, 9, 3, 338), (9, 7, 0, 500), (15, 7, 1, 502), (18, 7, 2, 504)]))) else (bif Nat.ble o 11 then (bif Nat.ble o 9 then (bif Nat.ble o 8 then [(9, 8, 0, 214), (15, 8, 1, 215), (38, 8, 2, 216), (19, 8, 3, 218), (23, 8, 4, 220), (62, 8, 5, 224), (49, 8, 6, 225), (52, 8, 7, 228), (59, 8, 8, 229), (55, 8, 9, 230), (41, 8, 10, 233), (43, 8, 11, 234)] else [(9, 9, 0, 326), (15, 9, 1, 327), (19, 9, 2, 331), (28, 9, 3, 337)]) else (bif Nat.ble o 10 then [(9, 10, 0, 614), (28, 10, 1, 617), (21, 10, 2, 619), (25, 10, 3, 621)] else [(157, 8, 2, 217), (191, 8, 3, 219), (194, 8, 4, 221), (228, 9, 1, 330), (232, 9, 2, 335), (201, 9, 3, 340), (241, 6, 1, 361), (244, 6, 2, 363), (247, 6, 3, 365), (257, 6, 4, 368), (260, 6, 5, 371), (263, 6, 6, 373), (222, 6, 7, 377), (177, 6, 8, 382), (197, 3, 0, 407), (173, 3, 1, 413), (266, 3, 2, 415), (269, 3, 3, 417), (204, 3, 4, 420), (207, 3, 5, 423), (210, 3, 6, 426), (213, 3, 7, 429), (216, 3, 8, 432), (219, 3, 9, 435), (272, 3, 10, 438), (275, 3, 11, 441), (353, 0, 6, 474), (383, 0, 7, 476), (367, 7, 0, 501), (360, 7, 1, 503), (405, 5, 4, 523), (407, 5, 5, 525), (410, 5, 6, 527), (411, 5, 7, 529), (412, 5, 8, 531), (413, 5, 9, 533), (406, 5, 10, 535), (188, 1, 7, 586), (400, 1, 8, 589), (137, 10, 0, 615), (140, 10, 1, 618), (144, 10, 2, 620), (426, 10, 3, 622), (11, 11, 0, 632), (18, 11, 1, 633), (27, 11, 2, 634), (34, 11, 3, 635), (40, 11, 4, 636), (46, 11, 5, 637), (53, 11, 6, 638), (60, 11, 7, 639), (67, 11, 8, 640), (71, 11, 9, 641), (74, 11, 10, 642), (79, 11, 11, 643), (83, 11, 12, 644), (87, 11, 13, 645), (91, 11, 14, 646), (416, 11, 15, 647), (99, 11, 16, 648), (103, 11, 17, 649), (94, 11, 18, 650)])) else (bif Nat.ble o 13 then (bif Nat.ble o 12 then [(7, 12, 0, 1477), (13, 12, 1, 1478), (88, 12, 2, 1479), (91, 12, 3, 1480), (17, 12, 4, 1481), (21, 12, 5, 1482), (24, 12, 6, 1483), (27, 12, 7, 1484), (30, 12, 8, 1485), (34, 12, 9, 1486), (118, 12, 10, 1487), (124, 12, 11, 1488), (139, 12, 12, 1489), (133, 12, 13, 1490), (127, 12, 14, 1491), (136, 12, 15, 1492), (37, 12, 16, 1493), (41, 12, 17, 1494), (164, 12, 18, 1495), (167, 12, 19, 1496), (228, 12, 20, 1497), (44, 12, 21, 1498), (266, 12, 22, 1499), (269, 12, 23, 1500), (326, 12, 24, 1501), (329, 12, 25, 1502), (322, 12, 26, 1503), (47, 12, 27, 1504), (50, 12, 28, 1505), (392, 12, 29, 1506), (53, 12, 30, 1507), (56, 12, 31, 1508), (60, 12, 32, 1509), (421, 12, 33, 1510), (415, 12, 34, 1511), (63, 12, 35, 1512), (66, 12, 36, 1513), (429, 12, 37, 1514), (69, 12, 38, 1515), (72, 12, 39, 1516), (450, 12, 40, 1517), (463, 12, 41, 1518), (75, 12, 42, 1519), (78, 12, 43, 1520), (81, 12, 44, 1521), (480, 12, 45, 1522), (483, 12, 46, 1523)] else []) else (bif Nat.ble o 14 then [] else []))))
def MLo (o : Nat) : List (Nat × Nat × Nat) := (bif Nat.ble o 7 then (bif Nat.ble o 3 then (bif Nat.ble o 1 then (bif Nat.ble o 0 then [(28, 24, 1160), (32, 34, 1175), (36, 1, 1188), (40, 3, 1189), (44, 35, 1192), (61, 332, 1242), (66, 4, 1248), (76, 7, 1262), (80, 64, 1266), (84, 30, 1271), (106, 335, 1274), (111, 8, 1275), (114, 9, 1280), (124, 36, 1284), (140, 11, 1355), (143, 29, 1359)] else []) else (bif Nat.ble o 2 then [(27, 12, 919), (44, 16, 920), (55, 79, 924), (59, 14, 925), (66, 75, 929), (69, 82, 930), (48, 17, 931), (72, 18, 935), (85, 19, 939), (75, 22, 942), (133, 85, 946), (79, 21, 947), (127, 59, 951), (113, 83, 952), (82, 20, 953), (107, 88, 957), (119, 84, 958)] else [(45, 56, 803), (120, 35, 1026), (104, 32, 1030), (110, 29, 1034), (82, 27, 1038), (92, 28, 1042), (107, 33, 1050), (117, 91, 1054), (131, 36, 1064), (135, 63, 1068), (100, 90, 1130), (63, 86, 1164), (67, 57, 1169), (144, 333, 1205)])) else (bif Nat.ble o 5 then (bif Nat.ble o 4 then [(19, 23, 799), (37, 39, 807), (44, 40, 811), (65, 79, 815), (69, 75, 819), (72, 85, 820), (79, 82, 826), (47, 41, 830), (50, 42, 834), (94, 44, 838), (115, 80, 842), (122, 88, 846), (126, 59, 850), (98, 81, 854), (101, 87, 858), (53, 43, 862), (112, 58, 866), (56, 45, 877), (127, 83, 881), (59, 46, 887), (141, 25, 891), (62, 47, 895), (145, 62, 899)] else [(66, 49, 1412), (70, 50, 1416), (82, 51, 1420), (86, 34, 1425), (96, 60, 1426), (102, 61, 1427), (106, 52, 1428), (120, 53, 1432), (126, 334, 1437), (110, 54, 1438), (142, 55, 1442)]) else (bif Nat.ble o 6 then [(47, 61, 870), (63, 335, 1216), (68, 334, 1219), (59, 63, 1270), (75, 66, 1378)] else [(22, 68, 1297), (48, 70, 1316), (52, 72, 1338)]))) else (bif Nat.ble o 11 then (bif Nat.ble o 9 then (bif Nat.ble o 8 then [(46, 75, 779), (65, 76, 783), (68, 77, 787), (71, 78, 791), (74, 79, 825), (78, 80, 885)] else []) else (bif Nat.ble o 10 then [(15, 336, 721), (32, 95, 740)] else [(106, 162, 706), (110, 171, 710), (114, 161, 713), (117, 92, 717), (121, 160, 724), (125, 166, 732), (129, 94, 736), (133, 159, 748), (147, 93, 756), (160, 73, 767), (163, 74, 775), (166, 38, 795), (170, 12, 903), (182, 157, 907), (185, 15, 915), (225, 163, 974), (235, 89, 978), (238, 164, 990), (250, 60, 994), (253, 172, 999), (278, 158, 1014), (281, 34, 1022), (284, 61, 1080), (288, 173, 1085), (291, 174, 1086), (295, 62, 1091), (299, 25, 1096), (302, 26, 1101), (305, 29, 1121), (308, 30, 1126), (311, 31, 1142), (315, 178, 1146), (318, 179, 1151), (321, 1, 1156), (325, 2, 1184), (329, 37, 1201), (332, 65, 1212), (335, 165, 1226), (338, 4, 1230), (342, 5, 1238), (345, 332, 1249), (350, 6, 1258), (356, 67, 1293), (363, 69, 1312), (369, 71, 1328), (376, 167, 1347), (379, 10, 1351), (386, 176, 1364), (439, 175, 1367), (393, 168, 1387), (429, 336, 1391), (396, 169, 1392), (435, 170, 1396), (401, 48, 1407), (419, 24, 1457), (423, 13, 1458)])) else (bif Nat.ble o 13 then (bif Nat.ble o 12 then [(84, 180, 1473), (105, 189, 1636), (101, 184, 1639), (108, 192, 1647), (112, 190, 1651), (121, 198, 1667), (250, 206, 1679), (170, 202, 1683), (130, 199, 1687), (142, 200, 1691), (145, 201, 1694), (149, 335, 1698), (94, 185, 1699), (254, 225, 1703), (179, 204, 1708), (176, 205, 1714), (210, 209, 1718), (231, 220, 1722), (200, 232, 1726), (203, 216, 1729), (189, 210, 1733), (193, 212, 1737), (183, 211, 1741), (206, 208, 1745), (235, 221, 1749), (213, 233, 1753), (216, 215, 1756), (238, 222, 1760), (219, 218, 1764), (196, 217, 1768), (241, 223, 1772), (222, 234, 1776), (225, 219, 1779), (244, 224, 1783), (247, 207, 1787), (173, 203, 1791), (257, 214, 1795), (98, 186, 1799), (275, 230, 1807), (272, 229, 1811), (260, 227, 1815), (263, 228, 1819), (291, 244, 1827), (282, 241, 1831), (294, 235, 1839), (298, 245, 1843), (285, 243, 1847), (288, 239, 1851), (301, 236, 1859), (304, 237, 1867), (307, 187, 1879), (316, 253, 1887), (310, 242, 1891), (313, 252, 1895), (319, 254, 1903), (332, 258, 1915), (278, 196, 1928), (344, 263, 1931), (339, 262, 1935), (335, 261, 1939), (347, 265, 1947), (350, 267, 1955), (359, 278, 1993), (362, 276, 1997), (365, 277, 2001), (368, 281, 2013), (372, 334, 2030), (377, 238, 2035), (380, 287, 2039), (383, 286, 2043), (389, 289, 2051), (386, 240, 2055), (403, 294, 2067), (395, 292, 2071), (398, 293, 2074), (409, 298, 2086), (406, 297, 2090), (424, 303, 2102), (418, 301, 2106), (412, 302, 2110), (435, 309, 2134), (438, 311, 2139), (432, 310, 2143), (441, 314, 2155), (446, 188, 2168), (477, 325, 2181), (466, 322, 2185), (457, 320, 2189), (460, 321, 2193), (454, 319, 2197), (469, 323, 2202), (472, 324, 2206), (486, 329, 2222)] else []) else (bif Nat.ble o 14 then [] else []))))
def MNo (o : Nat) : List (Nat × Nat × Nat) := (bif Nat.ble o 7 then (bif Nat.ble o 3 then (bif Nat.ble o 1 then (bif Nat.ble o 0 then [(87, 173, 1272), (91, 177, 1273)] else []) else (bif Nat.ble o 2 then [] else [(96, 173, 1046), (113, 177, 1047), (124, 178, 1058), (128, 179, 1061)])) else (bif Nat.ble o 5 then (bif Nat.ble o 4 then [(134, 174, 886)] else [(59, 171, 1411), (113, 172, 1424)]) else (bif Nat.ble o 6 then [(55, 174, 874), (51, 173, 998), (71, 175, 1377)] else [(32, 174, 1302), (44, 173, 1303)]))) else (bif Nat.ble o 11 then (bif Nat.ble o 9 then (bif Nat.ble o 8 then [(82, 171, 824)] else [(32, 173, 982), (36, 174, 985)]) else (bif Nat.ble o 10 then [] else [(372, 72, 1335), (389, 66, 1374)])) else (bif Nat.ble o 13 then (bif Nat.ble o 12 then [] else []) else (bif Nat.ble o 14 then [] else []))))
def CKo (o : Nat) : List (Nat × Nat × Nat) := (bif Nat.ble o 7 then (bif Nat.ble o 3 then (bif Nat.ble o 1 then (bif Nat.ble o 0 then [] else []) else (bif Nat.ble o 2 then [] else [])) else (bif Nat.ble o 5 then (bif Nat.ble o 4 then [] else [(132, 65536, 1436)]) else (bif Nat.ble o 6 then [] else []))) else (bif Nat.ble o 11 then (bif Nat.ble o 9 then (bif Nat.ble o 8 then [] else []) else (bif Nat.ble o 10 then [] else [])) else (bif Nat.ble o 13 then (bif Nat.ble o 12 then [(148, 100000, 1697), (371, 1000000, 2029), (453, 65536, 2201)] else [(265, 1431655765, 1245), (266, 858993459, 1246), (267, 252645135, 1247)]) else (bif Nat.ble o 14 then [] else []))))
def CLo (o : Nat) : List (Nat × Nat × Nat) := (bif Nat.ble o 7 then (bif Nat.ble o 3 then (bif Nat.ble o 1 then (bif Nat.ble o 0 then [] else []) else (bif Nat.ble o 2 then [] else [])) else (bif Nat.ble o 5 then (bif Nat.ble o 4 then [] else []) else (bif Nat.ble o 6 then [] else []))) else (bif Nat.ble o 11 then (bif Nat.ble o 9 then (bif Nat.ble o 8 then [] else []) else (bif Nat.ble o 10 then [] else [])) else (bif Nat.ble o 13 then (bif Nat.ble o 12 then [(342, 99, 1927), (353, 20, 1983), (355, 16, 1988), (357, 300, 1996), (375, 60, 2042), (401, 3, 2066), (427, 4, 2138), (444, 7, 2167), (475, 9999, 2180)] else []) else (bif Nat.ble o 14 then [] else []))))
def CMo (o : Nat) : List (Nat × Nat × Nat) := (bif Nat.ble o 7 then (bif Nat.ble o 3 then (bif Nat.ble o 1 then (bif Nat.ble o 0 then [] else []) else (bif Nat.ble o 2 then [] else [])) else (bif Nat.ble o 5 then (bif Nat.ble o 4 then [] else []) else (bif Nat.ble o 6 then [] else []))) else (bif Nat.ble o 11 then (bif Nat.ble o 9 then (bif Nat.ble o 8 then [] else []) else (bif Nat.ble o 10 then [] else [])) else (bif Nat.ble o 13 then (bif Nat.ble o 12 then [(116, 1, 1658)] else []) else (bif Nat.ble o 14 then [] else []))))
def ACo (o : Nat) : List (Nat × Nat) := (bif Nat.ble o 7 then (bif Nat.ble o 3 then (bif Nat.ble o 1 then (bif Nat.ble o 0 then [(118, 1279)] else [(41, 1462)]) else (bif Nat.ble o 2 then [] else [(70, 1174)])) else (bif Nat.ble o 5 then (bif Nat.ble o 4 then [] else []) else (bif Nat.ble o 6 then [(41, 1173)] else [(26, 1301)]))) else (bif Nat.ble o 11 then (bif Nat.ble o 9 then (bif Nat.ble o 8 then [] else [(22, 1168)]) else (bif Nat.ble o 10 then [] else [(151, 760)])) else (bif Nat.ble o 13 then (bif Nat.ble o 12 then [] else []) else (bif Nat.ble o 14 then [] else []))))
set_option maxRecDepth 1000000 in
theorem FLo_ok : ∀ o, o < 16 → ∀ e ∈ FLo o, lw_tbl[e.2.2.2]? = some (Cond.fieldLink (RN o) e.1 (TT e.2.1 e.2.2.1).1 (TT e.2.1 e.2.2.1).2.1 (TT e.2.1 e.2.2.1).2.2.1)
  | 0, _ => List.map_inj_left.mp rfl
  | 1, _ => List.map_inj_left.mp rfl
  | 2, _ => List.map_inj_left.mp rfl
  | 3, _ => List.map_inj_left.mp rfl
  | 4, _ => List.map_inj_left.mp rfl
  | 5, _ => List.map_inj_left.mp rfl
  | 6, _ => List.map_inj_left.mp rfl
  | 7, _ => List.map_inj_left.mp rfl
  | 8, _ => List.map_inj_left.mp rfl
  | 9, _ => List.map_inj_left.mp rfl
  | 10, _ => List.map_inj_left.mp rfl
  | 11, _ => List.map_inj_left.mp rfl
  | 12, _ => List.map_inj_left.mp rfl
  | 13, _ => List.map_inj_left.mp rfl
  | 14, _ => List.map_inj_left.mp rfl
  | 15, _ => List.map_inj_left.mp rfl
  | n + 16, h => absurd h (by omega)
set_option maxRecDepth 1000000 in
theorem MLo_ok : ∀ o, o < 16 → ∀ e ∈ MLo o, lw_tbl[e.2.2]? = some (Cond.methodLink (RN o) e.1 (mn e.2.1))
  | 0, _ => List.map_inj_left.mp rfl
  | 1, _ => List.map_inj_left.mp rfl
  | 2, _ => List.map_inj_left.mp rfl
  | 3, _ => List.map_inj_left.mp rfl
  | 4, _ => List.map_inj_left.mp rfl
  | 5, _ => List.map_inj_left.mp rfl
  | 6, _ => List.map_inj_left.mp rfl
  | 7, _ => List.map_inj_left.mp rfl
  | 8, _ => List.map_inj_left.mp rfl
  | 9, _ => List.map_inj_left.mp rfl
  | 10, _ => List.map_inj_left.mp rfl
  | 11, _ => List.map_inj_left.mp rfl
  | 12, _ => List.map_inj_left.mp rfl
  | 13, _ => List.map_inj_left.mp rfl
  | 14, _ => List.map_inj_left.mp rfl
  | 15, _ => List.map_inj_left.mp rfl
  | n + 16, h => absurd h (by omega)
set_option maxRecDepth 1000000 in
theorem MNo_ok : ∀ o, o < 16 → ∀ e ∈ MNo o, lw_tbl[e.2.2]? = some (Cond.methodLinkNest (RN o) e.1 (mn e.2.1) "SilentTurn")
  | 0, _ => List.map_inj_left.mp rfl
  | 1, _ => List.map_inj_left.mp rfl
  | 2, _ => List.map_inj_left.mp rfl
  | 3, _ => List.map_inj_left.mp rfl
  | 4, _ => List.map_inj_left.mp rfl
  | 5, _ => List.map_inj_left.mp rfl
  | 6, _ => List.map_inj_left.mp rfl
  | 7, _ => List.map_inj_left.mp rfl
  | 8, _ => List.map_inj_left.mp rfl
  | 9, _ => List.map_inj_left.mp rfl
  | 10, _ => List.map_inj_left.mp rfl
  | 11, _ => List.map_inj_left.mp rfl
  | 12, _ => List.map_inj_left.mp rfl
  | 13, _ => List.map_inj_left.mp rfl
  | 14, _ => List.map_inj_left.mp rfl
  | 15, _ => List.map_inj_left.mp rfl
  | n + 16, h => absurd h (by omega)
set_option maxRecDepth 1000000 in
theorem CKo_ok : ∀ o, o < 16 → ∀ e ∈ CKo o, lw_tbl[e.2.2]? = some (Cond.constant (RN o) e.1 (Int32.ofInt (e.2.1 : Int)))
  | 0, _ => List.map_inj_left.mp rfl
  | 1, _ => List.map_inj_left.mp rfl
  | 2, _ => List.map_inj_left.mp rfl
  | 3, _ => List.map_inj_left.mp rfl
  | 4, _ => List.map_inj_left.mp rfl
  | 5, _ => List.map_inj_left.mp rfl
  | 6, _ => List.map_inj_left.mp rfl
  | 7, _ => List.map_inj_left.mp rfl
  | 8, _ => List.map_inj_left.mp rfl
  | 9, _ => List.map_inj_left.mp rfl
  | 10, _ => List.map_inj_left.mp rfl
  | 11, _ => List.map_inj_left.mp rfl
  | 12, _ => List.map_inj_left.mp rfl
  | 13, _ => List.map_inj_left.mp rfl
  | 14, _ => List.map_inj_left.mp rfl
  | 15, _ => List.map_inj_left.mp rfl
  | n + 16, h => absurd h (by omega)
set_option maxRecDepth 1000000 in
theorem CLo_ok : ∀ o, o < 16 → ∀ e ∈ CLo o, lw_tbl[e.2.2]? = some (Cond.constantLong (RN o) e.1 (Int64.ofInt (e.2.1 : Int)))
  | 0, _ => List.map_inj_left.mp rfl
  | 1, _ => List.map_inj_left.mp rfl
  | 2, _ => List.map_inj_left.mp rfl
  | 3, _ => List.map_inj_left.mp rfl
  | 4, _ => List.map_inj_left.mp rfl
  | 5, _ => List.map_inj_left.mp rfl
  | 6, _ => List.map_inj_left.mp rfl
  | 7, _ => List.map_inj_left.mp rfl
  | 8, _ => List.map_inj_left.mp rfl
  | 9, _ => List.map_inj_left.mp rfl
  | 10, _ => List.map_inj_left.mp rfl
  | 11, _ => List.map_inj_left.mp rfl
  | 12, _ => List.map_inj_left.mp rfl
  | 13, _ => List.map_inj_left.mp rfl
  | 14, _ => List.map_inj_left.mp rfl
  | 15, _ => List.map_inj_left.mp rfl
  | n + 16, h => absurd h (by omega)
set_option maxRecDepth 1000000 in
theorem CMo_ok : ∀ o, o < 16 → ∀ e ∈ CMo o, lw_tbl[e.2.2]? = some (Cond.constantLong (RN o) e.1 (Int64.ofInt (-(e.2.1 : Int))))
  | 0, _ => List.map_inj_left.mp rfl
  | 1, _ => List.map_inj_left.mp rfl
  | 2, _ => List.map_inj_left.mp rfl
  | 3, _ => List.map_inj_left.mp rfl
  | 4, _ => List.map_inj_left.mp rfl
  | 5, _ => List.map_inj_left.mp rfl
  | 6, _ => List.map_inj_left.mp rfl
  | 7, _ => List.map_inj_left.mp rfl
  | 8, _ => List.map_inj_left.mp rfl
  | 9, _ => List.map_inj_left.mp rfl
  | 10, _ => List.map_inj_left.mp rfl
  | 11, _ => List.map_inj_left.mp rfl
  | 12, _ => List.map_inj_left.mp rfl
  | 13, _ => List.map_inj_left.mp rfl
  | 14, _ => List.map_inj_left.mp rfl
  | 15, _ => List.map_inj_left.mp rfl
  | n + 16, h => absurd h (by omega)
set_option maxRecDepth 1000000 in
theorem ACo_ok : ∀ o, o < 16 → ∀ e ∈ ACo o, lw_tbl[e.2]? = some (Cond.methodLink (RN o) e.1 arraycopyName)
  | 0, _ => List.map_inj_left.mp rfl
  | 1, _ => List.map_inj_left.mp rfl
  | 2, _ => List.map_inj_left.mp rfl
  | 3, _ => List.map_inj_left.mp rfl
  | 4, _ => List.map_inj_left.mp rfl
  | 5, _ => List.map_inj_left.mp rfl
  | 6, _ => List.map_inj_left.mp rfl
  | 7, _ => List.map_inj_left.mp rfl
  | 8, _ => List.map_inj_left.mp rfl
  | 9, _ => List.map_inj_left.mp rfl
  | 10, _ => List.map_inj_left.mp rfl
  | 11, _ => List.map_inj_left.mp rfl
  | 12, _ => List.map_inj_left.mp rfl
  | 13, _ => List.map_inj_left.mp rfl
  | 14, _ => List.map_inj_left.mp rfl
  | 15, _ => List.map_inj_left.mp rfl
  | n + 16, h => absurd h (by omega)
def npar (y : Nat) : Nat := (bif Nat.ble y 168 then (bif Nat.ble y 84 then (bif Nat.ble y 42 then (bif Nat.ble y 21 then (bif Nat.ble y 10 then (bif Nat.ble y 5 then (bif Nat.ble y 2 then (bif Nat.ble y 1 then (bif Nat.ble y 0 then 2 else 2) else 2) else (bif Nat.ble y 4 then (bif Nat.ble y 3 then 2 else 3) else 2)) else (bif Nat.ble y 8 then (bif Nat.ble y 7 then (bif Nat.ble y 6 then 2 else 1) else 1) else (bif Nat.ble y 9 then 3 else 4))) else (bif Nat.ble y 16 then (bif Nat.ble y 13 then (bif Nat.ble y 12 then (bif Nat.ble y 11 then 1 else 0) else 1) else (bif Nat.ble y 15 then (bif Nat.ble y 14 then 1 else 2) else 0)) else (bif Nat.ble y 19 then (bif Nat.ble y 18 then (bif Nat.ble y 17 then 0 else 1) else 1) else (bif Nat.ble y 20 then 1 else 1)))) else (bif Nat.ble y 32 then (bif Nat.ble y 27 then (bif Nat.ble y 24 then (bif Nat.ble y 23 then (bif Nat.ble y 22 then 3 else 0) else 1) else (bif Nat.ble y 26 then (bif Nat.ble y 25 then 2 else 1) else 1)) else (bif Nat.ble y 30 then (bif Nat.ble y 29 then (bif Nat.ble y 28 then 0 else 2) else 1) else (bif Nat.ble y 31 then 0 else 0))) else (bif Nat.ble y 37 then (bif Nat.ble y 35 then (bif Nat.ble y 34 then (bif Nat.ble y 33 then 0 else 1) else 0) else (bif Nat.ble y 36 then 2 else 1)) else (bif Nat.ble y 40 then (bif Nat.ble y 39 then (bif Nat.ble y 38 then 1 else 0) else 0) else (bif Nat.ble y 41 then 0 else 0))))) else (bif Nat.ble y 63 then (bif Nat.ble y 53 then (bif Nat.ble y 48 then (bif Nat.ble y 45 then (bif Nat.ble y 44 then (bif Nat.ble y 43 then 0 else 0) else 0) else (bif Nat.ble y 47 then (bif Nat.ble y 46 then 0 else 0) else 3)) else (bif Nat.ble y 51 then (bif Nat.ble y 50 then (bif Nat.ble y 49 then 1 else 1) else 1) else (bif Nat.ble y 52 then 0 else 1))) else (bif Nat.ble y 58 then (bif Nat.ble y 56 then (bif Nat.ble y 55 then (bif Nat.ble y 54 then 1 else 3) else 0) else (bif Nat.ble y 57 then 1 else 4)) else (bif Nat.ble y 61 then (bif Nat.ble y 60 then (bif Nat.ble y 59 then 1 else 1) else 2) else (bif Nat.ble y 62 then 3 else 2)))) else (bif Nat.ble y 74 then (bif Nat.ble y 69 then (bif Nat.ble y 66 then (bif Nat.ble y 65 then (bif Nat.ble y 64 then 2 else 0) else 2) else (bif Nat.ble y 68 then (bif Nat.ble y 67 then 2 else 4) else 1)) else (bif Nat.ble y 72 then (bif Nat.ble y 71 then (bif Nat.ble y 70 then 3 else 2) else 3) else (bif Nat.ble y 73 then 1 else 1))) else (bif Nat.ble y 79 then (bif Nat.ble y 77 then (bif Nat.ble y 76 then (bif Nat.ble y 75 then 0 else 0) else 0) else (bif Nat.ble y 78 then 0 else 1)) else (bif Nat.ble y 82 then (bif Nat.ble y 81 then (bif Nat.ble y 80 then 0 else 1) else 0) else (bif Nat.ble y 83 then 1 else 0)))))) else (bif Nat.ble y 126 then (bif Nat.ble y 105 then (bif Nat.ble y 95 then (bif Nat.ble y 90 then (bif Nat.ble y 87 then (bif Nat.ble y 86 then (bif Nat.ble y 85 then 2 else 1) else 2) else (bif Nat.ble y 89 then (bif Nat.ble y 88 then 1 else 1) else 2)) else (bif Nat.ble y 93 then (bif Nat.ble y 92 then (bif Nat.ble y 91 then 2 else 2) else 2) else (bif Nat.ble y 94 then 2 else 1))) else (bif Nat.ble y 100 then (bif Nat.ble y 98 then (bif Nat.ble y 97 then (bif Nat.ble y 96 then 0 else 0) else 0) else (bif Nat.ble y 99 then 3 else 3)) else (bif Nat.ble y 103 then (bif Nat.ble y 102 then (bif Nat.ble y 101 then 2 else 5) else 5) else (bif Nat.ble y 104 then 1 else 1)))) else (bif Nat.ble y 116 then (bif Nat.ble y 111 then (bif Nat.ble y 108 then (bif Nat.ble y 107 then (bif Nat.ble y 106 then 1 else 1) else 2) else (bif Nat.ble y 110 then (bif Nat.ble y 109 then 2 else 2) else 0)) else (bif Nat.ble y 114 then (bif Nat.ble y 113 then (bif Nat.ble y 112 then 0 else 1) else 1) else (bif Nat.ble y 115 then 2 else 3))) else (bif Nat.ble y 121 then (bif Nat.ble y 119 then (bif Nat.ble y 118 then (bif Nat.ble y 117 then 3 else 2) else 1) else (bif Nat.ble y 120 then 2 else 2)) else (bif Nat.ble y 124 then (bif Nat.ble y 123 then (bif Nat.ble y 122 then 2 else 2) else 1) else (bif Nat.ble y 125 then 1 else 0))))) else (bif Nat.ble y 147 then (bif Nat.ble y 137 then (bif Nat.ble y 132 then (bif Nat.ble y 129 then (bif Nat.ble y 128 then (bif Nat.ble y 127 then 0 else 1) else 2) else (bif Nat.ble y 131 then (bif Nat.ble y 130 then 0 else 1) else 1)) else (bif Nat.ble y 135 then (bif Nat.ble y 134 then (bif Nat.ble y 133 then 0 else 2) else 1) else (bif Nat.ble y 136 then 1 else 1))) else (bif Nat.ble y 142 then (bif Nat.ble y 140 then (bif Nat.ble y 139 then (bif Nat.ble y 138 then 3 else 1) else 2) else (bif Nat.ble y 141 then 0 else 1)) else (bif Nat.ble y 145 then (bif Nat.ble y 144 then (bif Nat.ble y 143 then 1 else 1) else 1) else (bif Nat.ble y 146 then 2 else 3)))) else (bif Nat.ble y 158 then (bif Nat.ble y 153 then (bif Nat.ble y 150 then (bif Nat.ble y 149 then (bif Nat.ble y 148 then 1 else 1) else 1) else (bif Nat.ble y 152 then (bif Nat.ble y 151 then 1 else 1) else 1)) else (bif Nat.ble y 156 then (bif Nat.ble y 155 then (bif Nat.ble y 154 then 2 else 0) else 0) else (bif Nat.ble y 157 then 1 else 1))) else (bif Nat.ble y 163 then (bif Nat.ble y 161 then (bif Nat.ble y 160 then (bif Nat.ble y 159 then 1 else 0) else 1) else (bif Nat.ble y 162 then 1 else 1)) else (bif Nat.ble y 166 then (bif Nat.ble y 165 then (bif Nat.ble y 164 then 1 else 1) else 2) else (bif Nat.ble y 167 then 2 else 0))))))) else (bif Nat.ble y 252 then (bif Nat.ble y 210 then (bif Nat.ble y 189 then (bif Nat.ble y 179 then (bif Nat.ble y 174 then (bif Nat.ble y 171 then (bif Nat.ble y 170 then (bif Nat.ble y 169 then 2 else 2) else 3) else (bif Nat.ble y 173 then (bif Nat.ble y 172 then 1 else 2) else 3)) else (bif Nat.ble y 177 then (bif Nat.ble y 176 then (bif Nat.ble y 175 then 1 else 1) else 2) else (bif Nat.ble y 178 then 1 else 1))) else (bif Nat.ble y 184 then (bif Nat.ble y 182 then (bif Nat.ble y 181 then (bif Nat.ble y 180 then 1 else 0) else 0) else (bif Nat.ble y 183 then 0 else 1)) else (bif Nat.ble y 187 then (bif Nat.ble y 186 then (bif Nat.ble y 185 then 1 else 1) else 1) else (bif Nat.ble y 188 then 2 else 1)))) else (bif Nat.ble y 200 then (bif Nat.ble y 195 then (bif Nat.ble y 192 then (bif Nat.ble y 191 then (bif Nat.ble y 190 then 2 else 3) else 2) else (bif Nat.ble y 194 then (bif Nat.ble y 193 then 3 else 2) else 5)) else (bif Nat.ble y 198 then (bif Nat.ble y 197 then (bif Nat.ble y 196 then 3 else 5) else 1) else (bif Nat.ble y 199 then 1 else 1))) else (bif Nat.ble y 205 then (bif Nat.ble y 203 then (bif Nat.ble y 202 then (bif Nat.ble y 201 then 1 else 0) else 1) else (bif Nat.ble y 204 then 1 else 1)) else (bif Nat.ble y 208 then (bif Nat.ble y 207 then (bif Nat.ble y 206 then 2 else 1) else 2) else (bif Nat.ble y 209 then 3 else 1))))) else (bif Nat.ble y 231 then (bif Nat.ble y 221 then (bif Nat.ble y 216 then (bif Nat.ble y 213 then (bif Nat.ble y 212 then (bif Nat.ble y 211 then 0 else 2) else 1) else (bif Nat.ble y 215 then (bif Nat.ble y 214 then 1 else 1) else 3)) else (bif Nat.ble y 219 then (bif Nat.ble y 218 then (bif Nat.ble y 217 then 3 else 1) else 1) else (bif Nat.ble y 220 then 0 else 0))) else (bif Nat.ble y 226 then (bif Nat.ble y 224 then (bif Nat.ble y 223 then (bif Nat.ble y 222 then 0 else 0) else 0) else (bif Nat.ble y 225 then 0 else 1)) else (bif Nat.ble y 229 then (bif Nat.ble y 228 then (bif Nat.ble y 227 then 1 else 1) else 2) else (bif Nat.ble y 230 then 0 else 1)))) else (bif Nat.ble y 242 then (bif Nat.ble y 237 then (bif Nat.ble y 234 then (bif Nat.ble y 233 then (bif Nat.ble y 232 then 1 else 1) else 1) else (bif Nat.ble y 236 then (bif Nat.ble y 235 then 1 else 1) else 1)) else (bif Nat.ble y 240 then (bif Nat.ble y 239 then (bif Nat.ble y 238 then 1 else 2) else 1) else (bif Nat.ble y 241 then 2 else 1))) else (bif Nat.ble y 247 then (bif Nat.ble y 245 then (bif Nat.ble y 244 then (bif Nat.ble y 243 then 1 else 0) else 1) else (bif Nat.ble y 246 then 1 else 2)) else (bif Nat.ble y 250 then (bif Nat.ble y 249 then (bif Nat.ble y 248 then 2 else 2) else 0) else (bif Nat.ble y 251 then 0 else 1)))))) else (bif Nat.ble y 294 then (bif Nat.ble y 273 then (bif Nat.ble y 263 then (bif Nat.ble y 258 then (bif Nat.ble y 255 then (bif Nat.ble y 254 then (bif Nat.ble y 253 then 2 else 1) else 2) else (bif Nat.ble y 257 then (bif Nat.ble y 256 then 1 else 1) else 0)) else (bif Nat.ble y 261 then (bif Nat.ble y 260 then (bif Nat.ble y 259 then 0 else 0) else 2) else (bif Nat.ble y 262 then 0 else 1))) else (bif Nat.ble y 268 then (bif Nat.ble y 266 then (bif Nat.ble y 265 then (bif Nat.ble y 264 then 1 else 1) else 1) else (bif Nat.ble y 267 then 2 else 2)) else (bif Nat.ble y 271 then (bif Nat.ble y 270 then (bif Nat.ble y 269 then 3 else 3) else 2) else (bif Nat.ble y 272 then 1 else 2)))) else (bif Nat.ble y 284 then (bif Nat.ble y 279 then (bif Nat.ble y 276 then (bif Nat.ble y 275 then (bif Nat.ble y 274 then 2 else 2) else 1) else (bif Nat.ble y 278 then (bif Nat.ble y 277 then 1 else 1) else 1)) else (bif Nat.ble y 282 then (bif Nat.ble y 281 then (bif Nat.ble y 280 then 2 else 1) else 0) else (bif Nat.ble y 283 then 1 else 1))) else (bif Nat.ble y 289 then (bif Nat.ble y 287 then (bif Nat.ble y 286 then (bif Nat.ble y 285 then 0 else 2) else 1) else (bif Nat.ble y 288 then 2 else 1)) else (bif Nat.ble y 292 then (bif Nat.ble y 291 then (bif Nat.ble y 290 then 1 else 1) else 1) else (bif Nat.ble y 293 then 0 else 1))))) else (bif Nat.ble y 315 then (bif Nat.ble y 305 then (bif Nat.ble y 300 then (bif Nat.ble y 297 then (bif Nat.ble y 296 then (bif Nat.ble y 295 then 1 else 3) else 0) else (bif Nat.ble y 299 then (bif Nat.ble y 298 then 1 else 1) else 2)) else (bif Nat.ble y 303 then (bif Nat.ble y 302 then (bif Nat.ble y 301 then 1 else 1) else 0) else (bif Nat.ble y 304 then 0 else 1))) else (bif Nat.ble y 310 then (bif Nat.ble y 308 then (bif Nat.ble y 307 then (bif Nat.ble y 306 then 1 else 1) else 1) else (bif Nat.ble y 309 then 2 else 1)) else (bif Nat.ble y 313 then (bif Nat.ble y 312 then (bif Nat.ble y 311 then 2 else 2) else 3) else (bif Nat.ble y 314 then 1 else 1)))) else (bif Nat.ble y 326 then (bif Nat.ble y 321 then (bif Nat.ble y 318 then (bif Nat.ble y 317 then (bif Nat.ble y 316 then 1 else 1) else 1) else (bif Nat.ble y 320 then (bif Nat.ble y 319 then 1 else 1) else 0)) else (bif Nat.ble y 324 then (bif Nat.ble y 323 then (bif Nat.ble y 322 then 1 else 1) else 1) else (bif Nat.ble y 325 then 1 else 1))) else (bif Nat.ble y 331 then (bif Nat.ble y 329 then (bif Nat.ble y 328 then (bif Nat.ble y 327 then 1 else 2) else 2) else (bif Nat.ble y 330 then 0 else 0)) else (bif Nat.ble y 334 then (bif Nat.ble y 333 then (bif Nat.ble y 332 then 1 else 2) else 2) else (bif Nat.ble y 335 then 2 else 2))))))))
def isSt (y : Nat) : Bool := (bif Nat.ble y 168 then (bif Nat.ble y 84 then (bif Nat.ble y 42 then (bif Nat.ble y 21 then (bif Nat.ble y 10 then (bif Nat.ble y 5 then (bif Nat.ble y 2 then (bif Nat.ble y 1 then (bif Nat.ble y 0 then false else false) else false) else (bif Nat.ble y 4 then (bif Nat.ble y 3 then true else false) else false)) else (bif Nat.ble y 8 then (bif Nat.ble y 7 then (bif Nat.ble y 6 then false else false) else false) else (bif Nat.ble y 9 then false else false))) else (bif Nat.ble y 16 then (bif Nat.ble y 13 then (bif Nat.ble y 12 then (bif Nat.ble y 11 then false else false) else false) else (bif Nat.ble y 15 then (bif Nat.ble y 14 then false else false) else false)) else (bif Nat.ble y 19 then (bif Nat.ble y 18 then (bif Nat.ble y 17 then false else false) else true) else (bif Nat.ble y 20 then false else false)))) else (bif Nat.ble y 32 then (bif Nat.ble y 27 then (bif Nat.ble y 24 then (bif Nat.ble y 23 then (bif Nat.ble y 22 then false else false) else false) else (bif Nat.ble y 26 then (bif Nat.ble y 25 then false else false) else false)) else (bif Nat.ble y 30 then (bif Nat.ble y 29 then (bif Nat.ble y 28 then false else false) else false) else (bif Nat.ble y 31 then false else false))) else (bif Nat.ble y 37 then (bif Nat.ble y 35 then (bif Nat.ble y 34 then (bif Nat.ble y 33 then false else false) else false) else (bif Nat.ble y 36 then false else false)) else (bif Nat.ble y 40 then (bif Nat.ble y 39 then (bif Nat.ble y 38 then false else false) else false) else (bif Nat.ble y 41 then false else false))))) else (bif Nat.ble y 63 then (bif Nat.ble y 53 then (bif Nat.ble y 48 then (bif Nat.ble y 45 then (bif Nat.ble y 44 then (bif Nat.ble y 43 then false else false) else false) else (bif Nat.ble y 47 then (bif Nat.ble y 46 then false else false) else false)) else (bif Nat.ble y 51 then (bif Nat.ble y 50 then (bif Nat.ble y 49 then false else false) else false) else (bif Nat.ble y 52 then false else false))) else (bif Nat.ble y 58 then (bif Nat.ble y 56 then (bif Nat.ble y 55 then (bif Nat.ble y 54 then false else true) else false) else (bif Nat.ble y 57 then false else false)) else (bif Nat.ble y 61 then (bif Nat.ble y 60 then (bif Nat.ble y 59 then false else false) else false) else (bif Nat.ble y 62 then false else false)))) else (bif Nat.ble y 74 then (bif Nat.ble y 69 then (bif Nat.ble y 66 then (bif Nat.ble y 65 then (bif Nat.ble y 64 then false else false) else true) else (bif Nat.ble y 68 then (bif Nat.ble y 67 then false else false) else false)) else (bif Nat.ble y 72 then (bif Nat.ble y 71 then (bif Nat.ble y 70 then false else true) else true) else (bif Nat.ble y 73 then false else false))) else (bif Nat.ble y 79 then (bif Nat.ble y 77 then (bif Nat.ble y 76 then (bif Nat.ble y 75 then false else false) else false) else (bif Nat.ble y 78 then false else false)) else (bif Nat.ble y 82 then (bif Nat.ble y 81 then (bif Nat.ble y 80 then false else false) else false) else (bif Nat.ble y 83 then false else false)))))) else (bif Nat.ble y 126 then (bif Nat.ble y 105 then (bif Nat.ble y 95 then (bif Nat.ble y 90 then (bif Nat.ble y 87 then (bif Nat.ble y 86 then (bif Nat.ble y 85 then false else false) else false) else (bif Nat.ble y 89 then (bif Nat.ble y 88 then false else false) else false)) else (bif Nat.ble y 93 then (bif Nat.ble y 92 then (bif Nat.ble y 91 then false else false) else false) else (bif Nat.ble y 94 then false else false))) else (bif Nat.ble y 100 then (bif Nat.ble y 98 then (bif Nat.ble y 97 then (bif Nat.ble y 96 then false else false) else false) else (bif Nat.ble y 99 then false else false)) else (bif Nat.ble y 103 then (bif Nat.ble y 102 then (bif Nat.ble y 101 then false else false) else false) else (bif Nat.ble y 104 then false else false)))) else (bif Nat.ble y 116 then (bif Nat.ble y 111 then (bif Nat.ble y 108 then (bif Nat.ble y 107 then (bif Nat.ble y 106 then false else false) else false) else (bif Nat.ble y 110 then (bif Nat.ble y 109 then false else false) else false)) else (bif Nat.ble y 114 then (bif Nat.ble y 113 then (bif Nat.ble y 112 then false else false) else false) else (bif Nat.ble y 115 then false else false))) else (bif Nat.ble y 121 then (bif Nat.ble y 119 then (bif Nat.ble y 118 then (bif Nat.ble y 117 then false else false) else false) else (bif Nat.ble y 120 then false else false)) else (bif Nat.ble y 124 then (bif Nat.ble y 123 then (bif Nat.ble y 122 then false else false) else false) else (bif Nat.ble y 125 then false else false))))) else (bif Nat.ble y 147 then (bif Nat.ble y 137 then (bif Nat.ble y 132 then (bif Nat.ble y 129 then (bif Nat.ble y 128 then (bif Nat.ble y 127 then false else false) else false) else (bif Nat.ble y 131 then (bif Nat.ble y 130 then false else false) else false)) else (bif Nat.ble y 135 then (bif Nat.ble y 134 then (bif Nat.ble y 133 then false else false) else false) else (bif Nat.ble y 136 then false else false))) else (bif Nat.ble y 142 then (bif Nat.ble y 140 then (bif Nat.ble y 139 then (bif Nat.ble y 138 then false else false) else false) else (bif Nat.ble y 141 then false else false)) else (bif Nat.ble y 145 then (bif Nat.ble y 144 then (bif Nat.ble y 143 then false else false) else false) else (bif Nat.ble y 146 then false else false)))) else (bif Nat.ble y 158 then (bif Nat.ble y 153 then (bif Nat.ble y 150 then (bif Nat.ble y 149 then (bif Nat.ble y 148 then false else false) else false) else (bif Nat.ble y 152 then (bif Nat.ble y 151 then false else false) else false)) else (bif Nat.ble y 156 then (bif Nat.ble y 155 then (bif Nat.ble y 154 then false else false) else false) else (bif Nat.ble y 157 then false else false))) else (bif Nat.ble y 163 then (bif Nat.ble y 161 then (bif Nat.ble y 160 then (bif Nat.ble y 159 then false else false) else false) else (bif Nat.ble y 162 then false else false)) else (bif Nat.ble y 166 then (bif Nat.ble y 165 then (bif Nat.ble y 164 then false else false) else false) else (bif Nat.ble y 167 then false else false))))))) else (bif Nat.ble y 252 then (bif Nat.ble y 210 then (bif Nat.ble y 189 then (bif Nat.ble y 179 then (bif Nat.ble y 174 then (bif Nat.ble y 171 then (bif Nat.ble y 170 then (bif Nat.ble y 169 then false else true) else true) else (bif Nat.ble y 173 then (bif Nat.ble y 172 then true else true) else true)) else (bif Nat.ble y 177 then (bif Nat.ble y 176 then (bif Nat.ble y 175 then true else true) else true) else (bif Nat.ble y 178 then true else true))) else (bif Nat.ble y 184 then (bif Nat.ble y 182 then (bif Nat.ble y 181 then (bif Nat.ble y 180 then false else false) else false) else (bif Nat.ble y 183 then false else false)) else (bif Nat.ble y 187 then (bif Nat.ble y 186 then (bif Nat.ble y 185 then false else false) else false) else (bif Nat.ble y 188 then false else true)))) else (bif Nat.ble y 200 then (bif Nat.ble y 195 then (bif Nat.ble y 192 then (bif Nat.ble y 191 then (bif Nat.ble y 190 then true else false) else false) else (bif Nat.ble y 194 then (bif Nat.ble y 193 then false else false) else false)) else (bif Nat.ble y 198 then (bif Nat.ble y 197 then (bif Nat.ble y 196 then true else false) else false) else (bif Nat.ble y 199 then false else true))) else (bif Nat.ble y 205 then (bif Nat.ble y 203 then (bif Nat.ble y 202 then (bif Nat.ble y 201 then true else false) else false) else (bif Nat.ble y 204 then false else false)) else (bif Nat.ble y 208 then (bif Nat.ble y 207 then (bif Nat.ble y 206 then false else false) else false) else (bif Nat.ble y 209 then false else false))))) else (bif Nat.ble y 231 then (bif Nat.ble y 221 then (bif Nat.ble y 216 then (bif Nat.ble y 213 then (bif Nat.ble y 212 then (bif Nat.ble y 211 then false else false) else false) else (bif Nat.ble y 215 then (bif Nat.ble y 214 then false else false) else false)) else (bif Nat.ble y 219 then (bif Nat.ble y 218 then (bif Nat.ble y 217 then false else false) else false) else (bif Nat.ble y 220 then false else false))) else (bif Nat.ble y 226 then (bif Nat.ble y 224 then (bif Nat.ble y 223 then (bif Nat.ble y 222 then false else false) else false) else (bif Nat.ble y 225 then false else false)) else (bif Nat.ble y 229 then (bif Nat.ble y 228 then (bif Nat.ble y 227 then false else false) else false) else (bif Nat.ble y 230 then false else false)))) else (bif Nat.ble y 242 then (bif Nat.ble y 237 then (bif Nat.ble y 234 then (bif Nat.ble y 233 then (bif Nat.ble y 232 then true else true) else true) else (bif Nat.ble y 236 then (bif Nat.ble y 235 then false else false) else false)) else (bif Nat.ble y 240 then (bif Nat.ble y 239 then (bif Nat.ble y 238 then false else false) else true) else (bif Nat.ble y 241 then false else false))) else (bif Nat.ble y 247 then (bif Nat.ble y 245 then (bif Nat.ble y 244 then (bif Nat.ble y 243 then false else false) else false) else (bif Nat.ble y 246 then false else false)) else (bif Nat.ble y 250 then (bif Nat.ble y 249 then (bif Nat.ble y 248 then false else false) else false) else (bif Nat.ble y 251 then false else false)))))) else (bif Nat.ble y 294 then (bif Nat.ble y 273 then (bif Nat.ble y 263 then (bif Nat.ble y 258 then (bif Nat.ble y 255 then (bif Nat.ble y 254 then (bif Nat.ble y 253 then false else false) else false) else (bif Nat.ble y 257 then (bif Nat.ble y 256 then false else false) else false)) else (bif Nat.ble y 261 then (bif Nat.ble y 260 then (bif Nat.ble y 259 then false else false) else false) else (bif Nat.ble y 262 then false else false))) else (bif Nat.ble y 268 then (bif Nat.ble y 266 then (bif Nat.ble y 265 then (bif Nat.ble y 264 then false else false) else false) else (bif Nat.ble y 267 then false else false)) else (bif Nat.ble y 271 then (bif Nat.ble y 270 then (bif Nat.ble y 269 then false else false) else false) else (bif Nat.ble y 272 then false else false)))) else (bif Nat.ble y 284 then (bif Nat.ble y 279 then (bif Nat.ble y 276 then (bif Nat.ble y 275 then (bif Nat.ble y 274 then false else false) else false) else (bif Nat.ble y 278 then (bif Nat.ble y 277 then false else true) else false)) else (bif Nat.ble y 282 then (bif Nat.ble y 281 then (bif Nat.ble y 280 then false else false) else false) else (bif Nat.ble y 283 then false else false))) else (bif Nat.ble y 289 then (bif Nat.ble y 287 then (bif Nat.ble y 286 then (bif Nat.ble y 285 then false else false) else true) else (bif Nat.ble y 288 then false else false)) else (bif Nat.ble y 292 then (bif Nat.ble y 291 then (bif Nat.ble y 290 then false else false) else true) else (bif Nat.ble y 293 then false else false))))) else (bif Nat.ble y 315 then (bif Nat.ble y 305 then (bif Nat.ble y 300 then (bif Nat.ble y 297 then (bif Nat.ble y 296 then (bif Nat.ble y 295 then false else false) else false) else (bif Nat.ble y 299 then (bif Nat.ble y 298 then false else false) else false)) else (bif Nat.ble y 303 then (bif Nat.ble y 302 then (bif Nat.ble y 301 then false else false) else false) else (bif Nat.ble y 304 then false else false))) else (bif Nat.ble y 310 then (bif Nat.ble y 308 then (bif Nat.ble y 307 then (bif Nat.ble y 306 then false else false) else false) else (bif Nat.ble y 309 then false else false)) else (bif Nat.ble y 313 then (bif Nat.ble y 312 then (bif Nat.ble y 311 then false else false) else false) else (bif Nat.ble y 314 then false else false)))) else (bif Nat.ble y 326 then (bif Nat.ble y 321 then (bif Nat.ble y 318 then (bif Nat.ble y 317 then (bif Nat.ble y 316 then false else false) else false) else (bif Nat.ble y 320 then (bif Nat.ble y 319 then false else false) else false)) else (bif Nat.ble y 324 then (bif Nat.ble y 323 then (bif Nat.ble y 322 then false else false) else false) else (bif Nat.ble y 325 then false else false))) else (bif Nat.ble y 331 then (bif Nat.ble y 329 then (bif Nat.ble y 328 then (bif Nat.ble y 327 then false else false) else false) else (bif Nat.ble y 330 then false else false)) else (bif Nat.ble y 334 then (bif Nat.ble y 333 then (bif Nat.ble y 332 then true else true) else true) else (bif Nat.ble y 335 then true else true))))))))
theorem RN_ok : ∀ o, o < 16 → (RN o ≠ "java/lang/invoke/MethodHandle" ∧ RN o ≠ "java/lang/invoke/VarHandle") ∧ (o ≠ 14 → Jvm.plainName (RN o) = true) := by decide +kernel
def floatDescs : List String := ["(D)D", "(DD)D", "(DDD)D", "(F)F", "(FF)F", "(FFF)F"]
theorem mathRows : (Jvm.natives.all fun r => r.cls != "java/lang/Math" || floatDescs.contains r.desc) = true := by decide +kernel
theorem mathPlain {x : MethodName} (hc : x.cls = "java/lang/Math") (hd : floatDescs.contains x.desc = false) : plainFor x = true := by
  unfold plainFor
  rw [Bool.or_eq_true]; right
  rw [Option.isNone_iff_eq_none, NativeRow.find?, List.find?_eq_none]
  intro r hr h
  have := List.all_eq_true.mp mathRows r hr
  simp only [Bool.and_eq_true, beq_iff_eq] at h
  rw [h.1.2, h.2, hc, hd] at this
  simp at this
/-- what is known of a method by the tables -/
def YK (y : Nat) : Prop := YOk y ∧ (isSt y = true → Cond.static (mn y) ∈ Tg) ∧ (isSt y = false → Cond.instanceMethod (mn y) ∈ Tg ∧ Cond.selects (mn y).cls (mn y) (mn y) ∈ Tg) ∧ ocl y < 16 ∧ RN (ocl y) = (mn y).cls ∧ (parseMethodDescriptor (mn y).desc).map (fun d => d.parameters.length) = some (npar y) ∧ plainFor (mn y) = true
set_option maxRecDepth 1000000 in
theorem AC_w : Cond.native arraycopyName ∈ Tg ∧ Cond.static arraycopyName ∈ Tg ∧ Cond.initialized "java/lang/System" ∈ Tg := ⟨inTp 762 rfl rfl, inTp 761 rfl rfl, inTp 146 rfl rfl⟩
end
section
theorem in_t1 {w : Cond} (h : w ∈ tables_1_1) : w ∈ lw_tbl := List.mem_append_right _ (List.mem_append_left _ h)
theorem in_t2 {w : Cond} (h : w ∈ tables_1_2) : w ∈ lw_tbl := List.mem_append_right _ (List.mem_append_right _ (List.mem_append_left _ h))
theorem in_t3 {w : Cond} (h : w ∈ tables_1_3) : w ∈ lw_tbl := List.mem_append_right _ (List.mem_append_right _ (List.mem_append_right _ (List.mem_append_left _ h)))
theorem in_t4 {w : Cond} (h : w ∈ tables_1_4) : w ∈ lw_tbl := List.mem_append_right _ (List.mem_append_right _ (List.mem_append_right _ (List.mem_append_right _ (List.mem_append_left _ h))))
theorem in_t5 {w : Cond} (h : w ∈ tables_1_5) : w ∈ lw_tbl := List.mem_append_right _ (List.mem_append_right _ (List.mem_append_right _ (List.mem_append_right _ (List.mem_append_right _ (List.mem_append_left _ h)))))
theorem in_t6 {w : Cond} (h : w ∈ tables_1_6) : w ∈ lw_tbl := List.mem_append_right _ (List.mem_append_right _ (List.mem_append_right _ (List.mem_append_right _ (List.mem_append_right _ (List.mem_append_right _ (List.mem_append_left _ h))))))
theorem in_t7 {w : Cond} (h : w ∈ tables_1_7) : w ∈ lw_tbl := List.mem_append_right _ (List.mem_append_right _ (List.mem_append_right _ (List.mem_append_right _ (List.mem_append_right _ (List.mem_append_right _ (List.mem_append_right _ (List.mem_append_left _ h)))))))
theorem in_t8 {w : Cond} (h : w ∈ tables_1_8) : w ∈ lw_tbl := List.mem_append_right _ (List.mem_append_right _ (List.mem_append_right _ (List.mem_append_right _ (List.mem_append_right _ (List.mem_append_right _ (List.mem_append_right _ (List.mem_append_right _ (List.mem_append_left _ h))))))))
theorem in_t9 {w : Cond} (h : w ∈ tables_1_9) : w ∈ lw_tbl := List.mem_append_right _ (List.mem_append_right _ (List.mem_append_right _ (List.mem_append_right _ (List.mem_append_right _ (List.mem_append_right _ (List.mem_append_right _ (List.mem_append_right _ (List.mem_append_right _ (h)))))))))
theorem yk1 : YK 1 := ⟨⟨inT (in_t5 (List.mem_of_getElem? (i := 72) rfl)) rfl, inT (in_t1 (List.mem_of_getElem? (i := 9) rfl)) rfl, (RN_ok 0 (by decide)).1, by decide⟩, fun h => absurd h (by decide), fun _ => ⟨inT (in_t5 (List.mem_of_getElem? (i := 70) rfl)) rfl, inT (in_t5 (List.mem_of_getElem? (i := 71) rfl)) rfl⟩, by decide, rfl, by decide +kernel, plainFor_of_name ((RN_ok 0 (by decide)).2 (by decide))⟩
theorem yk2 : YK 2 := ⟨⟨inT (in_t5 (List.mem_of_getElem? (i := 100) rfl)) rfl, inT (in_t1 (List.mem_of_getElem? (i := 9) rfl)) rfl, (RN_ok 0 (by decide)).1, by decide⟩, fun h => absurd h (by decide), fun _ => ⟨inT (in_t5 (List.mem_of_getElem? (i := 98) rfl)) rfl, inT (in_t5 (List.mem_of_getElem? (i := 99) rfl)) rfl⟩, by decide, rfl, by decide +kernel, plainFor_of_name ((RN_ok 0 (by decide)).2 (by decide))⟩
theorem yk3 : YK 3 := ⟨⟨inT (in_t5 (List.mem_of_getElem? (i := 104) rfl)) rfl, inT (in_t1 (List.mem_of_getElem? (i := 9) rfl)) rfl, (RN_ok 0 (by decide)).1, by decide⟩, fun _ => inT (in_t5 (List.mem_of_getElem? (i := 103) rfl)) rfl, fun h => absurd h (by decide), by decide, rfl, by decide +kernel, plainFor_of_name ((RN_ok 0 (by decide)).2 (by decide))⟩
theorem yk4 : YK 4 := ⟨⟨inT (in_t5 (List.mem_of_getElem? (i := 146) rfl)) rfl, inT (in_t1 (List.mem_of_getElem? (i := 9) rfl)) rfl, (RN_ok 0 (by decide)).1, by decide⟩, fun h => absurd h (by decide), fun _ => ⟨inT (in_t5 (List.mem_of_getElem? (i := 144) rfl)) rfl, inT (in_t5 (List.mem_of_getElem? (i := 145) rfl)) rfl⟩, by decide, rfl, by decide +kernel, plainFor_of_name ((RN_ok 0 (by decide)).2 (by decide))⟩
theorem yk5 : YK 5 := ⟨⟨inT (in_t5 (List.mem_of_getElem? (i := 154) rfl)) rfl, inT (in_t1 (List.mem_of_getElem? (i := 9) rfl)) rfl, (RN_ok 0 (by decide)).1, by decide⟩, fun h => absurd h (by decide), fun _ => ⟨inT (in_t5 (List.mem_of_getElem? (i := 152) rfl)) rfl, inT (in_t5 (List.mem_of_getElem? (i := 153) rfl)) rfl⟩, by decide, rfl, by decide +kernel, plainFor_of_name ((RN_ok 0 (by decide)).2 (by decide))⟩
theorem yk6 : YK 6 := ⟨⟨inT (in_t5 (List.mem_of_getElem? (i := 174) rfl)) rfl, inT (in_t1 (List.mem_of_getElem? (i := 9) rfl)) rfl, (RN_ok 0 (by decide)).1, by decide⟩, fun h => absurd h (by decide), fun _ => ⟨inT (in_t5 (List.mem_of_getElem? (i := 172) rfl)) rfl, inT (in_t5 (List.mem_of_getElem? (i := 173) rfl)) rfl⟩, by decide, rfl, by decide +kernel, plainFor_of_name ((RN_ok 0 (by decide)).2 (by decide))⟩
theorem yk7 : YK 7 := ⟨⟨inT (in_t5 (List.mem_of_getElem? (i := 178) rfl)) rfl, inT (in_t1 (List.mem_of_getElem? (i := 9) rfl)) rfl, (RN_ok 0 (by decide)).1, by decide⟩, fun h => absurd h (by decide), fun _ => ⟨inT (in_t5 (List.mem_of_getElem? (i := 177) rfl)) rfl, inT (List.mem_append_left _ (List.mem_of_getElem? (i := 33) rfl)) rfl⟩, by decide, rfl, by decide +kernel, plainFor_of_name ((RN_ok 0 (by decide)).2 (by decide))⟩
theorem yk8 : YK 8 := ⟨⟨inT (in_t5 (List.mem_of_getElem? (i := 191) rfl)) rfl, inT (in_t1 (List.mem_of_getElem? (i := 9) rfl)) rfl, (RN_ok 0 (by decide)).1, by decide⟩, fun h => absurd h (by decide), fun _ => ⟨inT (in_t5 (List.mem_of_getElem? (i := 190) rfl)) rfl, inT (List.mem_append_left _ (List.mem_of_getElem? (i := 34) rfl)) rfl⟩, by decide, rfl, by decide +kernel, plainFor_of_name ((RN_ok 0 (by decide)).2 (by decide))⟩
theorem yk9 : YK 9 := ⟨⟨inT (in_t5 (List.mem_of_getElem? (i := 196) rfl)) rfl, inT (in_t1 (List.mem_of_getElem? (i := 9) rfl)) rfl, (RN_ok 0 (by decide)).1, by decide⟩, fun h => absurd h (by decide), fun _ => ⟨inT (in_t5 (List.mem_of_getElem? (i := 195) rfl)) rfl, inT (List.mem_append_left _ (List.mem_of_getElem? (i := 35) rfl)) rfl⟩, by decide, rfl, by decide +kernel, plainFor_of_name ((RN_ok 0 (by decide)).2 (by decide))⟩
theorem yk10 : YK 10 := ⟨⟨inT (in_t6 (List.mem_of_getElem? (i := 27) rfl)) rfl, inT (in_t1 (List.mem_of_getElem? (i := 9) rfl)) rfl, (RN_ok 0 (by decide)).1, by decide⟩, fun h => absurd h (by decide), fun _ => ⟨inT (in_t6 (List.mem_of_getElem? (i := 25) rfl)) rfl, inT (in_t6 (List.mem_of_getElem? (i := 26) rfl)) rfl⟩, by decide, rfl, by decide +kernel, plainFor_of_name ((RN_ok 0 (by decide)).2 (by decide))⟩
theorem yk11 : YK 11 := ⟨⟨inT (in_t6 (List.mem_of_getElem? (i := 31) rfl)) rfl, inT (in_t1 (List.mem_of_getElem? (i := 9) rfl)) rfl, (RN_ok 0 (by decide)).1, by decide⟩, fun h => absurd h (by decide), fun _ => ⟨inT (in_t6 (List.mem_of_getElem? (i := 30) rfl)) rfl, inT (List.mem_append_left _ (List.mem_of_getElem? (i := 39) rfl)) rfl⟩, by decide, rfl, by decide +kernel, plainFor_of_name ((RN_ok 0 (by decide)).2 (by decide))⟩
theorem yk12 : YK 12 := ⟨⟨inT (in_t4 (List.mem_of_getElem? (i := 59) rfl)) rfl, inT (in_t1 (List.mem_of_getElem? (i := 15) rfl)) rfl, (RN_ok 1 (by decide)).1, by decide⟩, fun h => absurd h (by decide), fun _ => ⟨inT (in_t4 (List.mem_of_getElem? (i := 57) rfl)) rfl, inT (in_t4 (List.mem_of_getElem? (i := 58) rfl)) rfl⟩, by decide, rfl, by decide +kernel, plainFor_of_name ((RN_ok 1 (by decide)).2 (by decide))⟩
theorem yk13 : YK 13 := ⟨⟨inT (in_t6 (List.mem_of_getElem? (i := 134) rfl)) rfl, inT (in_t1 (List.mem_of_getElem? (i := 15) rfl)) rfl, (RN_ok 1 (by decide)).1, by decide⟩, fun h => absurd h (by decide), fun _ => ⟨inT (in_t6 (List.mem_of_getElem? (i := 132) rfl)) rfl, inT (in_t6 (List.mem_of_getElem? (i := 133) rfl)) rfl⟩, by decide, rfl, by decide +kernel, plainFor_of_name ((RN_ok 1 (by decide)).2 (by decide))⟩
theorem yk14 : YK 14 := ⟨⟨inT (in_t4 (List.mem_of_getElem? (i := 81) rfl)) rfl, inT (in_t1 (List.mem_of_getElem? (i := 15) rfl)) rfl, (RN_ok 1 (by decide)).1, by decide⟩, fun h => absurd h (by decide), fun _ => ⟨inT (in_t4 (List.mem_of_getElem? (i := 79) rfl)) rfl, inT (in_t4 (List.mem_of_getElem? (i := 80) rfl)) rfl⟩, by decide, rfl, by decide +kernel, plainFor_of_name ((RN_ok 1 (by decide)).2 (by decide))⟩
theorem yk15 : YK 15 := ⟨⟨inT (in_t4 (List.mem_of_getElem? (i := 71) rfl)) rfl, inT (in_t1 (List.mem_of_getElem? (i := 8) rfl)) rfl, (RN_ok 2 (by decide)).1, by decide⟩, fun h => absurd h (by decide), fun _ => ⟨inT (in_t4 (List.mem_of_getElem? (i := 69) rfl)) rfl, inT (in_t4 (List.mem_of_getElem? (i := 70) rfl)) rfl⟩, by decide, rfl, by decide +kernel, plainFor_of_name ((RN_ok 2 (by decide)).2 (by decide))⟩
theorem yk16 : YK 16 := ⟨⟨inT (in_t4 (List.mem_of_getElem? (i := 76) rfl)) rfl, inT (in_t1 (List.mem_of_getElem? (i := 8) rfl)) rfl, (RN_ok 2 (by decide)).1, by decide⟩, fun h => absurd h (by decide), fun _ => ⟨inT (in_t4 (List.mem_of_getElem? (i := 75) rfl)) rfl, inT (List.mem_append_left _ (List.mem_of_getElem? (i := 19) rfl)) rfl⟩, by decide, rfl, by decide +kernel, plainFor_of_name ((RN_ok 2 (by decide)).2 (by decide))⟩
theorem yk17 : YK 17 := ⟨⟨inT (in_t4 (List.mem_of_getElem? (i := 87) rfl)) rfl, inT (in_t1 (List.mem_of_getElem? (i := 8) rfl)) rfl, (RN_ok 2 (by decide)).1, by decide⟩, fun h => absurd h (by decide), fun _ => ⟨inT (in_t4 (List.mem_of_getElem? (i := 86) rfl)) rfl, inT (List.mem_append_left _ (List.mem_of_getElem? (i := 20) rfl)) rfl⟩, by decide, rfl, by decide +kernel, plainFor_of_name ((RN_ok 2 (by decide)).2 (by decide))⟩
theorem yk18 : YK 18 := ⟨⟨inT (in_t4 (List.mem_of_getElem? (i := 91) rfl)) rfl, inT (in_t1 (List.mem_of_getElem? (i := 8) rfl)) rfl, (RN_ok 2 (by decide)).1, by decide⟩, fun h => absurd h (by decide), fun _ => ⟨inT (in_t4 (List.mem_of_getElem? (i := 90) rfl)) rfl, inT (List.mem_append_left _ (List.mem_of_getElem? (i := 21) rfl)) rfl⟩, by decide, rfl, by decide +kernel, plainFor_of_name ((RN_ok 2 (by decide)).2 (by decide))⟩
theorem yk19 : YK 19 := ⟨⟨inT (in_t4 (List.mem_of_getElem? (i := 94) rfl)) rfl, inT (in_t1 (List.mem_of_getElem? (i := 8) rfl)) rfl, (RN_ok 2 (by decide)).1, by decide⟩, fun _ => inT (in_t4 (List.mem_of_getElem? (i := 93) rfl)) rfl, fun h => absurd h (by decide), by decide, rfl, by decide +kernel, plainFor_of_name ((RN_ok 2 (by decide)).2 (by decide))⟩
theorem yk20 : YK 20 := ⟨⟨inT (in_t4 (List.mem_of_getElem? (i := 109) rfl)) rfl, inT (in_t1 (List.mem_of_getElem? (i := 8) rfl)) rfl, (RN_ok 2 (by decide)).1, by decide⟩, fun h => absurd h (by decide), fun _ => ⟨inT (in_t4 (List.mem_of_getElem? (i := 108) rfl)) rfl, inT (List.mem_append_left _ (List.mem_of_getElem? (i := 24) rfl)) rfl⟩, by decide, rfl, by decide +kernel, plainFor_of_name ((RN_ok 2 (by decide)).2 (by decide))⟩
theorem yk21 : YK 21 := ⟨⟨inT (in_t4 (List.mem_of_getElem? (i := 103) rfl)) rfl, inT (in_t1 (List.mem_of_getElem? (i := 8) rfl)) rfl, (RN_ok 2 (by decide)).1, by decide⟩, fun h => absurd h (by decide), fun _ => ⟨inT (in_t4 (List.mem_of_getElem? (i := 102) rfl)) rfl, inT (List.mem_append_left _ (List.mem_of_getElem? (i := 23) rfl)) rfl⟩, by decide, rfl, by decide +kernel, plainFor_of_name ((RN_ok 2 (by decide)).2 (by decide))⟩
theorem yk22 : YK 22 := ⟨⟨inT (in_t4 (List.mem_of_getElem? (i := 98) rfl)) rfl, inT (in_t1 (List.mem_of_getElem? (i := 8) rfl)) rfl, (RN_ok 2 (by decide)).1, by decide⟩, fun h => absurd h (by decide), fun _ => ⟨inT (in_t4 (List.mem_of_getElem? (i := 97) rfl)) rfl, inT (List.mem_append_left _ (List.mem_of_getElem? (i := 22) rfl)) rfl⟩, by decide, rfl, by decide +kernel, plainFor_of_name ((RN_ok 2 (by decide)).2 (by decide))⟩
theorem yk23 : YK 23 := ⟨⟨inT (in_t3 (List.mem_of_getElem? (i := 195) rfl)) rfl, inT (in_t1 (List.mem_of_getElem? (i := 10) rfl)) rfl, (RN_ok 3 (by decide)).1, by decide⟩, fun h => absurd h (by decide), fun _ => ⟨inT (in_t3 (List.mem_of_getElem? (i := 193) rfl)) rfl, inT (in_t3 (List.mem_of_getElem? (i := 194) rfl)) rfl⟩, by decide, rfl, by decide +kernel, plainFor_of_name ((RN_ok 3 (by decide)).2 (by decide))⟩
theorem yk24 : YK 24 := ⟨⟨inT (in_t5 (List.mem_of_getElem? (i := 76) rfl)) rfl, inT (in_t1 (List.mem_of_getElem? (i := 10) rfl)) rfl, (RN_ok 3 (by decide)).1, by decide⟩, fun h => absurd h (by decide), fun _ => ⟨inT (in_t5 (List.mem_of_getElem? (i := 74) rfl)) rfl, inT (in_t5 (List.mem_of_getElem? (i := 75) rfl)) rfl⟩, by decide, rfl, by decide +kernel, plainFor_of_name ((RN_ok 3 (by decide)).2 (by decide))⟩
theorem yk25 : YK 25 := ⟨⟨inT (in_t4 (List.mem_of_getElem? (i := 47) rfl)) rfl, inT (in_t1 (List.mem_of_getElem? (i := 10) rfl)) rfl, (RN_ok 3 (by decide)).1, by decide⟩, fun h => absurd h (by decide), fun _ => ⟨inT (in_t4 (List.mem_of_getElem? (i := 45) rfl)) rfl, inT (in_t4 (List.mem_of_getElem? (i := 46) rfl)) rfl⟩, by decide, rfl, by decide +kernel, plainFor_of_name ((RN_ok 3 (by decide)).2 (by decide))⟩
theorem yk26 : YK 26 := ⟨⟨inT (in_t5 (List.mem_of_getElem? (i := 17) rfl)) rfl, inT (in_t1 (List.mem_of_getElem? (i := 10) rfl)) rfl, (RN_ok 3 (by decide)).1, by decide⟩, fun h => absurd h (by decide), fun _ => ⟨inT (in_t5 (List.mem_of_getElem? (i := 15) rfl)) rfl, inT (in_t5 (List.mem_of_getElem? (i := 16) rfl)) rfl⟩, by decide, rfl, by decide +kernel, plainFor_of_name ((RN_ok 3 (by decide)).2 (by decide))⟩
theorem yk27 : YK 27 := ⟨⟨inT (in_t4 (List.mem_of_getElem? (i := 194) rfl)) rfl, inT (in_t1 (List.mem_of_getElem? (i := 10) rfl)) rfl, (RN_ok 3 (by decide)).1, by decide⟩, fun h => absurd h (by decide), fun _ => ⟨inT (in_t4 (List.mem_of_getElem? (i := 193) rfl)) rfl, inT (List.mem_append_left _ (List.mem_of_getElem? (i := 29) rfl)) rfl⟩, by decide, rfl, by decide +kernel, plainFor_of_name ((RN_ok 3 (by decide)).2 (by decide))⟩
theorem yk28 : YK 28 := ⟨⟨inT (in_t4 (List.mem_of_getElem? (i := 198) rfl)) rfl, inT (in_t1 (List.mem_of_getElem? (i := 10) rfl)) rfl, (RN_ok 3 (by decide)).1, by decide⟩, fun h => absurd h (by decide), fun _ => ⟨inT (in_t4 (List.mem_of_getElem? (i := 197) rfl)) rfl, inT (List.mem_append_left _ (List.mem_of_getElem? (i := 30) rfl)) rfl⟩, by decide, rfl, by decide +kernel, plainFor_of_name ((RN_ok 3 (by decide)).2 (by decide))⟩
theorem yk29 : YK 29 := ⟨⟨inT (in_t4 (List.mem_of_getElem? (i := 190) rfl)) rfl, inT (in_t1 (List.mem_of_getElem? (i := 10) rfl)) rfl, (RN_ok 3 (by decide)).1, by decide⟩, fun h => absurd h (by decide), fun _ => ⟨inT (in_t4 (List.mem_of_getElem? (i := 188) rfl)) rfl, inT (in_t4 (List.mem_of_getElem? (i := 189) rfl)) rfl⟩, by decide, rfl, by decide +kernel, plainFor_of_name ((RN_ok 3 (by decide)).2 (by decide))⟩
theorem yk30 : YK 30 := ⟨⟨inT (in_t5 (List.mem_of_getElem? (i := 42) rfl)) rfl, inT (in_t1 (List.mem_of_getElem? (i := 10) rfl)) rfl, (RN_ok 3 (by decide)).1, by decide⟩, fun h => absurd h (by decide), fun _ => ⟨inT (in_t5 (List.mem_of_getElem? (i := 40) rfl)) rfl, inT (in_t5 (List.mem_of_getElem? (i := 41) rfl)) rfl⟩, by decide, rfl, by decide +kernel, plainFor_of_name ((RN_ok 3 (by decide)).2 (by decide))⟩
theorem yk31 : YK 31 := ⟨⟨inT (in_t5 (List.mem_of_getElem? (i := 58) rfl)) rfl, inT (in_t1 (List.mem_of_getElem? (i := 10) rfl)) rfl, (RN_ok 3 (by decide)).1, by decide⟩, fun h => absurd h (by decide), fun _ => ⟨inT (in_t5 (List.mem_of_getElem? (i := 56) rfl)) rfl, inT (in_t5 (List.mem_of_getElem? (i := 57) rfl)) rfl⟩, by decide, rfl, by decide +kernel, plainFor_of_name ((RN_ok 3 (by decide)).2 (by decide))⟩
theorem yk32 : YK 32 := ⟨⟨inT (in_t4 (List.mem_of_getElem? (i := 186) rfl)) rfl, inT (in_t1 (List.mem_of_getElem? (i := 10) rfl)) rfl, (RN_ok 3 (by decide)).1, by decide⟩, fun h => absurd h (by decide), fun _ => ⟨inT (in_t4 (List.mem_of_getElem? (i := 185) rfl)) rfl, inT (List.mem_append_left _ (List.mem_of_getElem? (i := 28) rfl)) rfl⟩, by decide, rfl, by decide +kernel, plainFor_of_name ((RN_ok 3 (by decide)).2 (by decide))⟩
theorem yk33 : YK 33 := ⟨⟨inT (in_t4 (List.mem_of_getElem? (i := 206) rfl)) rfl, inT (in_t1 (List.mem_of_getElem? (i := 10) rfl)) rfl, (RN_ok 3 (by decide)).1, by decide⟩, fun h => absurd h (by decide), fun _ => ⟨inT (in_t4 (List.mem_of_getElem? (i := 205) rfl)) rfl, inT (List.mem_append_left _ (List.mem_of_getElem? (i := 31) rfl)) rfl⟩, by decide, rfl, by decide +kernel, plainFor_of_name ((RN_ok 3 (by decide)).2 (by decide))⟩
theorem yk34 : YK 34 := ⟨⟨inT (in_t4 (List.mem_of_getElem? (i := 178) rfl)) rfl, inT (in_t1 (List.mem_of_getElem? (i := 10) rfl)) rfl, (RN_ok 3 (by decide)).1, by decide⟩, fun h => absurd h (by decide), fun _ => ⟨inT (in_t4 (List.mem_of_getElem? (i := 176) rfl)) rfl, inT (in_t4 (List.mem_of_getElem? (i := 177) rfl)) rfl⟩, by decide, rfl, by decide +kernel, plainFor_of_name ((RN_ok 3 (by decide)).2 (by decide))⟩
theorem yk35 : YK 35 := ⟨⟨inT (in_t4 (List.mem_of_getElem? (i := 182) rfl)) rfl, inT (in_t1 (List.mem_of_getElem? (i := 10) rfl)) rfl, (RN_ok 3 (by decide)).1, by decide⟩, fun h => absurd h (by decide), fun _ => ⟨inT (in_t4 (List.mem_of_getElem? (i := 180) rfl)) rfl, inT (in_t4 (List.mem_of_getElem? (i := 181) rfl)) rfl⟩, by decide, rfl, by decide +kernel, plainFor_of_name ((RN_ok 3 (by decide)).2 (by decide))⟩
theorem yk36 : YK 36 := ⟨⟨inT (in_t4 (List.mem_of_getElem? (i := 220) rfl)) rfl, inT (in_t1 (List.mem_of_getElem? (i := 10) rfl)) rfl, (RN_ok 3 (by decide)).1, by decide⟩, fun h => absurd h (by decide), fun _ => ⟨inT (in_t4 (List.mem_of_getElem? (i := 218) rfl)) rfl, inT (in_t4 (List.mem_of_getElem? (i := 219) rfl)) rfl⟩, by decide, rfl, by decide +kernel, plainFor_of_name ((RN_ok 3 (by decide)).2 (by decide))⟩
theorem yk37 : YK 37 := ⟨⟨inT (in_t5 (List.mem_of_getElem? (i := 117) rfl)) rfl, inT (in_t1 (List.mem_of_getElem? (i := 10) rfl)) rfl, (RN_ok 3 (by decide)).1, by decide⟩, fun h => absurd h (by decide), fun _ => ⟨inT (in_t5 (List.mem_of_getElem? (i := 115) rfl)) rfl, inT (in_t5 (List.mem_of_getElem? (i := 116) rfl)) rfl⟩, by decide, rfl, by decide +kernel, plainFor_of_name ((RN_ok 3 (by decide)).2 (by decide))⟩
theorem yk38 : YK 38 := ⟨⟨inT (in_t3 (List.mem_of_getElem? (i := 191) rfl)) rfl, inT (in_t1 (List.mem_of_getElem? (i := 7) rfl)) rfl, (RN_ok 4 (by decide)).1, by decide⟩, fun h => absurd h (by decide), fun _ => ⟨inT (in_t3 (List.mem_of_getElem? (i := 189) rfl)) rfl, inT (in_t3 (List.mem_of_getElem? (i := 190) rfl)) rfl⟩, by decide, rfl, by decide +kernel, plainFor_of_name ((RN_ok 4 (by decide)).2 (by decide))⟩
theorem yk39 : YK 39 := ⟨⟨inT (in_t3 (List.mem_of_getElem? (i := 203) rfl)) rfl, inT (in_t1 (List.mem_of_getElem? (i := 7) rfl)) rfl, (RN_ok 4 (by decide)).1, by decide⟩, fun h => absurd h (by decide), fun _ => ⟨inT (in_t3 (List.mem_of_getElem? (i := 202) rfl)) rfl, inT (List.mem_append_left _ (List.mem_of_getElem? (i := 9) rfl)) rfl⟩, by decide, rfl, by decide +kernel, plainFor_of_name ((RN_ok 4 (by decide)).2 (by decide))⟩
theorem yk40 : YK 40 := ⟨⟨inT (in_t3 (List.mem_of_getElem? (i := 207) rfl)) rfl, inT (in_t1 (List.mem_of_getElem? (i := 7) rfl)) rfl, (RN_ok 4 (by decide)).1, by decide⟩, fun h => absurd h (by decide), fun _ => ⟨inT (in_t3 (List.mem_of_getElem? (i := 206) rfl)) rfl, inT (List.mem_append_left _ (List.mem_of_getElem? (i := 10) rfl)) rfl⟩, by decide, rfl, by decide +kernel, plainFor_of_name ((RN_ok 4 (by decide)).2 (by decide))⟩
theorem yk41 : YK 41 := ⟨⟨inT (in_t3 (List.mem_of_getElem? (i := 226) rfl)) rfl, inT (in_t1 (List.mem_of_getElem? (i := 7) rfl)) rfl, (RN_ok 4 (by decide)).1, by decide⟩, fun h => absurd h (by decide), fun _ => ⟨inT (in_t3 (List.mem_of_getElem? (i := 225) rfl)) rfl, inT (List.mem_append_left _ (List.mem_of_getElem? (i := 11) rfl)) rfl⟩, by decide, rfl, by decide +kernel, plainFor_of_name ((RN_ok 4 (by decide)).2 (by decide))⟩
theorem yk42 : YK 42 := ⟨⟨inT (in_t3 (List.mem_of_getElem? (i := 230) rfl)) rfl, inT (in_t1 (List.mem_of_getElem? (i := 7) rfl)) rfl, (RN_ok 4 (by decide)).1, by decide⟩, fun h => absurd h (by decide), fun _ => ⟨inT (in_t3 (List.mem_of_getElem? (i := 229) rfl)) rfl, inT (List.mem_append_left _ (List.mem_of_getElem? (i := 12) rfl)) rfl⟩, by decide, rfl, by decide +kernel, plainFor_of_name ((RN_ok 4 (by decide)).2 (by decide))⟩
theorem yk43 : YK 43 := ⟨⟨inT (in_t4 (List.mem_of_getElem? (i := 18) rfl)) rfl, inT (in_t1 (List.mem_of_getElem? (i := 7) rfl)) rfl, (RN_ok 4 (by decide)).1, by decide⟩, fun h => absurd h (by decide), fun _ => ⟨inT (in_t4 (List.mem_of_getElem? (i := 17) rfl)) rfl, inT (List.mem_append_left _ (List.mem_of_getElem? (i := 14) rfl)) rfl⟩, by decide, rfl, by decide +kernel, plainFor_of_name ((RN_ok 4 (by decide)).2 (by decide))⟩
theorem yk44 : YK 44 := ⟨⟨inT (in_t3 (List.mem_of_getElem? (i := 234) rfl)) rfl, inT (in_t1 (List.mem_of_getElem? (i := 7) rfl)) rfl, (RN_ok 4 (by decide)).1, by decide⟩, fun h => absurd h (by decide), fun _ => ⟨inT (in_t3 (List.mem_of_getElem? (i := 233) rfl)) rfl, inT (List.mem_append_left _ (List.mem_of_getElem? (i := 13) rfl)) rfl⟩, by decide, rfl, by decide +kernel, plainFor_of_name ((RN_ok 4 (by decide)).2 (by decide))⟩
theorem yk45 : YK 45 := ⟨⟨inT (in_t4 (List.mem_of_getElem? (i := 33) rfl)) rfl, inT (in_t1 (List.mem_of_getElem? (i := 7) rfl)) rfl, (RN_ok 4 (by decide)).1, by decide⟩, fun h => absurd h (by decide), fun _ => ⟨inT (in_t4 (List.mem_of_getElem? (i := 32) rfl)) rfl, inT (List.mem_append_left _ (List.mem_of_getElem? (i := 15) rfl)) rfl⟩, by decide, rfl, by decide +kernel, plainFor_of_name ((RN_ok 4 (by decide)).2 (by decide))⟩
theorem yk46 : YK 46 := ⟨⟨inT (in_t4 (List.mem_of_getElem? (i := 43) rfl)) rfl, inT (in_t1 (List.mem_of_getElem? (i := 7) rfl)) rfl, (RN_ok 4 (by decide)).1, by decide⟩, fun h => absurd h (by decide), fun _ => ⟨inT (in_t4 (List.mem_of_getElem? (i := 42) rfl)) rfl, inT (List.mem_append_left _ (List.mem_of_getElem? (i := 16) rfl)) rfl⟩, by decide, rfl, by decide +kernel, plainFor_of_name ((RN_ok 4 (by decide)).2 (by decide))⟩
theorem yk47 : YK 47 := ⟨⟨inT (in_t4 (List.mem_of_getElem? (i := 51) rfl)) rfl, inT (in_t1 (List.mem_of_getElem? (i := 7) rfl)) rfl, (RN_ok 4 (by decide)).1, by decide⟩, fun h => absurd h (by decide), fun _ => ⟨inT (in_t4 (List.mem_of_getElem? (i := 50) rfl)) rfl, inT (List.mem_append_left _ (List.mem_of_getElem? (i := 17) rfl)) rfl⟩, by decide, rfl, by decide +kernel, plainFor_of_name ((RN_ok 4 (by decide)).2 (by decide))⟩
theorem yk48 : YK 48 := ⟨⟨inT (in_t6 (List.mem_of_getElem? (i := 83) rfl)) rfl, inT (in_t1 (List.mem_of_getElem? (i := 14) rfl)) rfl, (RN_ok 5 (by decide)).1, by decide⟩, fun h => absurd h (by decide), fun _ => ⟨inT (in_t6 (List.mem_of_getElem? (i := 81) rfl)) rfl, inT (in_t6 (List.mem_of_getElem? (i := 82) rfl)) rfl⟩, by decide, rfl, by decide +kernel, plainFor_of_name ((RN_ok 5 (by decide)).2 (by decide))⟩
theorem yk49 : YK 49 := ⟨⟨inT (in_t6 (List.mem_of_getElem? (i := 88) rfl)) rfl, inT (in_t1 (List.mem_of_getElem? (i := 14) rfl)) rfl, (RN_ok 5 (by decide)).1, by decide⟩, fun h => absurd h (by decide), fun _ => ⟨inT (in_t6 (List.mem_of_getElem? (i := 87) rfl)) rfl, inT (List.mem_append_left _ (List.mem_of_getElem? (i := 42) rfl)) rfl⟩, by decide, rfl, by decide +kernel, plainFor_of_name ((RN_ok 5 (by decide)).2 (by decide))⟩
theorem yk50 : YK 50 := ⟨⟨inT (in_t6 (List.mem_of_getElem? (i := 92) rfl)) rfl, inT (in_t1 (List.mem_of_getElem? (i := 14) rfl)) rfl, (RN_ok 5 (by decide)).1, by decide⟩, fun h => absurd h (by decide), fun _ => ⟨inT (in_t6 (List.mem_of_getElem? (i := 91) rfl)) rfl, inT (List.mem_append_left _ (List.mem_of_getElem? (i := 43) rfl)) rfl⟩, by decide, rfl, by decide +kernel, plainFor_of_name ((RN_ok 5 (by decide)).2 (by decide))⟩
theorem yk51 : YK 51 := ⟨⟨inT (in_t6 (List.mem_of_getElem? (i := 96) rfl)) rfl, inT (in_t1 (List.mem_of_getElem? (i := 14) rfl)) rfl, (RN_ok 5 (by decide)).1, by decide⟩, fun h => absurd h (by decide), fun _ => ⟨inT (in_t6 (List.mem_of_getElem? (i := 95) rfl)) rfl, inT (List.mem_append_left _ (List.mem_of_getElem? (i := 44) rfl)) rfl⟩, by decide, rfl, by decide +kernel, plainFor_of_name ((RN_ok 5 (by decide)).2 (by decide))⟩
theorem yk52 : YK 52 := ⟨⟨inT (in_t6 (List.mem_of_getElem? (i := 104) rfl)) rfl, inT (in_t1 (List.mem_of_getElem? (i := 14) rfl)) rfl, (RN_ok 5 (by decide)).1, by decide⟩, fun h => absurd h (by decide), fun _ => ⟨inT (in_t6 (List.mem_of_getElem? (i := 103) rfl)) rfl, inT (List.mem_append_left _ (List.mem_of_getElem? (i := 45) rfl)) rfl⟩, by decide, rfl, by decide +kernel, plainFor_of_name ((RN_ok 5 (by decide)).2 (by decide))⟩
theorem yk53 : YK 53 := ⟨⟨inT (in_t6 (List.mem_of_getElem? (i := 108) rfl)) rfl, inT (in_t1 (List.mem_of_getElem? (i := 14) rfl)) rfl, (RN_ok 5 (by decide)).1, by decide⟩, fun h => absurd h (by decide), fun _ => ⟨inT (in_t6 (List.mem_of_getElem? (i := 107) rfl)) rfl, inT (List.mem_append_left _ (List.mem_of_getElem? (i := 46) rfl)) rfl⟩, by decide, rfl, by decide +kernel, plainFor_of_name ((RN_ok 5 (by decide)).2 (by decide))⟩
theorem yk54 : YK 54 := ⟨⟨inT (in_t6 (List.mem_of_getElem? (i := 114) rfl)) rfl, inT (in_t1 (List.mem_of_getElem? (i := 14) rfl)) rfl, (RN_ok 5 (by decide)).1, by decide⟩, fun h => absurd h (by decide), fun _ => ⟨inT (in_t6 (List.mem_of_getElem? (i := 113) rfl)) rfl, inT (List.mem_append_left _ (List.mem_of_getElem? (i := 47) rfl)) rfl⟩, by decide, rfl, by decide +kernel, plainFor_of_name ((RN_ok 5 (by decide)).2 (by decide))⟩
theorem yk55 : YK 55 := ⟨⟨inT (in_t6 (List.mem_of_getElem? (i := 117) rfl)) rfl, inT (in_t1 (List.mem_of_getElem? (i := 14) rfl)) rfl, (RN_ok 5 (by decide)).1, by decide⟩, fun _ => inT (in_t6 (List.mem_of_getElem? (i := 116) rfl)) rfl, fun h => absurd h (by decide), by decide, rfl, by decide +kernel, plainFor_of_name ((RN_ok 5 (by decide)).2 (by decide))⟩
theorem yk56 : YK 56 := ⟨⟨inT (in_t3 (List.mem_of_getElem? (i := 199) rfl)) rfl, inT (in_t1 (List.mem_of_getElem? (i := 12) rfl)) rfl, (RN_ok 6 (by decide)).1, by decide⟩, fun h => absurd h (by decide), fun _ => ⟨inT (in_t3 (List.mem_of_getElem? (i := 197) rfl)) rfl, inT (in_t3 (List.mem_of_getElem? (i := 198) rfl)) rfl⟩, by decide, rfl, by decide +kernel, plainFor_of_name ((RN_ok 6 (by decide)).2 (by decide))⟩
theorem yk57 : YK 57 := ⟨⟨inT (in_t5 (List.mem_of_getElem? (i := 85) rfl)) rfl, inT (in_t1 (List.mem_of_getElem? (i := 12) rfl)) rfl, (RN_ok 6 (by decide)).1, by decide⟩, fun h => absurd h (by decide), fun _ => ⟨inT (in_t5 (List.mem_of_getElem? (i := 83) rfl)) rfl, inT (in_t5 (List.mem_of_getElem? (i := 84) rfl)) rfl⟩, by decide, rfl, by decide +kernel, plainFor_of_name ((RN_ok 6 (by decide)).2 (by decide))⟩
theorem yk58 : YK 58 := ⟨⟨inT (in_t4 (List.mem_of_getElem? (i := 22) rfl)) rfl, inT (in_t1 (List.mem_of_getElem? (i := 12) rfl)) rfl, (RN_ok 6 (by decide)).1, by decide⟩, fun h => absurd h (by decide), fun _ => ⟨inT (in_t4 (List.mem_of_getElem? (i := 20) rfl)) rfl, inT (in_t4 (List.mem_of_getElem? (i := 21) rfl)) rfl⟩, by decide, rfl, by decide +kernel, plainFor_of_name ((RN_ok 6 (by decide)).2 (by decide))⟩
theorem yk59 : YK 59 := ⟨⟨inT (in_t4 (List.mem_of_getElem? (i := 6) rfl)) rfl, inT (in_t1 (List.mem_of_getElem? (i := 12) rfl)) rfl, (RN_ok 6 (by decide)).1, by decide⟩, fun h => absurd h (by decide), fun _ => ⟨inT (in_t4 (List.mem_of_getElem? (i := 4) rfl)) rfl, inT (in_t4 (List.mem_of_getElem? (i := 5) rfl)) rfl⟩, by decide, rfl, by decide +kernel, plainFor_of_name ((RN_ok 6 (by decide)).2 (by decide))⟩
theorem yk60 : YK 60 := ⟨⟨inT (in_t4 (List.mem_of_getElem? (i := 150) rfl)) rfl, inT (in_t1 (List.mem_of_getElem? (i := 12) rfl)) rfl, (RN_ok 6 (by decide)).1, by decide⟩, fun h => absurd h (by decide), fun _ => ⟨inT (in_t4 (List.mem_of_getElem? (i := 148) rfl)) rfl, inT (in_t4 (List.mem_of_getElem? (i := 149) rfl)) rfl⟩, by decide, rfl, by decide +kernel, plainFor_of_name ((RN_ok 6 (by decide)).2 (by decide))⟩
theorem yk61 : YK 61 := ⟨⟨inT (in_t4 (List.mem_of_getElem? (i := 26) rfl)) rfl, inT (in_t1 (List.mem_of_getElem? (i := 12) rfl)) rfl, (RN_ok 6 (by decide)).1, by decide⟩, fun h => absurd h (by decide), fun _ => ⟨inT (in_t4 (List.mem_of_getElem? (i := 24) rfl)) rfl, inT (in_t4 (List.mem_of_getElem? (i := 25) rfl)) rfl⟩, by decide, rfl, by decide +kernel, plainFor_of_name ((RN_ok 6 (by decide)).2 (by decide))⟩
theorem yk62 : YK 62 := ⟨⟨inT (in_t4 (List.mem_of_getElem? (i := 55) rfl)) rfl, inT (in_t1 (List.mem_of_getElem? (i := 12) rfl)) rfl, (RN_ok 6 (by decide)).1, by decide⟩, fun h => absurd h (by decide), fun _ => ⟨inT (in_t4 (List.mem_of_getElem? (i := 53) rfl)) rfl, inT (in_t4 (List.mem_of_getElem? (i := 54) rfl)) rfl⟩, by decide, rfl, by decide +kernel, plainFor_of_name ((RN_ok 6 (by decide)).2 (by decide))⟩
theorem yk63 : YK 63 := ⟨⟨inT (in_t4 (List.mem_of_getElem? (i := 224) rfl)) rfl, inT (in_t1 (List.mem_of_getElem? (i := 12) rfl)) rfl, (RN_ok 6 (by decide)).1, by decide⟩, fun h => absurd h (by decide), fun _ => ⟨inT (in_t4 (List.mem_of_getElem? (i := 222) rfl)) rfl, inT (in_t4 (List.mem_of_getElem? (i := 223) rfl)) rfl⟩, by decide, rfl, by decide +kernel, plainFor_of_name ((RN_ok 6 (by decide)).2 (by decide))⟩
theorem yk64 : YK 64 := ⟨⟨inT (in_t5 (List.mem_of_getElem? (i := 182) rfl)) rfl, inT (in_t1 (List.mem_of_getElem? (i := 12) rfl)) rfl, (RN_ok 6 (by decide)).1, by decide⟩, fun h => absurd h (by decide), fun _ => ⟨inT (in_t5 (List.mem_of_getElem? (i := 180) rfl)) rfl, inT (in_t5 (List.mem_of_getElem? (i := 181) rfl)) rfl⟩, by decide, rfl, by decide +kernel, plainFor_of_name ((RN_ok 6 (by decide)).2 (by decide))⟩
theorem yk65 : YK 65 := ⟨⟨inT (in_t5 (List.mem_of_getElem? (i := 128) rfl)) rfl, inT (in_t1 (List.mem_of_getElem? (i := 12) rfl)) rfl, (RN_ok 6 (by decide)).1, by decide⟩, fun h => absurd h (by decide), fun _ => ⟨inT (in_t5 (List.mem_of_getElem? (i := 126) rfl)) rfl, inT (in_t5 (List.mem_of_getElem? (i := 127) rfl)) rfl⟩, by decide, rfl, by decide +kernel, plainFor_of_name ((RN_ok 6 (by decide)).2 (by decide))⟩
theorem yk66 : YK 66 := ⟨⟨inT (in_t6 (List.mem_of_getElem? (i := 49) rfl)) rfl, inT (in_t1 (List.mem_of_getElem? (i := 12) rfl)) rfl, (RN_ok 6 (by decide)).1, by decide⟩, fun _ => inT (in_t6 (List.mem_of_getElem? (i := 48) rfl)) rfl, fun h => absurd h (by decide), by decide, rfl, by decide +kernel, plainFor_of_name ((RN_ok 6 (by decide)).2 (by decide))⟩
theorem yk67 : YK 67 := ⟨⟨inT (in_t5 (List.mem_of_getElem? (i := 209) rfl)) rfl, inT (in_t1 (List.mem_of_getElem? (i := 13) rfl)) rfl, (RN_ok 7 (by decide)).1, by decide⟩, fun h => absurd h (by decide), fun _ => ⟨inT (in_t5 (List.mem_of_getElem? (i := 207) rfl)) rfl, inT (in_t5 (List.mem_of_getElem? (i := 208) rfl)) rfl⟩, by decide, rfl, by decide +kernel, plainFor_of_name ((RN_ok 7 (by decide)).2 (by decide))⟩
theorem yk68 : YK 68 := ⟨⟨inT (in_t5 (List.mem_of_getElem? (i := 213) rfl)) rfl, inT (in_t1 (List.mem_of_getElem? (i := 13) rfl)) rfl, (RN_ok 7 (by decide)).1, by decide⟩, fun h => absurd h (by decide), fun _ => ⟨inT (in_t5 (List.mem_of_getElem? (i := 212) rfl)) rfl, inT (List.mem_append_left _ (List.mem_of_getElem? (i := 36) rfl)) rfl⟩, by decide, rfl, by decide +kernel, plainFor_of_name ((RN_ok 7 (by decide)).2 (by decide))⟩
theorem yk69 : YK 69 := ⟨⟨inT (in_t5 (List.mem_of_getElem? (i := 228) rfl)) rfl, inT (in_t1 (List.mem_of_getElem? (i := 13) rfl)) rfl, (RN_ok 7 (by decide)).1, by decide⟩, fun h => absurd h (by decide), fun _ => ⟨inT (in_t5 (List.mem_of_getElem? (i := 226) rfl)) rfl, inT (in_t5 (List.mem_of_getElem? (i := 227) rfl)) rfl⟩, by decide, rfl, by decide +kernel, plainFor_of_name ((RN_ok 7 (by decide)).2 (by decide))⟩
theorem yk70 : YK 70 := ⟨⟨inT (in_t5 (List.mem_of_getElem? (i := 232) rfl)) rfl, inT (in_t1 (List.mem_of_getElem? (i := 13) rfl)) rfl, (RN_ok 7 (by decide)).1, by decide⟩, fun h => absurd h (by decide), fun _ => ⟨inT (in_t5 (List.mem_of_getElem? (i := 231) rfl)) rfl, inT (List.mem_append_left _ (List.mem_of_getElem? (i := 37) rfl)) rfl⟩, by decide, rfl, by decide +kernel, plainFor_of_name ((RN_ok 7 (by decide)).2 (by decide))⟩
theorem yk71 : YK 71 := ⟨⟨inT (in_t6 (List.mem_of_getElem? (i := 3) rfl)) rfl, inT (in_t1 (List.mem_of_getElem? (i := 13) rfl)) rfl, (RN_ok 7 (by decide)).1, by decide⟩, fun _ => inT (in_t6 (List.mem_of_getElem? (i := 2) rfl)) rfl, fun h => absurd h (by decide), by decide, rfl, by decide +kernel, plainFor_of_name ((RN_ok 7 (by decide)).2 (by decide))⟩
theorem yk72 : YK 72 := ⟨⟨inT (in_t6 (List.mem_of_getElem? (i := 10) rfl)) rfl, inT (in_t1 (List.mem_of_getElem? (i := 13) rfl)) rfl, (RN_ok 7 (by decide)).1, by decide⟩, fun _ => inT (in_t6 (List.mem_of_getElem? (i := 9) rfl)) rfl, fun h => absurd h (by decide), by decide, rfl, by decide +kernel, plainFor_of_name ((RN_ok 7 (by decide)).2 (by decide))⟩
theorem yk73 : YK 73 := ⟨⟨inT (in_t3 (List.mem_of_getElem? (i := 163) rfl)) rfl, inT (in_t1 (List.mem_of_getElem? (i := 2) rfl)) rfl, (RN_ok 8 (by decide)).1, by decide⟩, fun h => absurd h (by decide), fun _ => ⟨inT (in_t3 (List.mem_of_getElem? (i := 161) rfl)) rfl, inT (in_t3 (List.mem_of_getElem? (i := 162) rfl)) rfl⟩, by decide, rfl, by decide +kernel, plainFor_of_name ((RN_ok 8 (by decide)).2 (by decide))⟩
theorem yk74 : YK 74 := ⟨⟨inT (in_t3 (List.mem_of_getElem? (i := 171) rfl)) rfl, inT (in_t1 (List.mem_of_getElem? (i := 2) rfl)) rfl, (RN_ok 8 (by decide)).1, by decide⟩, fun h => absurd h (by decide), fun _ => ⟨inT (in_t3 (List.mem_of_getElem? (i := 169) rfl)) rfl, inT (in_t3 (List.mem_of_getElem? (i := 170) rfl)) rfl⟩, by decide, rfl, by decide +kernel, plainFor_of_name ((RN_ok 8 (by decide)).2 (by decide))⟩
theorem yk75 : YK 75 := ⟨⟨inT (in_t3 (List.mem_of_getElem? (i := 175) rfl)) rfl, inT (in_t1 (List.mem_of_getElem? (i := 2) rfl)) rfl, (RN_ok 8 (by decide)).1, by decide⟩, fun h => absurd h (by decide), fun _ => ⟨inT (in_t3 (List.mem_of_getElem? (i := 173) rfl)) rfl, inT (in_t3 (List.mem_of_getElem? (i := 174) rfl)) rfl⟩, by decide, rfl, by decide +kernel, plainFor_of_name ((RN_ok 8 (by decide)).2 (by decide))⟩
theorem yk76 : YK 76 := ⟨⟨inT (in_t3 (List.mem_of_getElem? (i := 179) rfl)) rfl, inT (in_t1 (List.mem_of_getElem? (i := 2) rfl)) rfl, (RN_ok 8 (by decide)).1, by decide⟩, fun h => absurd h (by decide), fun _ => ⟨inT (in_t3 (List.mem_of_getElem? (i := 178) rfl)) rfl, inT (List.mem_append_left _ (List.mem_of_getElem? (i := 6) rfl)) rfl⟩, by decide, rfl, by decide +kernel, plainFor_of_name ((RN_ok 8 (by decide)).2 (by decide))⟩
theorem yk77 : YK 77 := ⟨⟨inT (in_t3 (List.mem_of_getElem? (i := 183) rfl)) rfl, inT (in_t1 (List.mem_of_getElem? (i := 2) rfl)) rfl, (RN_ok 8 (by decide)).1, by decide⟩, fun h => absurd h (by decide), fun _ => ⟨inT (in_t3 (List.mem_of_getElem? (i := 182) rfl)) rfl, inT (List.mem_append_left _ (List.mem_of_getElem? (i := 7) rfl)) rfl⟩, by decide, rfl, by decide +kernel, plainFor_of_name ((RN_ok 8 (by decide)).2 (by decide))⟩
theorem yk78 : YK 78 := ⟨⟨inT (in_t3 (List.mem_of_getElem? (i := 187) rfl)) rfl, inT (in_t1 (List.mem_of_getElem? (i := 2) rfl)) rfl, (RN_ok 8 (by decide)).1, by decide⟩, fun h => absurd h (by decide), fun _ => ⟨inT (in_t3 (List.mem_of_getElem? (i := 186) rfl)) rfl, inT (List.mem_append_left _ (List.mem_of_getElem? (i := 8) rfl)) rfl⟩, by decide, rfl, by decide +kernel, plainFor_of_name ((RN_ok 8 (by decide)).2 (by decide))⟩
theorem yk79 : YK 79 := ⟨⟨inT (in_t3 (List.mem_of_getElem? (i := 211) rfl)) rfl, inT (in_t1 (List.mem_of_getElem? (i := 2) rfl)) rfl, (RN_ok 8 (by decide)).1, by decide⟩, fun h => absurd h (by decide), fun _ => ⟨inT (in_t3 (List.mem_of_getElem? (i := 209) rfl)) rfl, inT (in_t3 (List.mem_of_getElem? (i := 210) rfl)) rfl⟩, by decide, rfl, by decide +kernel, plainFor_of_name ((RN_ok 8 (by decide)).2 (by decide))⟩
theorem yk80 : YK 80 := ⟨⟨inT (in_t3 (List.mem_of_getElem? (i := 238) rfl)) rfl, inT (in_t1 (List.mem_of_getElem? (i := 2) rfl)) rfl, (RN_ok 8 (by decide)).1, by decide⟩, fun h => absurd h (by decide), fun _ => ⟨inT (in_t3 (List.mem_of_getElem? (i := 236) rfl)) rfl, inT (in_t3 (List.mem_of_getElem? (i := 237) rfl)) rfl⟩, by decide, rfl, by decide +kernel, plainFor_of_name ((RN_ok 8 (by decide)).2 (by decide))⟩
theorem yk81 : YK 81 := ⟨⟨inT (in_t4 (List.mem_of_getElem? (i := 10) rfl)) rfl, inT (in_t1 (List.mem_of_getElem? (i := 2) rfl)) rfl, (RN_ok 8 (by decide)).1, by decide⟩, fun h => absurd h (by decide), fun _ => ⟨inT (in_t4 (List.mem_of_getElem? (i := 8) rfl)) rfl, inT (in_t4 (List.mem_of_getElem? (i := 9) rfl)) rfl⟩, by decide, rfl, by decide +kernel, plainFor_of_name ((RN_ok 8 (by decide)).2 (by decide))⟩
theorem yk82 : YK 82 := ⟨⟨inT (in_t3 (List.mem_of_getElem? (i := 222) rfl)) rfl, inT (in_t1 (List.mem_of_getElem? (i := 2) rfl)) rfl, (RN_ok 8 (by decide)).1, by decide⟩, fun h => absurd h (by decide), fun _ => ⟨inT (in_t3 (List.mem_of_getElem? (i := 220) rfl)) rfl, inT (in_t3 (List.mem_of_getElem? (i := 221) rfl)) rfl⟩, by decide, rfl, by decide +kernel, plainFor_of_name ((RN_ok 8 (by decide)).2 (by decide))⟩
theorem yk83 : YK 83 := ⟨⟨inT (in_t4 (List.mem_of_getElem? (i := 37) rfl)) rfl, inT (in_t1 (List.mem_of_getElem? (i := 2) rfl)) rfl, (RN_ok 8 (by decide)).1, by decide⟩, fun h => absurd h (by decide), fun _ => ⟨inT (in_t4 (List.mem_of_getElem? (i := 35) rfl)) rfl, inT (in_t4 (List.mem_of_getElem? (i := 36) rfl)) rfl⟩, by decide, rfl, by decide +kernel, plainFor_of_name ((RN_ok 8 (by decide)).2 (by decide))⟩
theorem yk84 : YK 84 := ⟨⟨inT (in_t4 (List.mem_of_getElem? (i := 114) rfl)) rfl, inT (in_t1 (List.mem_of_getElem? (i := 2) rfl)) rfl, (RN_ok 8 (by decide)).1, by decide⟩, fun h => absurd h (by decide), fun _ => ⟨inT (in_t4 (List.mem_of_getElem? (i := 112) rfl)) rfl, inT (in_t4 (List.mem_of_getElem? (i := 113) rfl)) rfl⟩, by decide, rfl, by decide +kernel, plainFor_of_name ((RN_ok 8 (by decide)).2 (by decide))⟩
theorem yk85 : YK 85 := ⟨⟨inT (in_t3 (List.mem_of_getElem? (i := 216) rfl)) rfl, inT (in_t1 (List.mem_of_getElem? (i := 2) rfl)) rfl, (RN_ok 8 (by decide)).1, by decide⟩, fun h => absurd h (by decide), fun _ => ⟨inT (in_t3 (List.mem_of_getElem? (i := 214) rfl)) rfl, inT (in_t3 (List.mem_of_getElem? (i := 215) rfl)) rfl⟩, by decide, rfl, by decide +kernel, plainFor_of_name ((RN_ok 8 (by decide)).2 (by decide))⟩
theorem yk86 : YK 86 := ⟨⟨inT (in_t5 (List.mem_of_getElem? (i := 80) rfl)) rfl, inT (in_t1 (List.mem_of_getElem? (i := 11) rfl)) rfl, (RN_ok 9 (by decide)).1, by decide⟩, fun h => absurd h (by decide), fun _ => ⟨inT (in_t5 (List.mem_of_getElem? (i := 78) rfl)) rfl, inT (in_t5 (List.mem_of_getElem? (i := 79) rfl)) rfl⟩, by decide, rfl, by decide +kernel, plainFor_of_name ((RN_ok 9 (by decide)).2 (by decide))⟩
theorem yk87 : YK 87 := ⟨⟨inT (in_t4 (List.mem_of_getElem? (i := 14) rfl)) rfl, inT (in_t1 (List.mem_of_getElem? (i := 11) rfl)) rfl, (RN_ok 9 (by decide)).1, by decide⟩, fun h => absurd h (by decide), fun _ => ⟨inT (in_t4 (List.mem_of_getElem? (i := 12) rfl)) rfl, inT (in_t4 (List.mem_of_getElem? (i := 13) rfl)) rfl⟩, by decide, rfl, by decide +kernel, plainFor_of_name ((RN_ok 9 (by decide)).2 (by decide))⟩
theorem yk88 : YK 88 := ⟨⟨inT (in_t4 (List.mem_of_getElem? (i := 2) rfl)) rfl, inT (in_t1 (List.mem_of_getElem? (i := 11) rfl)) rfl, (RN_ok 9 (by decide)).1, by decide⟩, fun h => absurd h (by decide), fun _ => ⟨inT (in_t4 (List.mem_of_getElem? (i := 0) rfl)) rfl, inT (in_t4 (List.mem_of_getElem? (i := 1) rfl)) rfl⟩, by decide, rfl, by decide +kernel, plainFor_of_name ((RN_ok 9 (by decide)).2 (by decide))⟩
theorem yk89 : YK 89 := ⟨⟨inT (in_t4 (List.mem_of_getElem? (i := 134) rfl)) rfl, inT (in_t1 (List.mem_of_getElem? (i := 11) rfl)) rfl, (RN_ok 9 (by decide)).1, by decide⟩, fun h => absurd h (by decide), fun _ => ⟨inT (in_t4 (List.mem_of_getElem? (i := 132) rfl)) rfl, inT (in_t4 (List.mem_of_getElem? (i := 133) rfl)) rfl⟩, by decide, rfl, by decide +kernel, plainFor_of_name ((RN_ok 9 (by decide)).2 (by decide))⟩
theorem yk90 : YK 90 := ⟨⟨inT (in_t5 (List.mem_of_getElem? (i := 46) rfl)) rfl, inT (in_t1 (List.mem_of_getElem? (i := 11) rfl)) rfl, (RN_ok 9 (by decide)).1, by decide⟩, fun h => absurd h (by decide), fun _ => ⟨inT (in_t5 (List.mem_of_getElem? (i := 44) rfl)) rfl, inT (in_t5 (List.mem_of_getElem? (i := 45) rfl)) rfl⟩, by decide, rfl, by decide +kernel, plainFor_of_name ((RN_ok 9 (by decide)).2 (by decide))⟩
theorem yk91 : YK 91 := ⟨⟨inT (in_t4 (List.mem_of_getElem? (i := 210) rfl)) rfl, inT (in_t1 (List.mem_of_getElem? (i := 11) rfl)) rfl, (RN_ok 9 (by decide)).1, by decide⟩, fun h => absurd h (by decide), fun _ => ⟨inT (in_t4 (List.mem_of_getElem? (i := 208) rfl)) rfl, inT (in_t4 (List.mem_of_getElem? (i := 209) rfl)) rfl⟩, by decide, rfl, by decide +kernel, plainFor_of_name ((RN_ok 9 (by decide)).2 (by decide))⟩
theorem yk92 : YK 92 := ⟨⟨inT (in_t3 (List.mem_of_getElem? (i := 113) rfl)) rfl, inT (in_t1 (List.mem_of_getElem? (i := 16) rfl)) rfl, (RN_ok 10 (by decide)).1, by decide⟩, fun h => absurd h (by decide), fun _ => ⟨inT (in_t3 (List.mem_of_getElem? (i := 111) rfl)) rfl, inT (in_t3 (List.mem_of_getElem? (i := 112) rfl)) rfl⟩, by decide, rfl, by decide +kernel, plainFor_of_name ((RN_ok 10 (by decide)).2 (by decide))⟩
theorem yk93 : YK 93 := ⟨⟨inT (in_t3 (List.mem_of_getElem? (i := 152) rfl)) rfl, inT (in_t1 (List.mem_of_getElem? (i := 16) rfl)) rfl, (RN_ok 10 (by decide)).1, by decide⟩, fun h => absurd h (by decide), fun _ => ⟨inT (in_t3 (List.mem_of_getElem? (i := 150) rfl)) rfl, inT (in_t3 (List.mem_of_getElem? (i := 151) rfl)) rfl⟩, by decide, rfl, by decide +kernel, plainFor_of_name ((RN_ok 10 (by decide)).2 (by decide))⟩
theorem yk94 : YK 94 := ⟨⟨inT (in_t3 (List.mem_of_getElem? (i := 132) rfl)) rfl, inT (in_t1 (List.mem_of_getElem? (i := 16) rfl)) rfl, (RN_ok 10 (by decide)).1, by decide⟩, fun h => absurd h (by decide), fun _ => ⟨inT (in_t3 (List.mem_of_getElem? (i := 130) rfl)) rfl, inT (in_t3 (List.mem_of_getElem? (i := 131) rfl)) rfl⟩, by decide, rfl, by decide +kernel, plainFor_of_name ((RN_ok 10 (by decide)).2 (by decide))⟩
theorem yk95 : YK 95 := ⟨⟨inT (in_t3 (List.mem_of_getElem? (i := 136) rfl)) rfl, inT (in_t1 (List.mem_of_getElem? (i := 16) rfl)) rfl, (RN_ok 10 (by decide)).1, by decide⟩, fun h => absurd h (by decide), fun _ => ⟨inT (in_t3 (List.mem_of_getElem? (i := 135) rfl)) rfl, inT (List.mem_append_left _ (List.mem_of_getElem? (i := 4) rfl)) rfl⟩, by decide, rfl, by decide +kernel, plainFor_of_name ((RN_ok 10 (by decide)).2 (by decide))⟩
theorem yk96 : YK 96 := ⟨⟨inT (in_t3 (List.mem_of_getElem? (i := 86) rfl)) rfl, inT (in_t1 (List.mem_of_getElem? (i := 1) rfl)) rfl, (RN_ok 11 (by decide)).1, by decide⟩, fun h => absurd h (by decide), fun _ => ⟨inT (in_t3 (List.mem_of_getElem? (i := 84) rfl)) rfl, inT (in_t3 (List.mem_of_getElem? (i := 85) rfl)) rfl⟩, by decide, rfl, by decide +kernel, plainFor_of_name ((RN_ok 11 (by decide)).2 (by decide))⟩
theorem yk97 : YK 97 := ⟨⟨inT (in_t3 (List.mem_of_getElem? (i := 90) rfl)) rfl, inT (in_t1 (List.mem_of_getElem? (i := 1) rfl)) rfl, (RN_ok 11 (by decide)).1, by decide⟩, fun h => absurd h (by decide), fun _ => ⟨inT (in_t3 (List.mem_of_getElem? (i := 88) rfl)) rfl, inT (in_t3 (List.mem_of_getElem? (i := 89) rfl)) rfl⟩, by decide, rfl, by decide +kernel, plainFor_of_name ((RN_ok 11 (by decide)).2 (by decide))⟩
theorem yk98 : YK 98 := ⟨⟨inT (in_t3 (List.mem_of_getElem? (i := 94) rfl)) rfl, inT (in_t1 (List.mem_of_getElem? (i := 1) rfl)) rfl, (RN_ok 11 (by decide)).1, by decide⟩, fun h => absurd h (by decide), fun _ => ⟨inT (in_t3 (List.mem_of_getElem? (i := 92) rfl)) rfl, inT (in_t3 (List.mem_of_getElem? (i := 93) rfl)) rfl⟩, by decide, rfl, by decide +kernel, plainFor_of_name ((RN_ok 11 (by decide)).2 (by decide))⟩
theorem yk99 : YK 99 := ⟨⟨inT (in_t3 (List.mem_of_getElem? (i := 98) rfl)) rfl, inT (in_t1 (List.mem_of_getElem? (i := 1) rfl)) rfl, (RN_ok 11 (by decide)).1, by decide⟩, fun h => absurd h (by decide), fun _ => ⟨inT (in_t3 (List.mem_of_getElem? (i := 96) rfl)) rfl, inT (in_t3 (List.mem_of_getElem? (i := 97) rfl)) rfl⟩, by decide, rfl, by decide +kernel, plainFor_of_name ((RN_ok 11 (by decide)).2 (by decide))⟩
theorem yk100 : YK 100 := ⟨⟨inT (in_t3 (List.mem_of_getElem? (i := 124) rfl)) rfl, inT (in_t1 (List.mem_of_getElem? (i := 1) rfl)) rfl, (RN_ok 11 (by decide)).1, by decide⟩, fun h => absurd h (by decide), fun _ => ⟨inT (in_t3 (List.mem_of_getElem? (i := 122) rfl)) rfl, inT (in_t3 (List.mem_of_getElem? (i := 123) rfl)) rfl⟩, by decide, rfl, by decide +kernel, plainFor_of_name ((RN_ok 11 (by decide)).2 (by decide))⟩
theorem yk101 : YK 101 := ⟨⟨inT (in_t3 (List.mem_of_getElem? (i := 140) rfl)) rfl, inT (in_t1 (List.mem_of_getElem? (i := 1) rfl)) rfl, (RN_ok 11 (by decide)).1, by decide⟩, fun h => absurd h (by decide), fun _ => ⟨inT (in_t3 (List.mem_of_getElem? (i := 138) rfl)) rfl, inT (in_t3 (List.mem_of_getElem? (i := 139) rfl)) rfl⟩, by decide, rfl, by decide +kernel, plainFor_of_name ((RN_ok 11 (by decide)).2 (by decide))⟩
theorem yk102 : YK 102 := ⟨⟨inT (in_t3 (List.mem_of_getElem? (i := 148) rfl)) rfl, inT (in_t1 (List.mem_of_getElem? (i := 1) rfl)) rfl, (RN_ok 11 (by decide)).1, by decide⟩, fun h => absurd h (by decide), fun _ => ⟨inT (in_t3 (List.mem_of_getElem? (i := 146) rfl)) rfl, inT (in_t3 (List.mem_of_getElem? (i := 147) rfl)) rfl⟩, by decide, rfl, by decide +kernel, plainFor_of_name ((RN_ok 11 (by decide)).2 (by decide))⟩
theorem yk103 : YK 103 := ⟨⟨inT (in_t3 (List.mem_of_getElem? (i := 159) rfl)) rfl, inT (in_t1 (List.mem_of_getElem? (i := 1) rfl)) rfl, (RN_ok 11 (by decide)).1, by decide⟩, fun h => absurd h (by decide), fun _ => ⟨inT (in_t3 (List.mem_of_getElem? (i := 157) rfl)) rfl, inT (in_t3 (List.mem_of_getElem? (i := 158) rfl)) rfl⟩, by decide, rfl, by decide +kernel, plainFor_of_name ((RN_ok 11 (by decide)).2 (by decide))⟩
theorem yk104 : YK 104 := ⟨⟨inT (in_t3 (List.mem_of_getElem? (i := 167) rfl)) rfl, inT (in_t1 (List.mem_of_getElem? (i := 1) rfl)) rfl, (RN_ok 11 (by decide)).1, by decide⟩, fun h => absurd h (by decide), fun _ => ⟨inT (in_t3 (List.mem_of_getElem? (i := 165) rfl)) rfl, inT (in_t3 (List.mem_of_getElem? (i := 166) rfl)) rfl⟩, by decide, rfl, by decide +kernel, plainFor_of_name ((RN_ok 11 (by decide)).2 (by decide))⟩
theorem yk105 : YK 105 := ⟨⟨inT (in_t4 (List.mem_of_getElem? (i := 67) rfl)) rfl, inT (in_t1 (List.mem_of_getElem? (i := 1) rfl)) rfl, (RN_ok 11 (by decide)).1, by decide⟩, fun h => absurd h (by decide), fun _ => ⟨inT (in_t4 (List.mem_of_getElem? (i := 65) rfl)) rfl, inT (in_t4 (List.mem_of_getElem? (i := 66) rfl)) rfl⟩, by decide, rfl, by decide +kernel, plainFor_of_name ((RN_ok 11 (by decide)).2 (by decide))⟩
theorem yk106 : YK 106 := ⟨⟨inT (in_t4 (List.mem_of_getElem? (i := 118) rfl)) rfl, inT (in_t1 (List.mem_of_getElem? (i := 1) rfl)) rfl, (RN_ok 11 (by decide)).1, by decide⟩, fun h => absurd h (by decide), fun _ => ⟨inT (in_t4 (List.mem_of_getElem? (i := 116) rfl)) rfl, inT (in_t4 (List.mem_of_getElem? (i := 117) rfl)) rfl⟩, by decide, rfl, by decide +kernel, plainFor_of_name ((RN_ok 11 (by decide)).2 (by decide))⟩
theorem yk107 : YK 107 := ⟨⟨inT (in_t4 (List.mem_of_getElem? (i := 122) rfl)) rfl, inT (in_t1 (List.mem_of_getElem? (i := 1) rfl)) rfl, (RN_ok 11 (by decide)).1, by decide⟩, fun h => absurd h (by decide), fun _ => ⟨inT (in_t4 (List.mem_of_getElem? (i := 120) rfl)) rfl, inT (in_t4 (List.mem_of_getElem? (i := 121) rfl)) rfl⟩, by decide, rfl, by decide +kernel, plainFor_of_name ((RN_ok 11 (by decide)).2 (by decide))⟩
theorem yk108 : YK 108 := ⟨⟨inT (in_t4 (List.mem_of_getElem? (i := 126) rfl)) rfl, inT (in_t1 (List.mem_of_getElem? (i := 1) rfl)) rfl, (RN_ok 11 (by decide)).1, by decide⟩, fun h => absurd h (by decide), fun _ => ⟨inT (in_t4 (List.mem_of_getElem? (i := 124) rfl)) rfl, inT (in_t4 (List.mem_of_getElem? (i := 125) rfl)) rfl⟩, by decide, rfl, by decide +kernel, plainFor_of_name ((RN_ok 11 (by decide)).2 (by decide))⟩
theorem yk109 : YK 109 := ⟨⟨inT (in_t4 (List.mem_of_getElem? (i := 142) rfl)) rfl, inT (in_t1 (List.mem_of_getElem? (i := 1) rfl)) rfl, (RN_ok 11 (by decide)).1, by decide⟩, fun h => absurd h (by decide), fun _ => ⟨inT (in_t4 (List.mem_of_getElem? (i := 140) rfl)) rfl, inT (in_t4 (List.mem_of_getElem? (i := 141) rfl)) rfl⟩, by decide, rfl, by decide +kernel, plainFor_of_name ((RN_ok 11 (by decide)).2 (by decide))⟩
theorem yk110 : YK 110 := ⟨⟨inT (in_t4 (List.mem_of_getElem? (i := 158) rfl)) rfl, inT (in_t1 (List.mem_of_getElem? (i := 1) rfl)) rfl, (RN_ok 11 (by decide)).1, by decide⟩, fun h => absurd h (by decide), fun _ => ⟨inT (in_t4 (List.mem_of_getElem? (i := 156) rfl)) rfl, inT (in_t4 (List.mem_of_getElem? (i := 157) rfl)) rfl⟩, by decide, rfl, by decide +kernel, plainFor_of_name ((RN_ok 11 (by decide)).2 (by decide))⟩
theorem yk111 : YK 111 := ⟨⟨inT (in_t4 (List.mem_of_getElem? (i := 162) rfl)) rfl, inT (in_t1 (List.mem_of_getElem? (i := 1) rfl)) rfl, (RN_ok 11 (by decide)).1, by decide⟩, fun h => absurd h (by decide), fun _ => ⟨inT (in_t4 (List.mem_of_getElem? (i := 160) rfl)) rfl, inT (in_t4 (List.mem_of_getElem? (i := 161) rfl)) rfl⟩, by decide, rfl, by decide +kernel, plainFor_of_name ((RN_ok 11 (by decide)).2 (by decide))⟩
theorem yk112 : YK 112 := ⟨⟨inT (in_t4 (List.mem_of_getElem? (i := 166) rfl)) rfl, inT (in_t1 (List.mem_of_getElem? (i := 1) rfl)) rfl, (RN_ok 11 (by decide)).1, by decide⟩, fun h => absurd h (by decide), fun _ => ⟨inT (in_t4 (List.mem_of_getElem? (i := 164) rfl)) rfl, inT (in_t4 (List.mem_of_getElem? (i := 165) rfl)) rfl⟩, by decide, rfl, by decide +kernel, plainFor_of_name ((RN_ok 11 (by decide)).2 (by decide))⟩
theorem yk113 : YK 113 := ⟨⟨inT (in_t4 (List.mem_of_getElem? (i := 174) rfl)) rfl, inT (in_t1 (List.mem_of_getElem? (i := 1) rfl)) rfl, (RN_ok 11 (by decide)).1, by decide⟩, fun h => absurd h (by decide), fun _ => ⟨inT (in_t4 (List.mem_of_getElem? (i := 172) rfl)) rfl, inT (in_t4 (List.mem_of_getElem? (i := 173) rfl)) rfl⟩, by decide, rfl, by decide +kernel, plainFor_of_name ((RN_ok 11 (by decide)).2 (by decide))⟩
theorem yk114 : YK 114 := ⟨⟨inT (in_t4 (List.mem_of_getElem? (i := 228) rfl)) rfl, inT (in_t1 (List.mem_of_getElem? (i := 1) rfl)) rfl, (RN_ok 11 (by decide)).1, by decide⟩, fun h => absurd h (by decide), fun _ => ⟨inT (in_t4 (List.mem_of_getElem? (i := 226) rfl)) rfl, inT (in_t4 (List.mem_of_getElem? (i := 227) rfl)) rfl⟩, by decide, rfl, by decide +kernel, plainFor_of_name ((RN_ok 11 (by decide)).2 (by decide))⟩
theorem yk115 : YK 115 := ⟨⟨inT (in_t4 (List.mem_of_getElem? (i := 232) rfl)) rfl, inT (in_t1 (List.mem_of_getElem? (i := 1) rfl)) rfl, (RN_ok 11 (by decide)).1, by decide⟩, fun h => absurd h (by decide), fun _ => ⟨inT (in_t4 (List.mem_of_getElem? (i := 230) rfl)) rfl, inT (in_t4 (List.mem_of_getElem? (i := 231) rfl)) rfl⟩, by decide, rfl, by decide +kernel, plainFor_of_name ((RN_ok 11 (by decide)).2 (by decide))⟩
theorem yk116 : YK 116 := ⟨⟨inT (in_t4 (List.mem_of_getElem? (i := 237) rfl)) rfl, inT (in_t1 (List.mem_of_getElem? (i := 1) rfl)) rfl, (RN_ok 11 (by decide)).1, by decide⟩, fun h => absurd h (by decide), fun _ => ⟨inT (in_t4 (List.mem_of_getElem? (i := 235) rfl)) rfl, inT (in_t4 (List.mem_of_getElem? (i := 236) rfl)) rfl⟩, by decide, rfl, by decide +kernel, plainFor_of_name ((RN_ok 11 (by decide)).2 (by decide))⟩
theorem yk117 : YK 117 := ⟨⟨inT (in_t5 (List.mem_of_getElem? (i := 3) rfl)) rfl, inT (in_t1 (List.mem_of_getElem? (i := 1) rfl)) rfl, (RN_ok 11 (by decide)).1, by decide⟩, fun h => absurd h (by decide), fun _ => ⟨inT (in_t5 (List.mem_of_getElem? (i := 1) rfl)) rfl, inT (in_t5 (List.mem_of_getElem? (i := 2) rfl)) rfl⟩, by decide, rfl, by decide +kernel, plainFor_of_name ((RN_ok 11 (by decide)).2 (by decide))⟩
theorem yk118 : YK 118 := ⟨⟨inT (in_t5 (List.mem_of_getElem? (i := 8) rfl)) rfl, inT (in_t1 (List.mem_of_getElem? (i := 1) rfl)) rfl, (RN_ok 11 (by decide)).1, by decide⟩, fun h => absurd h (by decide), fun _ => ⟨inT (in_t5 (List.mem_of_getElem? (i := 6) rfl)) rfl, inT (in_t5 (List.mem_of_getElem? (i := 7) rfl)) rfl⟩, by decide, rfl, by decide +kernel, plainFor_of_name ((RN_ok 11 (by decide)).2 (by decide))⟩
theorem yk119 : YK 119 := ⟨⟨inT (in_t5 (List.mem_of_getElem? (i := 13) rfl)) rfl, inT (in_t1 (List.mem_of_getElem? (i := 1) rfl)) rfl, (RN_ok 11 (by decide)).1, by decide⟩, fun h => absurd h (by decide), fun _ => ⟨inT (in_t5 (List.mem_of_getElem? (i := 11) rfl)) rfl, inT (in_t5 (List.mem_of_getElem? (i := 12) rfl)) rfl⟩, by decide, rfl, by decide +kernel, plainFor_of_name ((RN_ok 11 (by decide)).2 (by decide))⟩
theorem yk120 : YK 120 := ⟨⟨inT (in_t5 (List.mem_of_getElem? (i := 21) rfl)) rfl, inT (in_t1 (List.mem_of_getElem? (i := 1) rfl)) rfl, (RN_ok 11 (by decide)).1, by decide⟩, fun h => absurd h (by decide), fun _ => ⟨inT (in_t5 (List.mem_of_getElem? (i := 19) rfl)) rfl, inT (in_t5 (List.mem_of_getElem? (i := 20) rfl)) rfl⟩, by decide, rfl, by decide +kernel, plainFor_of_name ((RN_ok 11 (by decide)).2 (by decide))⟩
theorem yk121 : YK 121 := ⟨⟨inT (in_t5 (List.mem_of_getElem? (i := 25) rfl)) rfl, inT (in_t1 (List.mem_of_getElem? (i := 1) rfl)) rfl, (RN_ok 11 (by decide)).1, by decide⟩, fun h => absurd h (by decide), fun _ => ⟨inT (in_t5 (List.mem_of_getElem? (i := 23) rfl)) rfl, inT (in_t5 (List.mem_of_getElem? (i := 24) rfl)) rfl⟩, by decide, rfl, by decide +kernel, plainFor_of_name ((RN_ok 11 (by decide)).2 (by decide))⟩
theorem yk122 : YK 122 := ⟨⟨inT (in_t5 (List.mem_of_getElem? (i := 29) rfl)) rfl, inT (in_t1 (List.mem_of_getElem? (i := 1) rfl)) rfl, (RN_ok 11 (by decide)).1, by decide⟩, fun h => absurd h (by decide), fun _ => ⟨inT (in_t5 (List.mem_of_getElem? (i := 27) rfl)) rfl, inT (in_t5 (List.mem_of_getElem? (i := 28) rfl)) rfl⟩, by decide, rfl, by decide +kernel, plainFor_of_name ((RN_ok 11 (by decide)).2 (by decide))⟩
theorem yk123 : YK 123 := ⟨⟨inT (in_t5 (List.mem_of_getElem? (i := 33) rfl)) rfl, inT (in_t1 (List.mem_of_getElem? (i := 1) rfl)) rfl, (RN_ok 11 (by decide)).1, by decide⟩, fun h => absurd h (by decide), fun _ => ⟨inT (in_t5 (List.mem_of_getElem? (i := 31) rfl)) rfl, inT (in_t5 (List.mem_of_getElem? (i := 32) rfl)) rfl⟩, by decide, rfl, by decide +kernel, plainFor_of_name ((RN_ok 11 (by decide)).2 (by decide))⟩
theorem yk124 : YK 124 := ⟨⟨inT (in_t5 (List.mem_of_getElem? (i := 38) rfl)) rfl, inT (in_t1 (List.mem_of_getElem? (i := 1) rfl)) rfl, (RN_ok 11 (by decide)).1, by decide⟩, fun h => absurd h (by decide), fun _ => ⟨inT (in_t5 (List.mem_of_getElem? (i := 36) rfl)) rfl, inT (in_t5 (List.mem_of_getElem? (i := 37) rfl)) rfl⟩, by decide, rfl, by decide +kernel, plainFor_of_name ((RN_ok 11 (by decide)).2 (by decide))⟩
theorem yk125 : YK 125 := ⟨⟨inT (in_t5 (List.mem_of_getElem? (i := 50) rfl)) rfl, inT (in_t1 (List.mem_of_getElem? (i := 1) rfl)) rfl, (RN_ok 11 (by decide)).1, by decide⟩, fun h => absurd h (by decide), fun _ => ⟨inT (in_t5 (List.mem_of_getElem? (i := 48) rfl)) rfl, inT (in_t5 (List.mem_of_getElem? (i := 49) rfl)) rfl⟩, by decide, rfl, by decide +kernel, plainFor_of_name ((RN_ok 11 (by decide)).2 (by decide))⟩
theorem yk126 : YK 126 := ⟨⟨inT (in_t5 (List.mem_of_getElem? (i := 54) rfl)) rfl, inT (in_t1 (List.mem_of_getElem? (i := 1) rfl)) rfl, (RN_ok 11 (by decide)).1, by decide⟩, fun h => absurd h (by decide), fun _ => ⟨inT (in_t5 (List.mem_of_getElem? (i := 52) rfl)) rfl, inT (in_t5 (List.mem_of_getElem? (i := 53) rfl)) rfl⟩, by decide, rfl, by decide +kernel, plainFor_of_name ((RN_ok 11 (by decide)).2 (by decide))⟩
theorem yk127 : YK 127 := ⟨⟨inT (in_t5 (List.mem_of_getElem? (i := 63) rfl)) rfl, inT (in_t1 (List.mem_of_getElem? (i := 1) rfl)) rfl, (RN_ok 11 (by decide)).1, by decide⟩, fun h => absurd h (by decide), fun _ => ⟨inT (in_t5 (List.mem_of_getElem? (i := 61) rfl)) rfl, inT (in_t5 (List.mem_of_getElem? (i := 62) rfl)) rfl⟩, by decide, rfl, by decide +kernel, plainFor_of_name ((RN_ok 11 (by decide)).2 (by decide))⟩
theorem yk128 : YK 128 := ⟨⟨inT (in_t5 (List.mem_of_getElem? (i := 68) rfl)) rfl, inT (in_t1 (List.mem_of_getElem? (i := 1) rfl)) rfl, (RN_ok 11 (by decide)).1, by decide⟩, fun h => absurd h (by decide), fun _ => ⟨inT (in_t5 (List.mem_of_getElem? (i := 66) rfl)) rfl, inT (in_t5 (List.mem_of_getElem? (i := 67) rfl)) rfl⟩, by decide, rfl, by decide +kernel, plainFor_of_name ((RN_ok 11 (by decide)).2 (by decide))⟩
theorem yk129 : YK 129 := ⟨⟨inT (in_t5 (List.mem_of_getElem? (i := 92) rfl)) rfl, inT (in_t1 (List.mem_of_getElem? (i := 1) rfl)) rfl, (RN_ok 11 (by decide)).1, by decide⟩, fun h => absurd h (by decide), fun _ => ⟨inT (in_t5 (List.mem_of_getElem? (i := 90) rfl)) rfl, inT (in_t5 (List.mem_of_getElem? (i := 91) rfl)) rfl⟩, by decide, rfl, by decide +kernel, plainFor_of_name ((RN_ok 11 (by decide)).2 (by decide))⟩
theorem yk130 : YK 130 := ⟨⟨inT (in_t5 (List.mem_of_getElem? (i := 96) rfl)) rfl, inT (in_t1 (List.mem_of_getElem? (i := 1) rfl)) rfl, (RN_ok 11 (by decide)).1, by decide⟩, fun h => absurd h (by decide), fun _ => ⟨inT (in_t5 (List.mem_of_getElem? (i := 94) rfl)) rfl, inT (in_t5 (List.mem_of_getElem? (i := 95) rfl)) rfl⟩, by decide, rfl, by decide +kernel, plainFor_of_name ((RN_ok 11 (by decide)).2 (by decide))⟩
theorem yk131 : YK 131 := ⟨⟨inT (in_t5 (List.mem_of_getElem? (i := 109) rfl)) rfl, inT (in_t1 (List.mem_of_getElem? (i := 1) rfl)) rfl, (RN_ok 11 (by decide)).1, by decide⟩, fun h => absurd h (by decide), fun _ => ⟨inT (in_t5 (List.mem_of_getElem? (i := 107) rfl)) rfl, inT (in_t5 (List.mem_of_getElem? (i := 108) rfl)) rfl⟩, by decide, rfl, by decide +kernel, plainFor_of_name ((RN_ok 11 (by decide)).2 (by decide))⟩
theorem yk132 : YK 132 := ⟨⟨inT (in_t5 (List.mem_of_getElem? (i := 113) rfl)) rfl, inT (in_t1 (List.mem_of_getElem? (i := 1) rfl)) rfl, (RN_ok 11 (by decide)).1, by decide⟩, fun h => absurd h (by decide), fun _ => ⟨inT (in_t5 (List.mem_of_getElem? (i := 111) rfl)) rfl, inT (in_t5 (List.mem_of_getElem? (i := 112) rfl)) rfl⟩, by decide, rfl, by decide +kernel, plainFor_of_name ((RN_ok 11 (by decide)).2 (by decide))⟩
theorem yk133 : YK 133 := ⟨⟨inT (in_t5 (List.mem_of_getElem? (i := 124) rfl)) rfl, inT (in_t1 (List.mem_of_getElem? (i := 1) rfl)) rfl, (RN_ok 11 (by decide)).1, by decide⟩, fun h => absurd h (by decide), fun _ => ⟨inT (in_t5 (List.mem_of_getElem? (i := 122) rfl)) rfl, inT (in_t5 (List.mem_of_getElem? (i := 123) rfl)) rfl⟩, by decide, rfl, by decide +kernel, plainFor_of_name ((RN_ok 11 (by decide)).2 (by decide))⟩
theorem yk134 : YK 134 := ⟨⟨inT (in_t5 (List.mem_of_getElem? (i := 138) rfl)) rfl, inT (in_t1 (List.mem_of_getElem? (i := 1) rfl)) rfl, (RN_ok 11 (by decide)).1, by decide⟩, fun h => absurd h (by decide), fun _ => ⟨inT (in_t5 (List.mem_of_getElem? (i := 136) rfl)) rfl, inT (in_t5 (List.mem_of_getElem? (i := 137) rfl)) rfl⟩, by decide, rfl, by decide +kernel, plainFor_of_name ((RN_ok 11 (by decide)).2 (by decide))⟩
theorem yk135 : YK 135 := ⟨⟨inT (in_t5 (List.mem_of_getElem? (i := 150) rfl)) rfl, inT (in_t1 (List.mem_of_getElem? (i := 1) rfl)) rfl, (RN_ok 11 (by decide)).1, by decide⟩, fun h => absurd h (by decide), fun _ => ⟨inT (in_t5 (List.mem_of_getElem? (i := 148) rfl)) rfl, inT (in_t5 (List.mem_of_getElem? (i := 149) rfl)) rfl⟩, by decide, rfl, by decide +kernel, plainFor_of_name ((RN_ok 11 (by decide)).2 (by decide))⟩
theorem yk136 : YK 136 := ⟨⟨inT (in_t5 (List.mem_of_getElem? (i := 166) rfl)) rfl, inT (in_t1 (List.mem_of_getElem? (i := 1) rfl)) rfl, (RN_ok 11 (by decide)).1, by decide⟩, fun h => absurd h (by decide), fun _ => ⟨inT (in_t5 (List.mem_of_getElem? (i := 164) rfl)) rfl, inT (in_t5 (List.mem_of_getElem? (i := 165) rfl)) rfl⟩, by decide, rfl, by decide +kernel, plainFor_of_name ((RN_ok 11 (by decide)).2 (by decide))⟩
theorem yk137 : YK 137 := ⟨⟨inT (in_t5 (List.mem_of_getElem? (i := 170) rfl)) rfl, inT (in_t1 (List.mem_of_getElem? (i := 1) rfl)) rfl, (RN_ok 11 (by decide)).1, by decide⟩, fun h => absurd h (by decide), fun _ => ⟨inT (in_t5 (List.mem_of_getElem? (i := 168) rfl)) rfl, inT (in_t5 (List.mem_of_getElem? (i := 169) rfl)) rfl⟩, by decide, rfl, by decide +kernel, plainFor_of_name ((RN_ok 11 (by decide)).2 (by decide))⟩
theorem yk138 : YK 138 := ⟨⟨inT (in_t5 (List.mem_of_getElem? (i := 201) rfl)) rfl, inT (in_t1 (List.mem_of_getElem? (i := 1) rfl)) rfl, (RN_ok 11 (by decide)).1, by decide⟩, fun h => absurd h (by decide), fun _ => ⟨inT (in_t5 (List.mem_of_getElem? (i := 199) rfl)) rfl, inT (in_t5 (List.mem_of_getElem? (i := 200) rfl)) rfl⟩, by decide, rfl, by decide +kernel, plainFor_of_name ((RN_ok 11 (by decide)).2 (by decide))⟩
theorem yk139 : YK 139 := ⟨⟨inT (in_t5 (List.mem_of_getElem? (i := 205) rfl)) rfl, inT (in_t1 (List.mem_of_getElem? (i := 1) rfl)) rfl, (RN_ok 11 (by decide)).1, by decide⟩, fun h => absurd h (by decide), fun _ => ⟨inT (in_t5 (List.mem_of_getElem? (i := 203) rfl)) rfl, inT (in_t5 (List.mem_of_getElem? (i := 204) rfl)) rfl⟩, by decide, rfl, by decide +kernel, plainFor_of_name ((RN_ok 11 (by decide)).2 (by decide))⟩
theorem yk140 : YK 140 := ⟨⟨inT (in_t5 (List.mem_of_getElem? (i := 220) rfl)) rfl, inT (in_t1 (List.mem_of_getElem? (i := 1) rfl)) rfl, (RN_ok 11 (by decide)).1, by decide⟩, fun h => absurd h (by decide), fun _ => ⟨inT (in_t5 (List.mem_of_getElem? (i := 218) rfl)) rfl, inT (in_t5 (List.mem_of_getElem? (i := 219) rfl)) rfl⟩, by decide, rfl, by decide +kernel, plainFor_of_name ((RN_ok 11 (by decide)).2 (by decide))⟩
theorem yk141 : YK 141 := ⟨⟨inT (in_t5 (List.mem_of_getElem? (i := 224) rfl)) rfl, inT (in_t1 (List.mem_of_getElem? (i := 1) rfl)) rfl, (RN_ok 11 (by decide)).1, by decide⟩, fun h => absurd h (by decide), fun _ => ⟨inT (in_t5 (List.mem_of_getElem? (i := 222) rfl)) rfl, inT (in_t5 (List.mem_of_getElem? (i := 223) rfl)) rfl⟩, by decide, rfl, by decide +kernel, plainFor_of_name ((RN_ok 11 (by decide)).2 (by decide))⟩
theorem yk142 : YK 142 := ⟨⟨inT (in_t5 (List.mem_of_getElem? (i := 236) rfl)) rfl, inT (in_t1 (List.mem_of_getElem? (i := 1) rfl)) rfl, (RN_ok 11 (by decide)).1, by decide⟩, fun h => absurd h (by decide), fun _ => ⟨inT (in_t5 (List.mem_of_getElem? (i := 234) rfl)) rfl, inT (in_t5 (List.mem_of_getElem? (i := 235) rfl)) rfl⟩, by decide, rfl, by decide +kernel, plainFor_of_name ((RN_ok 11 (by decide)).2 (by decide))⟩
theorem yk143 : YK 143 := ⟨⟨inT (in_t6 (List.mem_of_getElem? (i := 0) rfl)) rfl, inT (in_t1 (List.mem_of_getElem? (i := 1) rfl)) rfl, (RN_ok 11 (by decide)).1, by decide⟩, fun h => absurd h (by decide), fun _ => ⟨inT (in_t5 (List.mem_of_getElem? (i := 238) rfl)) rfl, inT (in_t5 (List.mem_of_getElem? (i := 239) rfl)) rfl⟩, by decide, rfl, by decide +kernel, plainFor_of_name ((RN_ok 11 (by decide)).2 (by decide))⟩
theorem yk144 : YK 144 := ⟨⟨inT (in_t6 (List.mem_of_getElem? (i := 7) rfl)) rfl, inT (in_t1 (List.mem_of_getElem? (i := 1) rfl)) rfl, (RN_ok 11 (by decide)).1, by decide⟩, fun h => absurd h (by decide), fun _ => ⟨inT (in_t6 (List.mem_of_getElem? (i := 5) rfl)) rfl, inT (in_t6 (List.mem_of_getElem? (i := 6) rfl)) rfl⟩, by decide, rfl, by decide +kernel, plainFor_of_name ((RN_ok 11 (by decide)).2 (by decide))⟩
theorem yk145 : YK 145 := ⟨⟨inT (in_t6 (List.mem_of_getElem? (i := 15) rfl)) rfl, inT (in_t1 (List.mem_of_getElem? (i := 1) rfl)) rfl, (RN_ok 11 (by decide)).1, by decide⟩, fun h => absurd h (by decide), fun _ => ⟨inT (in_t6 (List.mem_of_getElem? (i := 13) rfl)) rfl, inT (in_t6 (List.mem_of_getElem? (i := 14) rfl)) rfl⟩, by decide, rfl, by decide +kernel, plainFor_of_name ((RN_ok 11 (by decide)).2 (by decide))⟩
theorem yk146 : YK 146 := ⟨⟨inT (in_t6 (List.mem_of_getElem? (i := 19) rfl)) rfl, inT (in_t1 (List.mem_of_getElem? (i := 1) rfl)) rfl, (RN_ok 11 (by decide)).1, by decide⟩, fun h => absurd h (by decide), fun _ => ⟨inT (in_t6 (List.mem_of_getElem? (i := 17) rfl)) rfl, inT (in_t6 (List.mem_of_getElem? (i := 18) rfl)) rfl⟩, by decide, rfl, by decide +kernel, plainFor_of_name ((RN_ok 11 (by decide)).2 (by decide))⟩
theorem yk147 : YK 147 := ⟨⟨inT (in_t6 (List.mem_of_getElem? (i := 36) rfl)) rfl, inT (in_t1 (List.mem_of_getElem? (i := 1) rfl)) rfl, (RN_ok 11 (by decide)).1, by decide⟩, fun h => absurd h (by decide), fun _ => ⟨inT (in_t6 (List.mem_of_getElem? (i := 34) rfl)) rfl, inT (in_t6 (List.mem_of_getElem? (i := 35) rfl)) rfl⟩, by decide, rfl, by decide +kernel, plainFor_of_name ((RN_ok 11 (by decide)).2 (by decide))⟩
theorem yk148 : YK 148 := ⟨⟨inT (in_t6 (List.mem_of_getElem? (i := 46) rfl)) rfl, inT (in_t1 (List.mem_of_getElem? (i := 1) rfl)) rfl, (RN_ok 11 (by decide)).1, by decide⟩, fun h => absurd h (by decide), fun _ => ⟨inT (in_t6 (List.mem_of_getElem? (i := 44) rfl)) rfl, inT (in_t6 (List.mem_of_getElem? (i := 45) rfl)) rfl⟩, by decide, rfl, by decide +kernel, plainFor_of_name ((RN_ok 11 (by decide)).2 (by decide))⟩
theorem yk149 : YK 149 := ⟨⟨inT (in_t6 (List.mem_of_getElem? (i := 55) rfl)) rfl, inT (in_t1 (List.mem_of_getElem? (i := 1) rfl)) rfl, (RN_ok 11 (by decide)).1, by decide⟩, fun h => absurd h (by decide), fun _ => ⟨inT (in_t6 (List.mem_of_getElem? (i := 53) rfl)) rfl, inT (in_t6 (List.mem_of_getElem? (i := 54) rfl)) rfl⟩, by decide, rfl, by decide +kernel, plainFor_of_name ((RN_ok 11 (by decide)).2 (by decide))⟩
theorem yk150 : YK 150 := ⟨⟨inT (in_t6 (List.mem_of_getElem? (i := 59) rfl)) rfl, inT (in_t1 (List.mem_of_getElem? (i := 1) rfl)) rfl, (RN_ok 11 (by decide)).1, by decide⟩, fun h => absurd h (by decide), fun _ => ⟨inT (in_t6 (List.mem_of_getElem? (i := 57) rfl)) rfl, inT (in_t6 (List.mem_of_getElem? (i := 58) rfl)) rfl⟩, by decide, rfl, by decide +kernel, plainFor_of_name ((RN_ok 11 (by decide)).2 (by decide))⟩
theorem yk151 : YK 151 := ⟨⟨inT (in_t6 (List.mem_of_getElem? (i := 75) rfl)) rfl, inT (in_t1 (List.mem_of_getElem? (i := 1) rfl)) rfl, (RN_ok 11 (by decide)).1, by decide⟩, fun h => absurd h (by decide), fun _ => ⟨inT (in_t6 (List.mem_of_getElem? (i := 73) rfl)) rfl, inT (in_t6 (List.mem_of_getElem? (i := 74) rfl)) rfl⟩, by decide, rfl, by decide +kernel, plainFor_of_name ((RN_ok 11 (by decide)).2 (by decide))⟩
theorem yk152 : YK 152 := ⟨⟨inT (in_t6 (List.mem_of_getElem? (i := 79) rfl)) rfl, inT (in_t1 (List.mem_of_getElem? (i := 1) rfl)) rfl, (RN_ok 11 (by decide)).1, by decide⟩, fun h => absurd h (by decide), fun _ => ⟨inT (in_t6 (List.mem_of_getElem? (i := 77) rfl)) rfl, inT (in_t6 (List.mem_of_getElem? (i := 78) rfl)) rfl⟩, by decide, rfl, by decide +kernel, plainFor_of_name ((RN_ok 11 (by decide)).2 (by decide))⟩
theorem yk153 : YK 153 := ⟨⟨inT (in_t6 (List.mem_of_getElem? (i := 121) rfl)) rfl, inT (in_t1 (List.mem_of_getElem? (i := 1) rfl)) rfl, (RN_ok 11 (by decide)).1, by decide⟩, fun h => absurd h (by decide), fun _ => ⟨inT (in_t6 (List.mem_of_getElem? (i := 119) rfl)) rfl, inT (in_t6 (List.mem_of_getElem? (i := 120) rfl)) rfl⟩, by decide, rfl, by decide +kernel, plainFor_of_name ((RN_ok 11 (by decide)).2 (by decide))⟩
theorem yk154 : YK 154 := ⟨⟨inT (in_t6 (List.mem_of_getElem? (i := 125) rfl)) rfl, inT (in_t1 (List.mem_of_getElem? (i := 1) rfl)) rfl, (RN_ok 11 (by decide)).1, by decide⟩, fun h => absurd h (by decide), fun _ => ⟨inT (in_t6 (List.mem_of_getElem? (i := 123) rfl)) rfl, inT (in_t6 (List.mem_of_getElem? (i := 124) rfl)) rfl⟩, by decide, rfl, by decide +kernel, plainFor_of_name ((RN_ok 11 (by decide)).2 (by decide))⟩
theorem yk155 : YK 155 := ⟨⟨inT (in_t6 (List.mem_of_getElem? (i := 129) rfl)) rfl, inT (in_t1 (List.mem_of_getElem? (i := 1) rfl)) rfl, (RN_ok 11 (by decide)).1, by decide⟩, fun h => absurd h (by decide), fun _ => ⟨inT (in_t6 (List.mem_of_getElem? (i := 127) rfl)) rfl, inT (in_t6 (List.mem_of_getElem? (i := 128) rfl)) rfl⟩, by decide, rfl, by decide +kernel, plainFor_of_name ((RN_ok 11 (by decide)).2 (by decide))⟩
theorem yk156 : YK 156 := ⟨⟨inT (in_t6 (List.mem_of_getElem? (i := 139) rfl)) rfl, inT (in_t1 (List.mem_of_getElem? (i := 1) rfl)) rfl, (RN_ok 11 (by decide)).1, by decide⟩, fun h => absurd h (by decide), fun _ => ⟨inT (in_t6 (List.mem_of_getElem? (i := 137) rfl)) rfl, inT (in_t6 (List.mem_of_getElem? (i := 138) rfl)) rfl⟩, by decide, rfl, by decide +kernel, plainFor_of_name ((RN_ok 11 (by decide)).2 (by decide))⟩
theorem yk157 : YK 157 := ⟨⟨inT (in_t4 (List.mem_of_getElem? (i := 63) rfl)) rfl, inT (in_t1 (List.mem_of_getElem? (i := 1) rfl)) rfl, (RN_ok 11 (by decide)).1, by decide⟩, fun h => absurd h (by decide), fun _ => ⟨inT (in_t4 (List.mem_of_getElem? (i := 62) rfl)) rfl, inT (List.mem_append_left _ (List.mem_of_getElem? (i := 18) rfl)) rfl⟩, by decide, rfl, by decide +kernel, plainFor_of_name ((RN_ok 11 (by decide)).2 (by decide))⟩
theorem yk158 : YK 158 := ⟨⟨inT (in_t4 (List.mem_of_getElem? (i := 170) rfl)) rfl, inT (in_t1 (List.mem_of_getElem? (i := 1) rfl)) rfl, (RN_ok 11 (by decide)).1, by decide⟩, fun h => absurd h (by decide), fun _ => ⟨inT (in_t4 (List.mem_of_getElem? (i := 169) rfl)) rfl, inT (List.mem_append_left _ (List.mem_of_getElem? (i := 27) rfl)) rfl⟩, by decide, rfl, by decide +kernel, plainFor_of_name ((RN_ok 11 (by decide)).2 (by decide))⟩
theorem yk159 : YK 159 := ⟨⟨inT (in_t3 (List.mem_of_getElem? (i := 144) rfl)) rfl, inT (in_t1 (List.mem_of_getElem? (i := 1) rfl)) rfl, (RN_ok 11 (by decide)).1, by decide⟩, fun h => absurd h (by decide), fun _ => ⟨inT (in_t3 (List.mem_of_getElem? (i := 143) rfl)) rfl, inT (List.mem_append_left _ (List.mem_of_getElem? (i := 5) rfl)) rfl⟩, by decide, rfl, by decide +kernel, plainFor_of_name ((RN_ok 11 (by decide)).2 (by decide))⟩
theorem yk160 : YK 160 := ⟨⟨inT (in_t3 (List.mem_of_getElem? (i := 120) rfl)) rfl, inT (in_t1 (List.mem_of_getElem? (i := 1) rfl)) rfl, (RN_ok 11 (by decide)).1, by decide⟩, fun h => absurd h (by decide), fun _ => ⟨inT (in_t3 (List.mem_of_getElem? (i := 119) rfl)) rfl, inT (List.mem_append_left _ (List.mem_of_getElem? (i := 2) rfl)) rfl⟩, by decide, rfl, by decide +kernel, plainFor_of_name ((RN_ok 11 (by decide)).2 (by decide))⟩
theorem yk161 : YK 161 := ⟨⟨inT (in_t3 (List.mem_of_getElem? (i := 109) rfl)) rfl, inT (in_t1 (List.mem_of_getElem? (i := 1) rfl)) rfl, (RN_ok 11 (by decide)).1, by decide⟩, fun h => absurd h (by decide), fun _ => ⟨inT (in_t3 (List.mem_of_getElem? (i := 108) rfl)) rfl, inT (List.mem_append_left _ (List.mem_of_getElem? (i := 1) rfl)) rfl⟩, by decide, rfl, by decide +kernel, plainFor_of_name ((RN_ok 11 (by decide)).2 (by decide))⟩
theorem yk162 : YK 162 := ⟨⟨inT (in_t3 (List.mem_of_getElem? (i := 102) rfl)) rfl, inT (in_t1 (List.mem_of_getElem? (i := 1) rfl)) rfl, (RN_ok 11 (by decide)).1, by decide⟩, fun h => absurd h (by decide), fun _ => ⟨inT (in_t3 (List.mem_of_getElem? (i := 101) rfl)) rfl, inT (List.mem_append_left _ (List.mem_of_getElem? (i := 0) rfl)) rfl⟩, by decide, rfl, by decide +kernel, plainFor_of_name ((RN_ok 11 (by decide)).2 (by decide))⟩
theorem yk163 : YK 163 := ⟨⟨inT (in_t4 (List.mem_of_getElem? (i := 130) rfl)) rfl, inT (in_t1 (List.mem_of_getElem? (i := 1) rfl)) rfl, (RN_ok 11 (by decide)).1, by decide⟩, fun h => absurd h (by decide), fun _ => ⟨inT (in_t4 (List.mem_of_getElem? (i := 129) rfl)) rfl, inT (List.mem_append_left _ (List.mem_of_getElem? (i := 25) rfl)) rfl⟩, by decide, rfl, by decide +kernel, plainFor_of_name ((RN_ok 11 (by decide)).2 (by decide))⟩
theorem yk164 : YK 164 := ⟨⟨inT (in_t4 (List.mem_of_getElem? (i := 146) rfl)) rfl, inT (in_t1 (List.mem_of_getElem? (i := 1) rfl)) rfl, (RN_ok 11 (by decide)).1, by decide⟩, fun h => absurd h (by decide), fun _ => ⟨inT (in_t4 (List.mem_of_getElem? (i := 145) rfl)) rfl, inT (List.mem_append_left _ (List.mem_of_getElem? (i := 26) rfl)) rfl⟩, by decide, rfl, by decide +kernel, plainFor_of_name ((RN_ok 11 (by decide)).2 (by decide))⟩
theorem yk165 : YK 165 := ⟨⟨inT (in_t5 (List.mem_of_getElem? (i := 142) rfl)) rfl, inT (in_t1 (List.mem_of_getElem? (i := 1) rfl)) rfl, (RN_ok 11 (by decide)).1, by decide⟩, fun h => absurd h (by decide), fun _ => ⟨inT (in_t5 (List.mem_of_getElem? (i := 141) rfl)) rfl, inT (List.mem_append_left _ (List.mem_of_getElem? (i := 32) rfl)) rfl⟩, by decide, rfl, by decide +kernel, plainFor_of_name ((RN_ok 11 (by decide)).2 (by decide))⟩
theorem yk166 : YK 166 := ⟨⟨inT (in_t3 (List.mem_of_getElem? (i := 128) rfl)) rfl, inT (in_t1 (List.mem_of_getElem? (i := 1) rfl)) rfl, (RN_ok 11 (by decide)).1, by decide⟩, fun h => absurd h (by decide), fun _ => ⟨inT (in_t3 (List.mem_of_getElem? (i := 127) rfl)) rfl, inT (List.mem_append_left _ (List.mem_of_getElem? (i := 3) rfl)) rfl⟩, by decide, rfl, by decide +kernel, plainFor_of_name ((RN_ok 11 (by decide)).2 (by decide))⟩
theorem yk167 : YK 167 := ⟨⟨inT (in_t6 (List.mem_of_getElem? (i := 23) rfl)) rfl, inT (in_t1 (List.mem_of_getElem? (i := 1) rfl)) rfl, (RN_ok 11 (by decide)).1, by decide⟩, fun h => absurd h (by decide), fun _ => ⟨inT (in_t6 (List.mem_of_getElem? (i := 22) rfl)) rfl, inT (List.mem_append_left _ (List.mem_of_getElem? (i := 38) rfl)) rfl⟩, by decide, rfl, by decide +kernel, plainFor_of_name ((RN_ok 11 (by decide)).2 (by decide))⟩
theorem yk168 : YK 168 := ⟨⟨inT (in_t6 (List.mem_of_getElem? (i := 63) rfl)) rfl, inT (in_t1 (List.mem_of_getElem? (i := 1) rfl)) rfl, (RN_ok 11 (by decide)).1, by decide⟩, fun h => absurd h (by decide), fun _ => ⟨inT (in_t6 (List.mem_of_getElem? (i := 62) rfl)) rfl, inT (List.mem_append_left _ (List.mem_of_getElem? (i := 40) rfl)) rfl⟩, by decide, rfl, by decide +kernel, plainFor_of_name ((RN_ok 11 (by decide)).2 (by decide))⟩
theorem yk169 : YK 169 := ⟨⟨inT (in_t6 (List.mem_of_getElem? (i := 68) rfl)) rfl, inT (in_t1 (List.mem_of_getElem? (i := 1) rfl)) rfl, (RN_ok 11 (by decide)).1, by decide⟩, fun h => absurd h (by decide), fun _ => ⟨inT (in_t6 (List.mem_of_getElem? (i := 67) rfl)) rfl, inT (List.mem_append_left _ (List.mem_of_getElem? (i := 41) rfl)) rfl⟩, by decide, rfl, by decide +kernel, plainFor_of_name ((RN_ok 11 (by decide)).2 (by decide))⟩
theorem yk170 : YK 170 := ⟨⟨inT (in_t6 (List.mem_of_getElem? (i := 71) rfl)) rfl, inT (in_t1 (List.mem_of_getElem? (i := 1) rfl)) rfl, (RN_ok 11 (by decide)).1, by decide⟩, fun _ => inT (in_t6 (List.mem_of_getElem? (i := 70) rfl)) rfl, fun h => absurd h (by decide), by decide, rfl, by decide +kernel, plainFor_of_name ((RN_ok 11 (by decide)).2 (by decide))⟩
theorem yk171 : YK 171 := ⟨⟨inT (in_t3 (List.mem_of_getElem? (i := 105) rfl)) rfl, inT (in_t1 (List.mem_of_getElem? (i := 1) rfl)) rfl, (RN_ok 11 (by decide)).1, by decide⟩, fun _ => inT (in_t3 (List.mem_of_getElem? (i := 104) rfl)) rfl, fun h => absurd h (by decide), by decide, rfl, by decide +kernel, plainFor_of_name ((RN_ok 11 (by decide)).2 (by decide))⟩
theorem yk172 : YK 172 := ⟨⟨inT (in_t4 (List.mem_of_getElem? (i := 154) rfl)) rfl, inT (in_t1 (List.mem_of_getElem? (i := 1) rfl)) rfl, (RN_ok 11 (by decide)).1, by decide⟩, fun _ => inT (in_t4 (List.mem_of_getElem? (i := 153) rfl)) rfl, fun h => absurd h (by decide), by decide, rfl, by decide +kernel, plainFor_of_name ((RN_ok 11 (by decide)).2 (by decide))⟩
theorem yk173 : YK 173 := ⟨⟨inT (in_t4 (List.mem_of_getElem? (i := 137) rfl)) rfl, inT (in_t1 (List.mem_of_getElem? (i := 1) rfl)) rfl, (RN_ok 11 (by decide)).1, by decide⟩, fun _ => inT (in_t4 (List.mem_of_getElem? (i := 136) rfl)) rfl, fun h => absurd h (by decide), by decide, rfl, by decide +kernel, plainFor_of_name ((RN_ok 11 (by decide)).2 (by decide))⟩
theorem yk174 : YK 174 := ⟨⟨inT (in_t4 (List.mem_of_getElem? (i := 29) rfl)) rfl, inT (in_t1 (List.mem_of_getElem? (i := 1) rfl)) rfl, (RN_ok 11 (by decide)).1, by decide⟩, fun _ => inT (in_t4 (List.mem_of_getElem? (i := 28) rfl)) rfl, fun h => absurd h (by decide), by decide, rfl, by decide +kernel, plainFor_of_name ((RN_ok 11 (by decide)).2 (by decide))⟩
theorem yk175 : YK 175 := ⟨⟨inT (in_t6 (List.mem_of_getElem? (i := 42) rfl)) rfl, inT (in_t1 (List.mem_of_getElem? (i := 1) rfl)) rfl, (RN_ok 11 (by decide)).1, by decide⟩, fun _ => inT (in_t6 (List.mem_of_getElem? (i := 41) rfl)) rfl, fun h => absurd h (by decide), by decide, rfl, by decide +kernel, plainFor_of_name ((RN_ok 11 (by decide)).2 (by decide))⟩
theorem yk176 : YK 176 := ⟨⟨inT (in_t6 (List.mem_of_getElem? (i := 39) rfl)) rfl, inT (in_t1 (List.mem_of_getElem? (i := 1) rfl)) rfl, (RN_ok 11 (by decide)).1, by decide⟩, fun _ => inT (in_t6 (List.mem_of_getElem? (i := 38) rfl)) rfl, fun h => absurd h (by decide), by decide, rfl, by decide +kernel, plainFor_of_name ((RN_ok 11 (by decide)).2 (by decide))⟩
theorem yk177 : YK 177 := ⟨⟨inT (in_t4 (List.mem_of_getElem? (i := 202) rfl)) rfl, inT (in_t1 (List.mem_of_getElem? (i := 1) rfl)) rfl, (RN_ok 11 (by decide)).1, by decide⟩, fun _ => inT (in_t4 (List.mem_of_getElem? (i := 201) rfl)) rfl, fun h => absurd h (by decide), by decide, rfl, by decide +kernel, plainFor_of_name ((RN_ok 11 (by decide)).2 (by decide))⟩
theorem yk178 : YK 178 := ⟨⟨inT (in_t4 (List.mem_of_getElem? (i := 213) rfl)) rfl, inT (in_t1 (List.mem_of_getElem? (i := 1) rfl)) rfl, (RN_ok 11 (by decide)).1, by decide⟩, fun _ => inT (in_t4 (List.mem_of_getElem? (i := 212) rfl)) rfl, fun h => absurd h (by decide), by decide, rfl, by decide +kernel, plainFor_of_name ((RN_ok 11 (by decide)).2 (by decide))⟩
theorem yk179 : YK 179 := ⟨⟨inT (in_t4 (List.mem_of_getElem? (i := 216) rfl)) rfl, inT (in_t1 (List.mem_of_getElem? (i := 1) rfl)) rfl, (RN_ok 11 (by decide)).1, by decide⟩, fun _ => inT (in_t4 (List.mem_of_getElem? (i := 215) rfl)) rfl, fun h => absurd h (by decide), by decide, rfl, by decide +kernel, plainFor_of_name ((RN_ok 11 (by decide)).2 (by decide))⟩
theorem yk180 : YK 180 := ⟨⟨inT (in_t6 (List.mem_of_getElem? (i := 149) rfl)) rfl, inT (in_t1 (List.mem_of_getElem? (i := 17) rfl)) rfl, (RN_ok 12 (by decide)).1, by decide⟩, fun h => absurd h (by decide), fun _ => ⟨inT (in_t6 (List.mem_of_getElem? (i := 148) rfl)) rfl, inT (List.mem_append_left _ (List.mem_of_getElem? (i := 48) rfl)) rfl⟩, by decide, rfl, by decide +kernel, plainFor_of_name ((RN_ok 12 (by decide)).2 (by decide))⟩
theorem yk181 : YK 181 := ⟨⟨inT (in_t7 (List.mem_of_getElem? (i := 56) rfl)) rfl, inT (in_t1 (List.mem_of_getElem? (i := 17) rfl)) rfl, (RN_ok 12 (by decide)).1, by decide⟩, fun h => absurd h (by decide), fun _ => ⟨inT (in_t7 (List.mem_of_getElem? (i := 54) rfl)) rfl, inT (in_t7 (List.mem_of_getElem? (i := 55) rfl)) rfl⟩, by decide, rfl, by decide +kernel, plainFor_of_name ((RN_ok 12 (by decide)).2 (by decide))⟩
theorem yk182 : YK 182 := ⟨⟨inT (in_t7 (List.mem_of_getElem? (i := 60) rfl)) rfl, inT (in_t1 (List.mem_of_getElem? (i := 17) rfl)) rfl, (RN_ok 12 (by decide)).1, by decide⟩, fun h => absurd h (by decide), fun _ => ⟨inT (in_t7 (List.mem_of_getElem? (i := 58) rfl)) rfl, inT (in_t7 (List.mem_of_getElem? (i := 59) rfl)) rfl⟩, by decide, rfl, by decide +kernel, plainFor_of_name ((RN_ok 12 (by decide)).2 (by decide))⟩
theorem yk183 : YK 183 := ⟨⟨inT (in_t7 (List.mem_of_getElem? (i := 64) rfl)) rfl, inT (in_t1 (List.mem_of_getElem? (i := 17) rfl)) rfl, (RN_ok 12 (by decide)).1, by decide⟩, fun h => absurd h (by decide), fun _ => ⟨inT (in_t7 (List.mem_of_getElem? (i := 62) rfl)) rfl, inT (in_t7 (List.mem_of_getElem? (i := 63) rfl)) rfl⟩, by decide, rfl, by decide +kernel, plainFor_of_name ((RN_ok 12 (by decide)).2 (by decide))⟩
theorem yk184 : YK 184 := ⟨⟨inT (in_t7 (List.mem_of_getElem? (i := 75) rfl)) rfl, inT (in_t1 (List.mem_of_getElem? (i := 17) rfl)) rfl, (RN_ok 12 (by decide)).1, by decide⟩, fun h => absurd h (by decide), fun _ => ⟨inT (in_t7 (List.mem_of_getElem? (i := 74) rfl)) rfl, inT (List.mem_append_left _ (List.mem_of_getElem? (i := 49) rfl)) rfl⟩, by decide, rfl, by decide +kernel, plainFor_of_name ((RN_ok 12 (by decide)).2 (by decide))⟩
theorem yk185 : YK 185 := ⟨⟨inT (in_t7 (List.mem_of_getElem? (i := 135) rfl)) rfl, inT (in_t1 (List.mem_of_getElem? (i := 17) rfl)) rfl, (RN_ok 12 (by decide)).1, by decide⟩, fun h => absurd h (by decide), fun _ => ⟨inT (in_t7 (List.mem_of_getElem? (i := 134) rfl)) rfl, inT (List.mem_append_left _ (List.mem_of_getElem? (i := 55) rfl)) rfl⟩, by decide, rfl, by decide +kernel, plainFor_of_name ((RN_ok 12 (by decide)).2 (by decide))⟩
theorem yk186 : YK 186 := ⟨⟨inT (in_t7 (List.mem_of_getElem? (i := 235) rfl)) rfl, inT (in_t1 (List.mem_of_getElem? (i := 17) rfl)) rfl, (RN_ok 12 (by decide)).1, by decide⟩, fun h => absurd h (by decide), fun _ => ⟨inT (in_t7 (List.mem_of_getElem? (i := 234) rfl)) rfl, inT (List.mem_append_left _ (List.mem_of_getElem? (i := 77) rfl)) rfl⟩, by decide, rfl, by decide +kernel, plainFor_of_name ((RN_ok 12 (by decide)).2 (by decide))⟩
theorem yk187 : YK 187 := ⟨⟨inT (in_t8 (List.mem_of_getElem? (i := 75) rfl)) rfl, inT (in_t1 (List.mem_of_getElem? (i := 17) rfl)) rfl, (RN_ok 12 (by decide)).1, by decide⟩, fun h => absurd h (by decide), fun _ => ⟨inT (in_t8 (List.mem_of_getElem? (i := 74) rfl)) rfl, inT (List.mem_append_left _ (List.mem_of_getElem? (i := 90) rfl)) rfl⟩, by decide, rfl, by decide +kernel, plainFor_of_name ((RN_ok 12 (by decide)).2 (by decide))⟩
theorem yk188 : YK 188 := ⟨⟨inT (in_t9 (List.mem_of_getElem? (i := 124) rfl)) rfl, inT (in_t1 (List.mem_of_getElem? (i := 17) rfl)) rfl, (RN_ok 12 (by decide)).1, by decide⟩, fun h => absurd h (by decide), fun _ => ⟨inT (in_t9 (List.mem_of_getElem? (i := 123) rfl)) rfl, inT (List.mem_append_left _ (List.mem_of_getElem? (i := 118) rfl)) rfl⟩, by decide, rfl, by decide +kernel, plainFor_of_name ((RN_ok 12 (by decide)).2 (by decide))⟩
theorem yk189 : YK 189 := ⟨⟨inT (in_t7 (List.mem_of_getElem? (i := 71) rfl)) rfl, inT (in_t1 (List.mem_of_getElem? (i := 17) rfl)) rfl, (RN_ok 12 (by decide)).1, by decide⟩, fun _ => inT (in_t7 (List.mem_of_getElem? (i := 70) rfl)) rfl, fun h => absurd h (by decide), by decide, rfl, by decide +kernel, plainFor_of_name ((RN_ok 12 (by decide)).2 (by decide))⟩
theorem yk190 : YK 190 := ⟨⟨inT (in_t7 (List.mem_of_getElem? (i := 86) rfl)) rfl, inT (in_t1 (List.mem_of_getElem? (i := 17) rfl)) rfl, (RN_ok 12 (by decide)).1, by decide⟩, fun _ => inT (in_t7 (List.mem_of_getElem? (i := 85) rfl)) rfl, fun h => absurd h (by decide), by decide, rfl, by decide +kernel, plainFor_of_name ((RN_ok 12 (by decide)).2 (by decide))⟩
theorem yk191 : YK 191 := ⟨⟨inT (in_t7 (List.mem_of_getElem? (i := 68) rfl)) rfl, inT (in_t1 (List.mem_of_getElem? (i := 17) rfl)) rfl, (RN_ok 12 (by decide)).1, by decide⟩, fun h => absurd h (by decide), fun _ => ⟨inT (in_t7 (List.mem_of_getElem? (i := 66) rfl)) rfl, inT (in_t7 (List.mem_of_getElem? (i := 67) rfl)) rfl⟩, by decide, rfl, by decide +kernel, plainFor_of_name ((RN_ok 12 (by decide)).2 (by decide))⟩
theorem yk192 : YK 192 := ⟨⟨inT (in_t7 (List.mem_of_getElem? (i := 83) rfl)) rfl, inT (in_t1 (List.mem_of_getElem? (i := 17) rfl)) rfl, (RN_ok 12 (by decide)).1, by decide⟩, fun h => absurd h (by decide), fun _ => ⟨inT (in_t7 (List.mem_of_getElem? (i := 82) rfl)) rfl, inT (List.mem_append_left _ (List.mem_of_getElem? (i := 50) rfl)) rfl⟩, by decide, rfl, by decide +kernel, plainFor_of_name ((RN_ok 12 (by decide)).2 (by decide))⟩
theorem yk193 : YK 193 := ⟨⟨inT (in_t7 (List.mem_of_getElem? (i := 79) rfl)) rfl, inT (in_t1 (List.mem_of_getElem? (i := 17) rfl)) rfl, (RN_ok 12 (by decide)).1, by decide⟩, fun h => absurd h (by decide), fun _ => ⟨inT (in_t7 (List.mem_of_getElem? (i := 77) rfl)) rfl, inT (in_t7 (List.mem_of_getElem? (i := 78) rfl)) rfl⟩, by decide, rfl, by decide +kernel, plainFor_of_name ((RN_ok 12 (by decide)).2 (by decide))⟩
theorem yk194 : YK 194 := ⟨⟨inT (in_t7 (List.mem_of_getElem? (i := 90) rfl)) rfl, inT (in_t1 (List.mem_of_getElem? (i := 17) rfl)) rfl, (RN_ok 12 (by decide)).1, by decide⟩, fun h => absurd h (by decide), fun _ => ⟨inT (in_t7 (List.mem_of_getElem? (i := 88) rfl)) rfl, inT (in_t7 (List.mem_of_getElem? (i := 89) rfl)) rfl⟩, by decide, rfl, by decide +kernel, plainFor_of_name ((RN_ok 12 (by decide)).2 (by decide))⟩
theorem yk195 : YK 195 := ⟨⟨inT (in_t7 (List.mem_of_getElem? (i := 95) rfl)) rfl, inT (in_t1 (List.mem_of_getElem? (i := 17) rfl)) rfl, (RN_ok 12 (by decide)).1, by decide⟩, fun h => absurd h (by decide), fun _ => ⟨inT (in_t7 (List.mem_of_getElem? (i := 93) rfl)) rfl, inT (in_t7 (List.mem_of_getElem? (i := 94) rfl)) rfl⟩, by decide, rfl, by decide +kernel, plainFor_of_name ((RN_ok 12 (by decide)).2 (by decide))⟩
theorem yk196 : YK 196 := ⟨⟨inT (in_t8 (List.mem_of_getElem? (i := 123) rfl)) rfl, inT (in_t1 (List.mem_of_getElem? (i := 17) rfl)) rfl, (RN_ok 12 (by decide)).1, by decide⟩, fun _ => inT (in_t8 (List.mem_of_getElem? (i := 122) rfl)) rfl, fun h => absurd h (by decide), by decide, rfl, by decide +kernel, plainFor_of_name ((RN_ok 12 (by decide)).2 (by decide))⟩
theorem yk197 : YK 197 := ⟨⟨inT (in_t7 (List.mem_of_getElem? (i := 99) rfl)) rfl, inT (in_t1 (List.mem_of_getElem? (i := 17) rfl)) rfl, (RN_ok 12 (by decide)).1, by decide⟩, fun h => absurd h (by decide), fun _ => ⟨inT (in_t7 (List.mem_of_getElem? (i := 97) rfl)) rfl, inT (in_t7 (List.mem_of_getElem? (i := 98) rfl)) rfl⟩, by decide, rfl, by decide +kernel, plainFor_of_name ((RN_ok 12 (by decide)).2 (by decide))⟩
theorem yk198 : YK 198 := ⟨⟨inT (in_t7 (List.mem_of_getElem? (i := 103) rfl)) rfl, inT (in_t1 (List.mem_of_getElem? (i := 17) rfl)) rfl, (RN_ok 12 (by decide)).1, by decide⟩, fun h => absurd h (by decide), fun _ => ⟨inT (in_t7 (List.mem_of_getElem? (i := 102) rfl)) rfl, inT (List.mem_append_left _ (List.mem_of_getElem? (i := 51) rfl)) rfl⟩, by decide, rfl, by decide +kernel, plainFor_of_name ((RN_ok 12 (by decide)).2 (by decide))⟩
theorem yk199 : YK 199 := ⟨⟨inT (in_t7 (List.mem_of_getElem? (i := 123) rfl)) rfl, inT (in_t1 (List.mem_of_getElem? (i := 17) rfl)) rfl, (RN_ok 12 (by decide)).1, by decide⟩, fun h => absurd h (by decide), fun _ => ⟨inT (in_t7 (List.mem_of_getElem? (i := 122) rfl)) rfl, inT (List.mem_append_left _ (List.mem_of_getElem? (i := 54) rfl)) rfl⟩, by decide, rfl, by decide +kernel, plainFor_of_name ((RN_ok 12 (by decide)).2 (by decide))⟩
theorem yk200 : YK 200 := ⟨⟨inT (in_t7 (List.mem_of_getElem? (i := 126) rfl)) rfl, inT (in_t1 (List.mem_of_getElem? (i := 17) rfl)) rfl, (RN_ok 12 (by decide)).1, by decide⟩, fun _ => inT (in_t7 (List.mem_of_getElem? (i := 125) rfl)) rfl, fun h => absurd h (by decide), by decide, rfl, by decide +kernel, plainFor_of_name ((RN_ok 12 (by decide)).2 (by decide))⟩
theorem yk201 : YK 201 := ⟨⟨inT (in_t7 (List.mem_of_getElem? (i := 129) rfl)) rfl, inT (in_t1 (List.mem_of_getElem? (i := 17) rfl)) rfl, (RN_ok 12 (by decide)).1, by decide⟩, fun _ => inT (in_t7 (List.mem_of_getElem? (i := 128) rfl)) rfl, fun h => absurd h (by decide), by decide, rfl, by decide +kernel, plainFor_of_name ((RN_ok 12 (by decide)).2 (by decide))⟩
theorem yk202 : YK 202 := ⟨⟨inT (in_t7 (List.mem_of_getElem? (i := 119) rfl)) rfl, inT (in_t1 (List.mem_of_getElem? (i := 17) rfl)) rfl, (RN_ok 12 (by decide)).1, by decide⟩, fun h => absurd h (by decide), fun _ => ⟨inT (in_t7 (List.mem_of_getElem? (i := 118) rfl)) rfl, inT (List.mem_append_left _ (List.mem_of_getElem? (i := 53) rfl)) rfl⟩, by decide, rfl, by decide +kernel, plainFor_of_name ((RN_ok 12 (by decide)).2 (by decide))⟩
theorem yk203 : YK 203 := ⟨⟨inT (in_t7 (List.mem_of_getElem? (i := 227) rfl)) rfl, inT (in_t1 (List.mem_of_getElem? (i := 17) rfl)) rfl, (RN_ok 12 (by decide)).1, by decide⟩, fun h => absurd h (by decide), fun _ => ⟨inT (in_t7 (List.mem_of_getElem? (i := 226) rfl)) rfl, inT (List.mem_append_left _ (List.mem_of_getElem? (i := 75) rfl)) rfl⟩, by decide, rfl, by decide +kernel, plainFor_of_name ((RN_ok 12 (by decide)).2 (by decide))⟩
theorem yk204 : YK 204 := ⟨⟨inT (in_t7 (List.mem_of_getElem? (i := 144) rfl)) rfl, inT (in_t1 (List.mem_of_getElem? (i := 17) rfl)) rfl, (RN_ok 12 (by decide)).1, by decide⟩, fun h => absurd h (by decide), fun _ => ⟨inT (in_t7 (List.mem_of_getElem? (i := 143) rfl)) rfl, inT (List.mem_append_left _ (List.mem_of_getElem? (i := 57) rfl)) rfl⟩, by decide, rfl, by decide +kernel, plainFor_of_name ((RN_ok 12 (by decide)).2 (by decide))⟩
theorem yk205 : YK 205 := ⟨⟨inT (in_t7 (List.mem_of_getElem? (i := 150) rfl)) rfl, inT (in_t1 (List.mem_of_getElem? (i := 17) rfl)) rfl, (RN_ok 12 (by decide)).1, by decide⟩, fun h => absurd h (by decide), fun _ => ⟨inT (in_t7 (List.mem_of_getElem? (i := 149) rfl)) rfl, inT (List.mem_append_left _ (List.mem_of_getElem? (i := 58) rfl)) rfl⟩, by decide, rfl, by decide +kernel, plainFor_of_name ((RN_ok 12 (by decide)).2 (by decide))⟩
theorem yk206 : YK 206 := ⟨⟨inT (in_t7 (List.mem_of_getElem? (i := 115) rfl)) rfl, inT (in_t1 (List.mem_of_getElem? (i := 17) rfl)) rfl, (RN_ok 12 (by decide)).1, by decide⟩, fun h => absurd h (by decide), fun _ => ⟨inT (in_t7 (List.mem_of_getElem? (i := 114) rfl)) rfl, inT (List.mem_append_left _ (List.mem_of_getElem? (i := 52) rfl)) rfl⟩, by decide, rfl, by decide +kernel, plainFor_of_name ((RN_ok 12 (by decide)).2 (by decide))⟩
theorem yk207 : YK 207 := ⟨⟨inT (in_t7 (List.mem_of_getElem? (i := 223) rfl)) rfl, inT (in_t1 (List.mem_of_getElem? (i := 17) rfl)) rfl, (RN_ok 12 (by decide)).1, by decide⟩, fun h => absurd h (by decide), fun _ => ⟨inT (in_t7 (List.mem_of_getElem? (i := 222) rfl)) rfl, inT (List.mem_append_left _ (List.mem_of_getElem? (i := 74) rfl)) rfl⟩, by decide, rfl, by decide +kernel, plainFor_of_name ((RN_ok 12 (by decide)).2 (by decide))⟩
theorem yk208 : YK 208 := ⟨⟨inT (in_t7 (List.mem_of_getElem? (i := 181) rfl)) rfl, inT (in_t1 (List.mem_of_getElem? (i := 17) rfl)) rfl, (RN_ok 12 (by decide)).1, by decide⟩, fun h => absurd h (by decide), fun _ => ⟨inT (in_t7 (List.mem_of_getElem? (i := 180) rfl)) rfl, inT (List.mem_append_left _ (List.mem_of_getElem? (i := 65) rfl)) rfl⟩, by decide, rfl, by decide +kernel, plainFor_of_name ((RN_ok 12 (by decide)).2 (by decide))⟩
theorem yk209 : YK 209 := ⟨⟨inT (in_t7 (List.mem_of_getElem? (i := 154) rfl)) rfl, inT (in_t1 (List.mem_of_getElem? (i := 17) rfl)) rfl, (RN_ok 12 (by decide)).1, by decide⟩, fun h => absurd h (by decide), fun _ => ⟨inT (in_t7 (List.mem_of_getElem? (i := 153) rfl)) rfl, inT (List.mem_append_left _ (List.mem_of_getElem? (i := 59) rfl)) rfl⟩, by decide, rfl, by decide +kernel, plainFor_of_name ((RN_ok 12 (by decide)).2 (by decide))⟩
theorem yk210 : YK 210 := ⟨⟨inT (in_t7 (List.mem_of_getElem? (i := 169) rfl)) rfl, inT (in_t1 (List.mem_of_getElem? (i := 17) rfl)) rfl, (RN_ok 12 (by decide)).1, by decide⟩, fun h => absurd h (by decide), fun _ => ⟨inT (in_t7 (List.mem_of_getElem? (i := 168) rfl)) rfl, inT (List.mem_append_left _ (List.mem_of_getElem? (i := 62) rfl)) rfl⟩, by decide, rfl, by decide +kernel, plainFor_of_name ((RN_ok 12 (by decide)).2 (by decide))⟩
theorem yk211 : YK 211 := ⟨⟨inT (in_t7 (List.mem_of_getElem? (i := 177) rfl)) rfl, inT (in_t1 (List.mem_of_getElem? (i := 17) rfl)) rfl, (RN_ok 12 (by decide)).1, by decide⟩, fun h => absurd h (by decide), fun _ => ⟨inT (in_t7 (List.mem_of_getElem? (i := 176) rfl)) rfl, inT (List.mem_append_left _ (List.mem_of_getElem? (i := 64) rfl)) rfl⟩, by decide, rfl, by decide +kernel, plainFor_of_name ((RN_ok 12 (by decide)).2 (by decide))⟩
theorem yk212 : YK 212 := ⟨⟨inT (in_t7 (List.mem_of_getElem? (i := 173) rfl)) rfl, inT (in_t1 (List.mem_of_getElem? (i := 17) rfl)) rfl, (RN_ok 12 (by decide)).1, by decide⟩, fun h => absurd h (by decide), fun _ => ⟨inT (in_t7 (List.mem_of_getElem? (i := 172) rfl)) rfl, inT (List.mem_append_left _ (List.mem_of_getElem? (i := 63) rfl)) rfl⟩, by decide, rfl, by decide +kernel, plainFor_of_name ((RN_ok 12 (by decide)).2 (by decide))⟩
theorem yk213 : YK 213 := ⟨⟨inT (in_t7 (List.mem_of_getElem? (i := 107) rfl)) rfl, inT (in_t1 (List.mem_of_getElem? (i := 17) rfl)) rfl, (RN_ok 12 (by decide)).1, by decide⟩, fun h => absurd h (by decide), fun _ => ⟨inT (in_t7 (List.mem_of_getElem? (i := 105) rfl)) rfl, inT (in_t7 (List.mem_of_getElem? (i := 106) rfl)) rfl⟩, by decide, rfl, by decide +kernel, plainFor_of_name ((RN_ok 12 (by decide)).2 (by decide))⟩
theorem yk214 : YK 214 := ⟨⟨inT (in_t7 (List.mem_of_getElem? (i := 231) rfl)) rfl, inT (in_t1 (List.mem_of_getElem? (i := 17) rfl)) rfl, (RN_ok 12 (by decide)).1, by decide⟩, fun h => absurd h (by decide), fun _ => ⟨inT (in_t7 (List.mem_of_getElem? (i := 230) rfl)) rfl, inT (List.mem_append_left _ (List.mem_of_getElem? (i := 76) rfl)) rfl⟩, by decide, rfl, by decide +kernel, plainFor_of_name ((RN_ok 12 (by decide)).2 (by decide))⟩
theorem yk215 : YK 215 := ⟨⟨inT (in_t7 (List.mem_of_getElem? (i := 192) rfl)) rfl, inT (in_t1 (List.mem_of_getElem? (i := 17) rfl)) rfl, (RN_ok 12 (by decide)).1, by decide⟩, fun h => absurd h (by decide), fun _ => ⟨inT (in_t7 (List.mem_of_getElem? (i := 191) rfl)) rfl, inT (List.mem_append_left _ (List.mem_of_getElem? (i := 67) rfl)) rfl⟩, by decide, rfl, by decide +kernel, plainFor_of_name ((RN_ok 12 (by decide)).2 (by decide))⟩
theorem yk216 : YK 216 := ⟨⟨inT (in_t7 (List.mem_of_getElem? (i := 165) rfl)) rfl, inT (in_t1 (List.mem_of_getElem? (i := 17) rfl)) rfl, (RN_ok 12 (by decide)).1, by decide⟩, fun h => absurd h (by decide), fun _ => ⟨inT (in_t7 (List.mem_of_getElem? (i := 164) rfl)) rfl, inT (List.mem_append_left _ (List.mem_of_getElem? (i := 61) rfl)) rfl⟩, by decide, rfl, by decide +kernel, plainFor_of_name ((RN_ok 12 (by decide)).2 (by decide))⟩
theorem yk217 : YK 217 := ⟨⟨inT (in_t7 (List.mem_of_getElem? (i := 204) rfl)) rfl, inT (in_t1 (List.mem_of_getElem? (i := 17) rfl)) rfl, (RN_ok 12 (by decide)).1, by decide⟩, fun h => absurd h (by decide), fun _ => ⟨inT (in_t7 (List.mem_of_getElem? (i := 203) rfl)) rfl, inT (List.mem_append_left _ (List.mem_of_getElem? (i := 70) rfl)) rfl⟩, by decide, rfl, by decide +kernel, plainFor_of_name ((RN_ok 12 (by decide)).2 (by decide))⟩
theorem yk218 : YK 218 := ⟨⟨inT (in_t7 (List.mem_of_getElem? (i := 200) rfl)) rfl, inT (in_t1 (List.mem_of_getElem? (i := 17) rfl)) rfl, (RN_ok 12 (by decide)).1, by decide⟩, fun h => absurd h (by decide), fun _ => ⟨inT (in_t7 (List.mem_of_getElem? (i := 199) rfl)) rfl, inT (List.mem_append_left _ (List.mem_of_getElem? (i := 69) rfl)) rfl⟩, by decide, rfl, by decide +kernel, plainFor_of_name ((RN_ok 12 (by decide)).2 (by decide))⟩
theorem yk219 : YK 219 := ⟨⟨inT (in_t7 (List.mem_of_getElem? (i := 215) rfl)) rfl, inT (in_t1 (List.mem_of_getElem? (i := 17) rfl)) rfl, (RN_ok 12 (by decide)).1, by decide⟩, fun h => absurd h (by decide), fun _ => ⟨inT (in_t7 (List.mem_of_getElem? (i := 214) rfl)) rfl, inT (List.mem_append_left _ (List.mem_of_getElem? (i := 72) rfl)) rfl⟩, by decide, rfl, by decide +kernel, plainFor_of_name ((RN_ok 12 (by decide)).2 (by decide))⟩
theorem yk220 : YK 220 := ⟨⟨inT (in_t7 (List.mem_of_getElem? (i := 158) rfl)) rfl, inT (in_t1 (List.mem_of_getElem? (i := 17) rfl)) rfl, (RN_ok 12 (by decide)).1, by decide⟩, fun h => absurd h (by decide), fun _ => ⟨inT (in_t7 (List.mem_of_getElem? (i := 157) rfl)) rfl, inT (List.mem_append_left _ (List.mem_of_getElem? (i := 60) rfl)) rfl⟩, by decide, rfl, by decide +kernel, plainFor_of_name ((RN_ok 12 (by decide)).2 (by decide))⟩
theorem yk221 : YK 221 := ⟨⟨inT (in_t7 (List.mem_of_getElem? (i := 185) rfl)) rfl, inT (in_t1 (List.mem_of_getElem? (i := 17) rfl)) rfl, (RN_ok 12 (by decide)).1, by decide⟩, fun h => absurd h (by decide), fun _ => ⟨inT (in_t7 (List.mem_of_getElem? (i := 184) rfl)) rfl, inT (List.mem_append_left _ (List.mem_of_getElem? (i := 66) rfl)) rfl⟩, by decide, rfl, by decide +kernel, plainFor_of_name ((RN_ok 12 (by decide)).2 (by decide))⟩
theorem yk222 : YK 222 := ⟨⟨inT (in_t7 (List.mem_of_getElem? (i := 196) rfl)) rfl, inT (in_t1 (List.mem_of_getElem? (i := 17) rfl)) rfl, (RN_ok 12 (by decide)).1, by decide⟩, fun h => absurd h (by decide), fun _ => ⟨inT (in_t7 (List.mem_of_getElem? (i := 195) rfl)) rfl, inT (List.mem_append_left _ (List.mem_of_getElem? (i := 68) rfl)) rfl⟩, by decide, rfl, by decide +kernel, plainFor_of_name ((RN_ok 12 (by decide)).2 (by decide))⟩
theorem yk223 : YK 223 := ⟨⟨inT (in_t7 (List.mem_of_getElem? (i := 208) rfl)) rfl, inT (in_t1 (List.mem_of_getElem? (i := 17) rfl)) rfl, (RN_ok 12 (by decide)).1, by decide⟩, fun h => absurd h (by decide), fun _ => ⟨inT (in_t7 (List.mem_of_getElem? (i := 207) rfl)) rfl, inT (List.mem_append_left _ (List.mem_of_getElem? (i := 71) rfl)) rfl⟩, by decide, rfl, by decide +kernel, plainFor_of_name ((RN_ok 12 (by decide)).2 (by decide))⟩
theorem yk224 : YK 224 := ⟨⟨inT (in_t7 (List.mem_of_getElem? (i := 219) rfl)) rfl, inT (in_t1 (List.mem_of_getElem? (i := 17) rfl)) rfl, (RN_ok 12 (by decide)).1, by decide⟩, fun h => absurd h (by decide), fun _ => ⟨inT (in_t7 (List.mem_of_getElem? (i := 218) rfl)) rfl, inT (List.mem_append_left _ (List.mem_of_getElem? (i := 73) rfl)) rfl⟩, by decide, rfl, by decide +kernel, plainFor_of_name ((RN_ok 12 (by decide)).2 (by decide))⟩
theorem yk225 : YK 225 := ⟨⟨inT (in_t7 (List.mem_of_getElem? (i := 139) rfl)) rfl, inT (in_t1 (List.mem_of_getElem? (i := 17) rfl)) rfl, (RN_ok 12 (by decide)).1, by decide⟩, fun h => absurd h (by decide), fun _ => ⟨inT (in_t7 (List.mem_of_getElem? (i := 138) rfl)) rfl, inT (List.mem_append_left _ (List.mem_of_getElem? (i := 56) rfl)) rfl⟩, by decide, rfl, by decide +kernel, plainFor_of_name ((RN_ok 12 (by decide)).2 (by decide))⟩
theorem yk226 : YK 226 := ⟨⟨inT (in_t7 (List.mem_of_getElem? (i := 111) rfl)) rfl, inT (in_t1 (List.mem_of_getElem? (i := 17) rfl)) rfl, (RN_ok 12 (by decide)).1, by decide⟩, fun h => absurd h (by decide), fun _ => ⟨inT (in_t7 (List.mem_of_getElem? (i := 109) rfl)) rfl, inT (in_t7 (List.mem_of_getElem? (i := 110) rfl)) rfl⟩, by decide, rfl, by decide +kernel, plainFor_of_name ((RN_ok 12 (by decide)).2 (by decide))⟩
theorem yk227 : YK 227 := ⟨⟨inT (in_t8 (List.mem_of_getElem? (i := 11) rfl)) rfl, inT (in_t1 (List.mem_of_getElem? (i := 17) rfl)) rfl, (RN_ok 12 (by decide)).1, by decide⟩, fun h => absurd h (by decide), fun _ => ⟨inT (in_t8 (List.mem_of_getElem? (i := 10) rfl)) rfl, inT (List.mem_append_left _ (List.mem_of_getElem? (i := 80) rfl)) rfl⟩, by decide, rfl, by decide +kernel, plainFor_of_name ((RN_ok 12 (by decide)).2 (by decide))⟩
theorem yk228 : YK 228 := ⟨⟨inT (in_t8 (List.mem_of_getElem? (i := 15) rfl)) rfl, inT (in_t1 (List.mem_of_getElem? (i := 17) rfl)) rfl, (RN_ok 12 (by decide)).1, by decide⟩, fun h => absurd h (by decide), fun _ => ⟨inT (in_t8 (List.mem_of_getElem? (i := 14) rfl)) rfl, inT (List.mem_append_left _ (List.mem_of_getElem? (i := 81) rfl)) rfl⟩, by decide, rfl, by decide +kernel, plainFor_of_name ((RN_ok 12 (by decide)).2 (by decide))⟩
theorem yk229 : YK 229 := ⟨⟨inT (in_t8 (List.mem_of_getElem? (i := 7) rfl)) rfl, inT (in_t1 (List.mem_of_getElem? (i := 17) rfl)) rfl, (RN_ok 12 (by decide)).1, by decide⟩, fun h => absurd h (by decide), fun _ => ⟨inT (in_t8 (List.mem_of_getElem? (i := 6) rfl)) rfl, inT (List.mem_append_left _ (List.mem_of_getElem? (i := 79) rfl)) rfl⟩, by decide, rfl, by decide +kernel, plainFor_of_name ((RN_ok 12 (by decide)).2 (by decide))⟩
theorem yk230 : YK 230 := ⟨⟨inT (in_t8 (List.mem_of_getElem? (i := 3) rfl)) rfl, inT (in_t1 (List.mem_of_getElem? (i := 17) rfl)) rfl, (RN_ok 12 (by decide)).1, by decide⟩, fun h => absurd h (by decide), fun _ => ⟨inT (in_t8 (List.mem_of_getElem? (i := 2) rfl)) rfl, inT (List.mem_append_left _ (List.mem_of_getElem? (i := 78) rfl)) rfl⟩, by decide, rfl, by decide +kernel, plainFor_of_name ((RN_ok 12 (by decide)).2 (by decide))⟩
theorem yk231 : YK 231 := ⟨⟨inT (in_t7 (List.mem_of_getElem? (i := 239) rfl)) rfl, inT (in_t1 (List.mem_of_getElem? (i := 17) rfl)) rfl, (RN_ok 12 (by decide)).1, by decide⟩, fun h => absurd h (by decide), fun _ => ⟨inT (in_t7 (List.mem_of_getElem? (i := 237) rfl)) rfl, inT (in_t7 (List.mem_of_getElem? (i := 238) rfl)) rfl⟩, by decide, rfl, by decide +kernel, plainFor_of_name ((RN_ok 12 (by decide)).2 (by decide))⟩
theorem yk232 : YK 232 := ⟨⟨inT (in_t7 (List.mem_of_getElem? (i := 161) rfl)) rfl, inT (in_t1 (List.mem_of_getElem? (i := 17) rfl)) rfl, (RN_ok 12 (by decide)).1, by decide⟩, fun _ => inT (in_t7 (List.mem_of_getElem? (i := 160) rfl)) rfl, fun h => absurd h (by decide), by decide, rfl, by decide +kernel, plainFor_of_name ((RN_ok 12 (by decide)).2 (by decide))⟩
theorem yk233 : YK 233 := ⟨⟨inT (in_t7 (List.mem_of_getElem? (i := 188) rfl)) rfl, inT (in_t1 (List.mem_of_getElem? (i := 17) rfl)) rfl, (RN_ok 12 (by decide)).1, by decide⟩, fun _ => inT (in_t7 (List.mem_of_getElem? (i := 187) rfl)) rfl, fun h => absurd h (by decide), by decide, rfl, by decide +kernel, plainFor_of_name ((RN_ok 12 (by decide)).2 (by decide))⟩
theorem yk234 : YK 234 := ⟨⟨inT (in_t7 (List.mem_of_getElem? (i := 211) rfl)) rfl, inT (in_t1 (List.mem_of_getElem? (i := 17) rfl)) rfl, (RN_ok 12 (by decide)).1, by decide⟩, fun _ => inT (in_t7 (List.mem_of_getElem? (i := 210) rfl)) rfl, fun h => absurd h (by decide), by decide, rfl, by decide +kernel, plainFor_of_name ((RN_ok 12 (by decide)).2 (by decide))⟩
theorem yk235 : YK 235 := ⟨⟨inT (in_t8 (List.mem_of_getElem? (i := 35) rfl)) rfl, inT (in_t1 (List.mem_of_getElem? (i := 17) rfl)) rfl, (RN_ok 12 (by decide)).1, by decide⟩, fun h => absurd h (by decide), fun _ => ⟨inT (in_t8 (List.mem_of_getElem? (i := 34) rfl)) rfl, inT (List.mem_append_left _ (List.mem_of_getElem? (i := 84) rfl)) rfl⟩, by decide, rfl, by decide +kernel, plainFor_of_name ((RN_ok 12 (by decide)).2 (by decide))⟩
theorem yk236 : YK 236 := ⟨⟨inT (in_t8 (List.mem_of_getElem? (i := 55) rfl)) rfl, inT (in_t1 (List.mem_of_getElem? (i := 17) rfl)) rfl, (RN_ok 12 (by decide)).1, by decide⟩, fun h => absurd h (by decide), fun _ => ⟨inT (in_t8 (List.mem_of_getElem? (i := 54) rfl)) rfl, inT (List.mem_append_left _ (List.mem_of_getElem? (i := 88) rfl)) rfl⟩, by decide, rfl, by decide +kernel, plainFor_of_name ((RN_ok 12 (by decide)).2 (by decide))⟩
theorem yk237 : YK 237 := ⟨⟨inT (in_t8 (List.mem_of_getElem? (i := 63) rfl)) rfl, inT (in_t1 (List.mem_of_getElem? (i := 17) rfl)) rfl, (RN_ok 12 (by decide)).1, by decide⟩, fun h => absurd h (by decide), fun _ => ⟨inT (in_t8 (List.mem_of_getElem? (i := 62) rfl)) rfl, inT (List.mem_append_left _ (List.mem_of_getElem? (i := 89) rfl)) rfl⟩, by decide, rfl, by decide +kernel, plainFor_of_name ((RN_ok 12 (by decide)).2 (by decide))⟩
theorem yk238 : YK 238 := ⟨⟨inT (in_t8 (List.mem_of_getElem? (i := 231) rfl)) rfl, inT (in_t1 (List.mem_of_getElem? (i := 17) rfl)) rfl, (RN_ok 12 (by decide)).1, by decide⟩, fun h => absurd h (by decide), fun _ => ⟨inT (in_t8 (List.mem_of_getElem? (i := 230) rfl)) rfl, inT (List.mem_append_left _ (List.mem_of_getElem? (i := 104) rfl)) rfl⟩, by decide, rfl, by decide +kernel, plainFor_of_name ((RN_ok 12 (by decide)).2 (by decide))⟩
theorem yk239 : YK 239 := ⟨⟨inT (in_t8 (List.mem_of_getElem? (i := 47) rfl)) rfl, inT (in_t1 (List.mem_of_getElem? (i := 17) rfl)) rfl, (RN_ok 12 (by decide)).1, by decide⟩, fun h => absurd h (by decide), fun _ => ⟨inT (in_t8 (List.mem_of_getElem? (i := 46) rfl)) rfl, inT (List.mem_append_left _ (List.mem_of_getElem? (i := 87) rfl)) rfl⟩, by decide, rfl, by decide +kernel, plainFor_of_name ((RN_ok 12 (by decide)).2 (by decide))⟩
theorem yk240 : YK 240 := ⟨⟨inT (in_t9 (List.mem_of_getElem? (i := 10) rfl)) rfl, inT (in_t1 (List.mem_of_getElem? (i := 17) rfl)) rfl, (RN_ok 12 (by decide)).1, by decide⟩, fun _ => inT (in_t9 (List.mem_of_getElem? (i := 9) rfl)) rfl, fun h => absurd h (by decide), by decide, rfl, by decide +kernel, plainFor_of_name ((RN_ok 12 (by decide)).2 (by decide))⟩
theorem yk241 : YK 241 := ⟨⟨inT (in_t8 (List.mem_of_getElem? (i := 27) rfl)) rfl, inT (in_t1 (List.mem_of_getElem? (i := 17) rfl)) rfl, (RN_ok 12 (by decide)).1, by decide⟩, fun h => absurd h (by decide), fun _ => ⟨inT (in_t8 (List.mem_of_getElem? (i := 26) rfl)) rfl, inT (List.mem_append_left _ (List.mem_of_getElem? (i := 83) rfl)) rfl⟩, by decide, rfl, by decide +kernel, plainFor_of_name ((RN_ok 12 (by decide)).2 (by decide))⟩
theorem yk242 : YK 242 := ⟨⟨inT (in_t8 (List.mem_of_getElem? (i := 87) rfl)) rfl, inT (in_t1 (List.mem_of_getElem? (i := 17) rfl)) rfl, (RN_ok 12 (by decide)).1, by decide⟩, fun h => absurd h (by decide), fun _ => ⟨inT (in_t8 (List.mem_of_getElem? (i := 86) rfl)) rfl, inT (List.mem_append_left _ (List.mem_of_getElem? (i := 92) rfl)) rfl⟩, by decide, rfl, by decide +kernel, plainFor_of_name ((RN_ok 12 (by decide)).2 (by decide))⟩
theorem yk243 : YK 243 := ⟨⟨inT (in_t8 (List.mem_of_getElem? (i := 43) rfl)) rfl, inT (in_t1 (List.mem_of_getElem? (i := 17) rfl)) rfl, (RN_ok 12 (by decide)).1, by decide⟩, fun h => absurd h (by decide), fun _ => ⟨inT (in_t8 (List.mem_of_getElem? (i := 42) rfl)) rfl, inT (List.mem_append_left _ (List.mem_of_getElem? (i := 86) rfl)) rfl⟩, by decide, rfl, by decide +kernel, plainFor_of_name ((RN_ok 12 (by decide)).2 (by decide))⟩
theorem yk244 : YK 244 := ⟨⟨inT (in_t8 (List.mem_of_getElem? (i := 23) rfl)) rfl, inT (in_t1 (List.mem_of_getElem? (i := 17) rfl)) rfl, (RN_ok 12 (by decide)).1, by decide⟩, fun h => absurd h (by decide), fun _ => ⟨inT (in_t8 (List.mem_of_getElem? (i := 22) rfl)) rfl, inT (List.mem_append_left _ (List.mem_of_getElem? (i := 82) rfl)) rfl⟩, by decide, rfl, by decide +kernel, plainFor_of_name ((RN_ok 12 (by decide)).2 (by decide))⟩
theorem yk245 : YK 245 := ⟨⟨inT (in_t8 (List.mem_of_getElem? (i := 39) rfl)) rfl, inT (in_t1 (List.mem_of_getElem? (i := 17) rfl)) rfl, (RN_ok 12 (by decide)).1, by decide⟩, fun h => absurd h (by decide), fun _ => ⟨inT (in_t8 (List.mem_of_getElem? (i := 38) rfl)) rfl, inT (List.mem_append_left _ (List.mem_of_getElem? (i := 85) rfl)) rfl⟩, by decide, rfl, by decide +kernel, plainFor_of_name ((RN_ok 12 (by decide)).2 (by decide))⟩
theorem yk246 : YK 246 := ⟨⟨inT (in_t8 (List.mem_of_getElem? (i := 19) rfl)) rfl, inT (in_t1 (List.mem_of_getElem? (i := 17) rfl)) rfl, (RN_ok 12 (by decide)).1, by decide⟩, fun h => absurd h (by decide), fun _ => ⟨inT (in_t8 (List.mem_of_getElem? (i := 17) rfl)) rfl, inT (in_t8 (List.mem_of_getElem? (i := 18) rfl)) rfl⟩, by decide, rfl, by decide +kernel, plainFor_of_name ((RN_ok 12 (by decide)).2 (by decide))⟩
theorem yk247 : YK 247 := ⟨⟨inT (in_t8 (List.mem_of_getElem? (i := 31) rfl)) rfl, inT (in_t1 (List.mem_of_getElem? (i := 17) rfl)) rfl, (RN_ok 12 (by decide)).1, by decide⟩, fun h => absurd h (by decide), fun _ => ⟨inT (in_t8 (List.mem_of_getElem? (i := 29) rfl)) rfl, inT (in_t8 (List.mem_of_getElem? (i := 30) rfl)) rfl⟩, by decide, rfl, by decide +kernel, plainFor_of_name ((RN_ok 12 (by decide)).2 (by decide))⟩
theorem yk248 : YK 248 := ⟨⟨inT (in_t8 (List.mem_of_getElem? (i := 51) rfl)) rfl, inT (in_t1 (List.mem_of_getElem? (i := 17) rfl)) rfl, (RN_ok 12 (by decide)).1, by decide⟩, fun h => absurd h (by decide), fun _ => ⟨inT (in_t8 (List.mem_of_getElem? (i := 49) rfl)) rfl, inT (in_t8 (List.mem_of_getElem? (i := 50) rfl)) rfl⟩, by decide, rfl, by decide +kernel, plainFor_of_name ((RN_ok 12 (by decide)).2 (by decide))⟩
theorem yk249 : YK 249 := ⟨⟨inT (in_t8 (List.mem_of_getElem? (i := 59) rfl)) rfl, inT (in_t1 (List.mem_of_getElem? (i := 17) rfl)) rfl, (RN_ok 12 (by decide)).1, by decide⟩, fun h => absurd h (by decide), fun _ => ⟨inT (in_t8 (List.mem_of_getElem? (i := 57) rfl)) rfl, inT (in_t8 (List.mem_of_getElem? (i := 58) rfl)) rfl⟩, by decide, rfl, by decide +kernel, plainFor_of_name ((RN_ok 12 (by decide)).2 (by decide))⟩
theorem yk250 : YK 250 := ⟨⟨inT (in_t8 (List.mem_of_getElem? (i := 67) rfl)) rfl, inT (in_t1 (List.mem_of_getElem? (i := 17) rfl)) rfl, (RN_ok 12 (by decide)).1, by decide⟩, fun h => absurd h (by decide), fun _ => ⟨inT (in_t8 (List.mem_of_getElem? (i := 65) rfl)) rfl, inT (in_t8 (List.mem_of_getElem? (i := 66) rfl)) rfl⟩, by decide, rfl, by decide +kernel, plainFor_of_name ((RN_ok 12 (by decide)).2 (by decide))⟩
theorem yk251 : YK 251 := ⟨⟨inT (in_t8 (List.mem_of_getElem? (i := 71) rfl)) rfl, inT (in_t1 (List.mem_of_getElem? (i := 17) rfl)) rfl, (RN_ok 12 (by decide)).1, by decide⟩, fun h => absurd h (by decide), fun _ => ⟨inT (in_t8 (List.mem_of_getElem? (i := 69) rfl)) rfl, inT (in_t8 (List.mem_of_getElem? (i := 70) rfl)) rfl⟩, by decide, rfl, by decide +kernel, plainFor_of_name ((RN_ok 12 (by decide)).2 (by decide))⟩
theorem yk252 : YK 252 := ⟨⟨inT (in_t8 (List.mem_of_getElem? (i := 91) rfl)) rfl, inT (in_t1 (List.mem_of_getElem? (i := 17) rfl)) rfl, (RN_ok 12 (by decide)).1, by decide⟩, fun h => absurd h (by decide), fun _ => ⟨inT (in_t8 (List.mem_of_getElem? (i := 90) rfl)) rfl, inT (List.mem_append_left _ (List.mem_of_getElem? (i := 93) rfl)) rfl⟩, by decide, rfl, by decide +kernel, plainFor_of_name ((RN_ok 12 (by decide)).2 (by decide))⟩
theorem yk253 : YK 253 := ⟨⟨inT (in_t8 (List.mem_of_getElem? (i := 83) rfl)) rfl, inT (in_t1 (List.mem_of_getElem? (i := 17) rfl)) rfl, (RN_ok 12 (by decide)).1, by decide⟩, fun h => absurd h (by decide), fun _ => ⟨inT (in_t8 (List.mem_of_getElem? (i := 82) rfl)) rfl, inT (List.mem_append_left _ (List.mem_of_getElem? (i := 91) rfl)) rfl⟩, by decide, rfl, by decide +kernel, plainFor_of_name ((RN_ok 12 (by decide)).2 (by decide))⟩
theorem yk254 : YK 254 := ⟨⟨inT (in_t8 (List.mem_of_getElem? (i := 99) rfl)) rfl, inT (in_t1 (List.mem_of_getElem? (i := 17) rfl)) rfl, (RN_ok 12 (by decide)).1, by decide⟩, fun h => absurd h (by decide), fun _ => ⟨inT (in_t8 (List.mem_of_getElem? (i := 98) rfl)) rfl, inT (List.mem_append_left _ (List.mem_of_getElem? (i := 94) rfl)) rfl⟩, by decide, rfl, by decide +kernel, plainFor_of_name ((RN_ok 12 (by decide)).2 (by decide))⟩
theorem yk255 : YK 255 := ⟨⟨inT (in_t8 (List.mem_of_getElem? (i := 79) rfl)) rfl, inT (in_t1 (List.mem_of_getElem? (i := 17) rfl)) rfl, (RN_ok 12 (by decide)).1, by decide⟩, fun h => absurd h (by decide), fun _ => ⟨inT (in_t8 (List.mem_of_getElem? (i := 77) rfl)) rfl, inT (in_t8 (List.mem_of_getElem? (i := 78) rfl)) rfl⟩, by decide, rfl, by decide +kernel, plainFor_of_name ((RN_ok 12 (by decide)).2 (by decide))⟩
theorem yk256 : YK 256 := ⟨⟨inT (in_t8 (List.mem_of_getElem? (i := 95) rfl)) rfl, inT (in_t1 (List.mem_of_getElem? (i := 17) rfl)) rfl, (RN_ok 12 (by decide)).1, by decide⟩, fun h => absurd h (by decide), fun _ => ⟨inT (in_t8 (List.mem_of_getElem? (i := 93) rfl)) rfl, inT (in_t8 (List.mem_of_getElem? (i := 94) rfl)) rfl⟩, by decide, rfl, by decide +kernel, plainFor_of_name ((RN_ok 12 (by decide)).2 (by decide))⟩
theorem yk257 : YK 257 := ⟨⟨inT (in_t8 (List.mem_of_getElem? (i := 103) rfl)) rfl, inT (in_t1 (List.mem_of_getElem? (i := 17) rfl)) rfl, (RN_ok 12 (by decide)).1, by decide⟩, fun h => absurd h (by decide), fun _ => ⟨inT (in_t8 (List.mem_of_getElem? (i := 101) rfl)) rfl, inT (in_t8 (List.mem_of_getElem? (i := 102) rfl)) rfl⟩, by decide, rfl, by decide +kernel, plainFor_of_name ((RN_ok 12 (by decide)).2 (by decide))⟩
theorem yk258 : YK 258 := ⟨⟨inT (in_t8 (List.mem_of_getElem? (i := 111) rfl)) rfl, inT (in_t1 (List.mem_of_getElem? (i := 17) rfl)) rfl, (RN_ok 12 (by decide)).1, by decide⟩, fun h => absurd h (by decide), fun _ => ⟨inT (in_t8 (List.mem_of_getElem? (i := 110) rfl)) rfl, inT (List.mem_append_left _ (List.mem_of_getElem? (i := 95) rfl)) rfl⟩, by decide, rfl, by decide +kernel, plainFor_of_name ((RN_ok 12 (by decide)).2 (by decide))⟩
theorem yk259 : YK 259 := ⟨⟨inT (in_t8 (List.mem_of_getElem? (i := 107) rfl)) rfl, inT (in_t1 (List.mem_of_getElem? (i := 17) rfl)) rfl, (RN_ok 12 (by decide)).1, by decide⟩, fun h => absurd h (by decide), fun _ => ⟨inT (in_t8 (List.mem_of_getElem? (i := 105) rfl)) rfl, inT (in_t8 (List.mem_of_getElem? (i := 106) rfl)) rfl⟩, by decide, rfl, by decide +kernel, plainFor_of_name ((RN_ok 12 (by decide)).2 (by decide))⟩
theorem yk260 : YK 260 := ⟨⟨inT (in_t8 (List.mem_of_getElem? (i := 115) rfl)) rfl, inT (in_t1 (List.mem_of_getElem? (i := 17) rfl)) rfl, (RN_ok 12 (by decide)).1, by decide⟩, fun h => absurd h (by decide), fun _ => ⟨inT (in_t8 (List.mem_of_getElem? (i := 113) rfl)) rfl, inT (in_t8 (List.mem_of_getElem? (i := 114) rfl)) rfl⟩, by decide, rfl, by decide +kernel, plainFor_of_name ((RN_ok 12 (by decide)).2 (by decide))⟩
theorem yk261 : YK 261 := ⟨⟨inT (in_t8 (List.mem_of_getElem? (i := 135) rfl)) rfl, inT (in_t1 (List.mem_of_getElem? (i := 17) rfl)) rfl, (RN_ok 12 (by decide)).1, by decide⟩, fun h => absurd h (by decide), fun _ => ⟨inT (in_t8 (List.mem_of_getElem? (i := 134) rfl)) rfl, inT (List.mem_append_left _ (List.mem_of_getElem? (i := 98) rfl)) rfl⟩, by decide, rfl, by decide +kernel, plainFor_of_name ((RN_ok 12 (by decide)).2 (by decide))⟩
theorem yk262 : YK 262 := ⟨⟨inT (in_t8 (List.mem_of_getElem? (i := 131) rfl)) rfl, inT (in_t1 (List.mem_of_getElem? (i := 17) rfl)) rfl, (RN_ok 12 (by decide)).1, by decide⟩, fun h => absurd h (by decide), fun _ => ⟨inT (in_t8 (List.mem_of_getElem? (i := 130) rfl)) rfl, inT (List.mem_append_left _ (List.mem_of_getElem? (i := 97) rfl)) rfl⟩, by decide, rfl, by decide +kernel, plainFor_of_name ((RN_ok 12 (by decide)).2 (by decide))⟩
theorem yk263 : YK 263 := ⟨⟨inT (in_t8 (List.mem_of_getElem? (i := 127) rfl)) rfl, inT (in_t1 (List.mem_of_getElem? (i := 17) rfl)) rfl, (RN_ok 12 (by decide)).1, by decide⟩, fun h => absurd h (by decide), fun _ => ⟨inT (in_t8 (List.mem_of_getElem? (i := 126) rfl)) rfl, inT (List.mem_append_left _ (List.mem_of_getElem? (i := 96) rfl)) rfl⟩, by decide, rfl, by decide +kernel, plainFor_of_name ((RN_ok 12 (by decide)).2 (by decide))⟩
theorem yk264 : YK 264 := ⟨⟨inT (in_t8 (List.mem_of_getElem? (i := 119) rfl)) rfl, inT (in_t1 (List.mem_of_getElem? (i := 17) rfl)) rfl, (RN_ok 12 (by decide)).1, by decide⟩, fun h => absurd h (by decide), fun _ => ⟨inT (in_t8 (List.mem_of_getElem? (i := 117) rfl)) rfl, inT (in_t8 (List.mem_of_getElem? (i := 118) rfl)) rfl⟩, by decide, rfl, by decide +kernel, plainFor_of_name ((RN_ok 12 (by decide)).2 (by decide))⟩
theorem yk265 : YK 265 := ⟨⟨inT (in_t8 (List.mem_of_getElem? (i := 143) rfl)) rfl, inT (in_t1 (List.mem_of_getElem? (i := 17) rfl)) rfl, (RN_ok 12 (by decide)).1, by decide⟩, fun h => absurd h (by decide), fun _ => ⟨inT (in_t8 (List.mem_of_getElem? (i := 142) rfl)) rfl, inT (List.mem_append_left _ (List.mem_of_getElem? (i := 99) rfl)) rfl⟩, by decide, rfl, by decide +kernel, plainFor_of_name ((RN_ok 12 (by decide)).2 (by decide))⟩
theorem yk266 : YK 266 := ⟨⟨inT (in_t8 (List.mem_of_getElem? (i := 139) rfl)) rfl, inT (in_t1 (List.mem_of_getElem? (i := 17) rfl)) rfl, (RN_ok 12 (by decide)).1, by decide⟩, fun h => absurd h (by decide), fun _ => ⟨inT (in_t8 (List.mem_of_getElem? (i := 137) rfl)) rfl, inT (in_t8 (List.mem_of_getElem? (i := 138) rfl)) rfl⟩, by decide, rfl, by decide +kernel, plainFor_of_name ((RN_ok 12 (by decide)).2 (by decide))⟩
theorem yk267 : YK 267 := ⟨⟨inT (in_t8 (List.mem_of_getElem? (i := 151) rfl)) rfl, inT (in_t1 (List.mem_of_getElem? (i := 17) rfl)) rfl, (RN_ok 12 (by decide)).1, by decide⟩, fun h => absurd h (by decide), fun _ => ⟨inT (in_t8 (List.mem_of_getElem? (i := 150) rfl)) rfl, inT (List.mem_append_left _ (List.mem_of_getElem? (i := 100) rfl)) rfl⟩, by decide, rfl, by decide +kernel, plainFor_of_name ((RN_ok 12 (by decide)).2 (by decide))⟩
theorem yk268 : YK 268 := ⟨⟨inT (in_t8 (List.mem_of_getElem? (i := 147) rfl)) rfl, inT (in_t1 (List.mem_of_getElem? (i := 17) rfl)) rfl, (RN_ok 12 (by decide)).1, by decide⟩, fun h => absurd h (by decide), fun _ => ⟨inT (in_t8 (List.mem_of_getElem? (i := 145) rfl)) rfl, inT (in_t8 (List.mem_of_getElem? (i := 146) rfl)) rfl⟩, by decide, rfl, by decide +kernel, plainFor_of_name ((RN_ok 12 (by decide)).2 (by decide))⟩
theorem yk269 : YK 269 := ⟨⟨inT (in_t8 (List.mem_of_getElem? (i := 155) rfl)) rfl, inT (in_t1 (List.mem_of_getElem? (i := 17) rfl)) rfl, (RN_ok 12 (by decide)).1, by decide⟩, fun h => absurd h (by decide), fun _ => ⟨inT (in_t8 (List.mem_of_getElem? (i := 153) rfl)) rfl, inT (in_t8 (List.mem_of_getElem? (i := 154) rfl)) rfl⟩, by decide, rfl, by decide +kernel, plainFor_of_name ((RN_ok 12 (by decide)).2 (by decide))⟩
theorem yk270 : YK 270 := ⟨⟨inT (in_t8 (List.mem_of_getElem? (i := 159) rfl)) rfl, inT (in_t1 (List.mem_of_getElem? (i := 17) rfl)) rfl, (RN_ok 12 (by decide)).1, by decide⟩, fun h => absurd h (by decide), fun _ => ⟨inT (in_t8 (List.mem_of_getElem? (i := 157) rfl)) rfl, inT (in_t8 (List.mem_of_getElem? (i := 158) rfl)) rfl⟩, by decide, rfl, by decide +kernel, plainFor_of_name ((RN_ok 12 (by decide)).2 (by decide))⟩
theorem yk271 : YK 271 := ⟨⟨inT (in_t8 (List.mem_of_getElem? (i := 163) rfl)) rfl, inT (in_t1 (List.mem_of_getElem? (i := 17) rfl)) rfl, (RN_ok 12 (by decide)).1, by decide⟩, fun h => absurd h (by decide), fun _ => ⟨inT (in_t8 (List.mem_of_getElem? (i := 161) rfl)) rfl, inT (in_t8 (List.mem_of_getElem? (i := 162) rfl)) rfl⟩, by decide, rfl, by decide +kernel, plainFor_of_name ((RN_ok 12 (by decide)).2 (by decide))⟩
theorem yk272 : YK 272 := ⟨⟨inT (in_t8 (List.mem_of_getElem? (i := 167) rfl)) rfl, inT (in_t1 (List.mem_of_getElem? (i := 17) rfl)) rfl, (RN_ok 12 (by decide)).1, by decide⟩, fun h => absurd h (by decide), fun _ => ⟨inT (in_t8 (List.mem_of_getElem? (i := 165) rfl)) rfl, inT (in_t8 (List.mem_of_getElem? (i := 166) rfl)) rfl⟩, by decide, rfl, by decide +kernel, plainFor_of_name ((RN_ok 12 (by decide)).2 (by decide))⟩
theorem yk273 : YK 273 := ⟨⟨inT (in_t8 (List.mem_of_getElem? (i := 171) rfl)) rfl, inT (in_t1 (List.mem_of_getElem? (i := 17) rfl)) rfl, (RN_ok 12 (by decide)).1, by decide⟩, fun h => absurd h (by decide), fun _ => ⟨inT (in_t8 (List.mem_of_getElem? (i := 169) rfl)) rfl, inT (in_t8 (List.mem_of_getElem? (i := 170) rfl)) rfl⟩, by decide, rfl, by decide +kernel, plainFor_of_name ((RN_ok 12 (by decide)).2 (by decide))⟩
theorem yk274 : YK 274 := ⟨⟨inT (in_t8 (List.mem_of_getElem? (i := 175) rfl)) rfl, inT (in_t1 (List.mem_of_getElem? (i := 17) rfl)) rfl, (RN_ok 12 (by decide)).1, by decide⟩, fun h => absurd h (by decide), fun _ => ⟨inT (in_t8 (List.mem_of_getElem? (i := 173) rfl)) rfl, inT (in_t8 (List.mem_of_getElem? (i := 174) rfl)) rfl⟩, by decide, rfl, by decide +kernel, plainFor_of_name ((RN_ok 12 (by decide)).2 (by decide))⟩
theorem yk275 : YK 275 := ⟨⟨inT (in_t8 (List.mem_of_getElem? (i := 180) rfl)) rfl, inT (in_t1 (List.mem_of_getElem? (i := 17) rfl)) rfl, (RN_ok 12 (by decide)).1, by decide⟩, fun h => absurd h (by decide), fun _ => ⟨inT (in_t8 (List.mem_of_getElem? (i := 178) rfl)) rfl, inT (in_t8 (List.mem_of_getElem? (i := 179) rfl)) rfl⟩, by decide, rfl, by decide +kernel, plainFor_of_name ((RN_ok 12 (by decide)).2 (by decide))⟩
theorem yk276 : YK 276 := ⟨⟨inT (in_t8 (List.mem_of_getElem? (i := 193) rfl)) rfl, inT (in_t1 (List.mem_of_getElem? (i := 17) rfl)) rfl, (RN_ok 12 (by decide)).1, by decide⟩, fun h => absurd h (by decide), fun _ => ⟨inT (in_t8 (List.mem_of_getElem? (i := 192) rfl)) rfl, inT (List.mem_append_left _ (List.mem_of_getElem? (i := 101) rfl)) rfl⟩, by decide, rfl, by decide +kernel, plainFor_of_name ((RN_ok 12 (by decide)).2 (by decide))⟩
theorem yk277 : YK 277 := ⟨⟨inT (in_t8 (List.mem_of_getElem? (i := 197) rfl)) rfl, inT (in_t1 (List.mem_of_getElem? (i := 17) rfl)) rfl, (RN_ok 12 (by decide)).1, by decide⟩, fun h => absurd h (by decide), fun _ => ⟨inT (in_t8 (List.mem_of_getElem? (i := 196) rfl)) rfl, inT (List.mem_append_left _ (List.mem_of_getElem? (i := 102) rfl)) rfl⟩, by decide, rfl, by decide +kernel, plainFor_of_name ((RN_ok 12 (by decide)).2 (by decide))⟩
theorem yk278 : YK 278 := ⟨⟨inT (in_t8 (List.mem_of_getElem? (i := 188) rfl)) rfl, inT (in_t1 (List.mem_of_getElem? (i := 17) rfl)) rfl, (RN_ok 12 (by decide)).1, by decide⟩, fun _ => inT (in_t8 (List.mem_of_getElem? (i := 187) rfl)) rfl, fun h => absurd h (by decide), by decide, rfl, by decide +kernel, plainFor_of_name ((RN_ok 12 (by decide)).2 (by decide))⟩
theorem yk279 : YK 279 := ⟨⟨inT (in_t8 (List.mem_of_getElem? (i := 185) rfl)) rfl, inT (in_t1 (List.mem_of_getElem? (i := 17) rfl)) rfl, (RN_ok 12 (by decide)).1, by decide⟩, fun h => absurd h (by decide), fun _ => ⟨inT (in_t8 (List.mem_of_getElem? (i := 183) rfl)) rfl, inT (in_t8 (List.mem_of_getElem? (i := 184) rfl)) rfl⟩, by decide, rfl, by decide +kernel, plainFor_of_name ((RN_ok 12 (by decide)).2 (by decide))⟩
theorem yk280 : YK 280 := ⟨⟨inT (in_t8 (List.mem_of_getElem? (i := 201) rfl)) rfl, inT (in_t1 (List.mem_of_getElem? (i := 17) rfl)) rfl, (RN_ok 12 (by decide)).1, by decide⟩, fun h => absurd h (by decide), fun _ => ⟨inT (in_t8 (List.mem_of_getElem? (i := 199) rfl)) rfl, inT (in_t8 (List.mem_of_getElem? (i := 200) rfl)) rfl⟩, by decide, rfl, by decide +kernel, plainFor_of_name ((RN_ok 12 (by decide)).2 (by decide))⟩
theorem yk281 : YK 281 := ⟨⟨inT (in_t8 (List.mem_of_getElem? (i := 209) rfl)) rfl, inT (in_t1 (List.mem_of_getElem? (i := 17) rfl)) rfl, (RN_ok 12 (by decide)).1, by decide⟩, fun h => absurd h (by decide), fun _ => ⟨inT (in_t8 (List.mem_of_getElem? (i := 208) rfl)) rfl, inT (List.mem_append_left _ (List.mem_of_getElem? (i := 103) rfl)) rfl⟩, by decide, rfl, by decide +kernel, plainFor_of_name ((RN_ok 12 (by decide)).2 (by decide))⟩
theorem yk282 : YK 282 := ⟨⟨inT (in_t8 (List.mem_of_getElem? (i := 205) rfl)) rfl, inT (in_t1 (List.mem_of_getElem? (i := 17) rfl)) rfl, (RN_ok 12 (by decide)).1, by decide⟩, fun h => absurd h (by decide), fun _ => ⟨inT (in_t8 (List.mem_of_getElem? (i := 203) rfl)) rfl, inT (in_t8 (List.mem_of_getElem? (i := 204) rfl)) rfl⟩, by decide, rfl, by decide +kernel, plainFor_of_name ((RN_ok 12 (by decide)).2 (by decide))⟩
theorem yk283 : YK 283 := ⟨⟨inT (in_t8 (List.mem_of_getElem? (i := 213) rfl)) rfl, inT (in_t1 (List.mem_of_getElem? (i := 17) rfl)) rfl, (RN_ok 12 (by decide)).1, by decide⟩, fun h => absurd h (by decide), fun _ => ⟨inT (in_t8 (List.mem_of_getElem? (i := 211) rfl)) rfl, inT (in_t8 (List.mem_of_getElem? (i := 212) rfl)) rfl⟩, by decide, rfl, by decide +kernel, plainFor_of_name ((RN_ok 12 (by decide)).2 (by decide))⟩
theorem yk284 : YK 284 := ⟨⟨inT (in_t8 (List.mem_of_getElem? (i := 217) rfl)) rfl, inT (in_t1 (List.mem_of_getElem? (i := 17) rfl)) rfl, (RN_ok 12 (by decide)).1, by decide⟩, fun h => absurd h (by decide), fun _ => ⟨inT (in_t8 (List.mem_of_getElem? (i := 215) rfl)) rfl, inT (in_t8 (List.mem_of_getElem? (i := 216) rfl)) rfl⟩, by decide, rfl, by decide +kernel, plainFor_of_name ((RN_ok 12 (by decide)).2 (by decide))⟩
theorem yk285 : YK 285 := ⟨⟨inT (in_t8 (List.mem_of_getElem? (i := 221) rfl)) rfl, inT (in_t1 (List.mem_of_getElem? (i := 17) rfl)) rfl, (RN_ok 12 (by decide)).1, by decide⟩, fun h => absurd h (by decide), fun _ => ⟨inT (in_t8 (List.mem_of_getElem? (i := 219) rfl)) rfl, inT (in_t8 (List.mem_of_getElem? (i := 220) rfl)) rfl⟩, by decide, rfl, by decide +kernel, plainFor_of_name ((RN_ok 12 (by decide)).2 (by decide))⟩
theorem yk286 : YK 286 := ⟨⟨inT (in_t8 (List.mem_of_getElem? (i := 239) rfl)) rfl, inT (in_t1 (List.mem_of_getElem? (i := 17) rfl)) rfl, (RN_ok 12 (by decide)).1, by decide⟩, fun h => absurd h (by decide), fun _ => ⟨inT (in_t8 (List.mem_of_getElem? (i := 238) rfl)) rfl, inT (List.mem_append_left _ (List.mem_of_getElem? (i := 105) rfl)) rfl⟩, by decide, rfl, by decide +kernel, plainFor_of_name ((RN_ok 12 (by decide)).2 (by decide))⟩
theorem yk287 : YK 287 := ⟨⟨inT (in_t8 (List.mem_of_getElem? (i := 234) rfl)) rfl, inT (in_t1 (List.mem_of_getElem? (i := 17) rfl)) rfl, (RN_ok 12 (by decide)).1, by decide⟩, fun _ => inT (in_t8 (List.mem_of_getElem? (i := 233) rfl)) rfl, fun h => absurd h (by decide), by decide, rfl, by decide +kernel, plainFor_of_name ((RN_ok 12 (by decide)).2 (by decide))⟩
theorem yk288 : YK 288 := ⟨⟨inT (in_t8 (List.mem_of_getElem? (i := 227) rfl)) rfl, inT (in_t1 (List.mem_of_getElem? (i := 17) rfl)) rfl, (RN_ok 12 (by decide)).1, by decide⟩, fun h => absurd h (by decide), fun _ => ⟨inT (in_t8 (List.mem_of_getElem? (i := 225) rfl)) rfl, inT (in_t8 (List.mem_of_getElem? (i := 226) rfl)) rfl⟩, by decide, rfl, by decide +kernel, plainFor_of_name ((RN_ok 12 (by decide)).2 (by decide))⟩
theorem yk289 : YK 289 := ⟨⟨inT (in_t9 (List.mem_of_getElem? (i := 7) rfl)) rfl, inT (in_t1 (List.mem_of_getElem? (i := 17) rfl)) rfl, (RN_ok 12 (by decide)).1, by decide⟩, fun h => absurd h (by decide), fun _ => ⟨inT (in_t9 (List.mem_of_getElem? (i := 6) rfl)) rfl, inT (List.mem_append_left _ (List.mem_of_getElem? (i := 106) rfl)) rfl⟩, by decide, rfl, by decide +kernel, plainFor_of_name ((RN_ok 12 (by decide)).2 (by decide))⟩
theorem yk290 : YK 290 := ⟨⟨inT (in_t9 (List.mem_of_getElem? (i := 3) rfl)) rfl, inT (in_t1 (List.mem_of_getElem? (i := 17) rfl)) rfl, (RN_ok 12 (by decide)).1, by decide⟩, fun h => absurd h (by decide), fun _ => ⟨inT (in_t9 (List.mem_of_getElem? (i := 1) rfl)) rfl, inT (in_t9 (List.mem_of_getElem? (i := 2) rfl)) rfl⟩, by decide, rfl, by decide +kernel, plainFor_of_name ((RN_ok 12 (by decide)).2 (by decide))⟩
theorem yk291 : YK 291 := ⟨⟨inT (in_t9 (List.mem_of_getElem? (i := 14) rfl)) rfl, inT (in_t1 (List.mem_of_getElem? (i := 17) rfl)) rfl, (RN_ok 12 (by decide)).1, by decide⟩, fun h => absurd h (by decide), fun _ => ⟨inT (in_t9 (List.mem_of_getElem? (i := 12) rfl)) rfl, inT (in_t9 (List.mem_of_getElem? (i := 13) rfl)) rfl⟩, by decide, rfl, by decide +kernel, plainFor_of_name ((RN_ok 12 (by decide)).2 (by decide))⟩
theorem yk292 : YK 292 := ⟨⟨inT (in_t9 (List.mem_of_getElem? (i := 26) rfl)) rfl, inT (in_t1 (List.mem_of_getElem? (i := 17) rfl)) rfl, (RN_ok 12 (by decide)).1, by decide⟩, fun _ => inT (in_t9 (List.mem_of_getElem? (i := 25) rfl)) rfl, fun h => absurd h (by decide), by decide, rfl, by decide +kernel, plainFor_of_name ((RN_ok 12 (by decide)).2 (by decide))⟩
theorem yk293 : YK 293 := ⟨⟨inT (in_t9 (List.mem_of_getElem? (i := 30) rfl)) rfl, inT (in_t1 (List.mem_of_getElem? (i := 17) rfl)) rfl, (RN_ok 12 (by decide)).1, by decide⟩, fun h => absurd h (by decide), fun _ => ⟨inT (in_t9 (List.mem_of_getElem? (i := 29) rfl)) rfl, inT (List.mem_append_left _ (List.mem_of_getElem? (i := 108) rfl)) rfl⟩, by decide, rfl, by decide +kernel, plainFor_of_name ((RN_ok 12 (by decide)).2 (by decide))⟩
theorem yk294 : YK 294 := ⟨⟨inT (in_t9 (List.mem_of_getElem? (i := 23) rfl)) rfl, inT (in_t1 (List.mem_of_getElem? (i := 17) rfl)) rfl, (RN_ok 12 (by decide)).1, by decide⟩, fun h => absurd h (by decide), fun _ => ⟨inT (in_t9 (List.mem_of_getElem? (i := 22) rfl)) rfl, inT (List.mem_append_left _ (List.mem_of_getElem? (i := 107) rfl)) rfl⟩, by decide, rfl, by decide +kernel, plainFor_of_name ((RN_ok 12 (by decide)).2 (by decide))⟩
theorem yk295 : YK 295 := ⟨⟨inT (in_t9 (List.mem_of_getElem? (i := 18) rfl)) rfl, inT (in_t1 (List.mem_of_getElem? (i := 17) rfl)) rfl, (RN_ok 12 (by decide)).1, by decide⟩, fun h => absurd h (by decide), fun _ => ⟨inT (in_t9 (List.mem_of_getElem? (i := 16) rfl)) rfl, inT (in_t9 (List.mem_of_getElem? (i := 17) rfl)) rfl⟩, by decide, rfl, by decide +kernel, plainFor_of_name ((RN_ok 12 (by decide)).2 (by decide))⟩
theorem yk296 : YK 296 := ⟨⟨inT (in_t9 (List.mem_of_getElem? (i := 34) rfl)) rfl, inT (in_t1 (List.mem_of_getElem? (i := 17) rfl)) rfl, (RN_ok 12 (by decide)).1, by decide⟩, fun h => absurd h (by decide), fun _ => ⟨inT (in_t9 (List.mem_of_getElem? (i := 32) rfl)) rfl, inT (in_t9 (List.mem_of_getElem? (i := 33) rfl)) rfl⟩, by decide, rfl, by decide +kernel, plainFor_of_name ((RN_ok 12 (by decide)).2 (by decide))⟩
theorem yk297 : YK 297 := ⟨⟨inT (in_t9 (List.mem_of_getElem? (i := 46) rfl)) rfl, inT (in_t1 (List.mem_of_getElem? (i := 17) rfl)) rfl, (RN_ok 12 (by decide)).1, by decide⟩, fun h => absurd h (by decide), fun _ => ⟨inT (in_t9 (List.mem_of_getElem? (i := 45) rfl)) rfl, inT (List.mem_append_left _ (List.mem_of_getElem? (i := 110) rfl)) rfl⟩, by decide, rfl, by decide +kernel, plainFor_of_name ((RN_ok 12 (by decide)).2 (by decide))⟩
theorem yk298 : YK 298 := ⟨⟨inT (in_t9 (List.mem_of_getElem? (i := 42) rfl)) rfl, inT (in_t1 (List.mem_of_getElem? (i := 17) rfl)) rfl, (RN_ok 12 (by decide)).1, by decide⟩, fun h => absurd h (by decide), fun _ => ⟨inT (in_t9 (List.mem_of_getElem? (i := 41) rfl)) rfl, inT (List.mem_append_left _ (List.mem_of_getElem? (i := 109) rfl)) rfl⟩, by decide, rfl, by decide +kernel, plainFor_of_name ((RN_ok 12 (by decide)).2 (by decide))⟩
theorem yk299 : YK 299 := ⟨⟨inT (in_t9 (List.mem_of_getElem? (i := 38) rfl)) rfl, inT (in_t1 (List.mem_of_getElem? (i := 17) rfl)) rfl, (RN_ok 12 (by decide)).1, by decide⟩, fun h => absurd h (by decide), fun _ => ⟨inT (in_t9 (List.mem_of_getElem? (i := 36) rfl)) rfl, inT (in_t9 (List.mem_of_getElem? (i := 37) rfl)) rfl⟩, by decide, rfl, by decide +kernel, plainFor_of_name ((RN_ok 12 (by decide)).2 (by decide))⟩
theorem yk300 : YK 300 := ⟨⟨inT (in_t9 (List.mem_of_getElem? (i := 50) rfl)) rfl, inT (in_t1 (List.mem_of_getElem? (i := 17) rfl)) rfl, (RN_ok 12 (by decide)).1, by decide⟩, fun h => absurd h (by decide), fun _ => ⟨inT (in_t9 (List.mem_of_getElem? (i := 48) rfl)) rfl, inT (in_t9 (List.mem_of_getElem? (i := 49) rfl)) rfl⟩, by decide, rfl, by decide +kernel, plainFor_of_name ((RN_ok 12 (by decide)).2 (by decide))⟩
theorem yk301 : YK 301 := ⟨⟨inT (in_t9 (List.mem_of_getElem? (i := 62) rfl)) rfl, inT (in_t1 (List.mem_of_getElem? (i := 17) rfl)) rfl, (RN_ok 12 (by decide)).1, by decide⟩, fun h => absurd h (by decide), fun _ => ⟨inT (in_t9 (List.mem_of_getElem? (i := 61) rfl)) rfl, inT (List.mem_append_left _ (List.mem_of_getElem? (i := 112) rfl)) rfl⟩, by decide, rfl, by decide +kernel, plainFor_of_name ((RN_ok 12 (by decide)).2 (by decide))⟩
theorem yk302 : YK 302 := ⟨⟨inT (in_t9 (List.mem_of_getElem? (i := 66) rfl)) rfl, inT (in_t1 (List.mem_of_getElem? (i := 17) rfl)) rfl, (RN_ok 12 (by decide)).1, by decide⟩, fun h => absurd h (by decide), fun _ => ⟨inT (in_t9 (List.mem_of_getElem? (i := 65) rfl)) rfl, inT (List.mem_append_left _ (List.mem_of_getElem? (i := 113) rfl)) rfl⟩, by decide, rfl, by decide +kernel, plainFor_of_name ((RN_ok 12 (by decide)).2 (by decide))⟩
theorem yk303 : YK 303 := ⟨⟨inT (in_t9 (List.mem_of_getElem? (i := 58) rfl)) rfl, inT (in_t1 (List.mem_of_getElem? (i := 17) rfl)) rfl, (RN_ok 12 (by decide)).1, by decide⟩, fun h => absurd h (by decide), fun _ => ⟨inT (in_t9 (List.mem_of_getElem? (i := 57) rfl)) rfl, inT (List.mem_append_left _ (List.mem_of_getElem? (i := 111) rfl)) rfl⟩, by decide, rfl, by decide +kernel, plainFor_of_name ((RN_ok 12 (by decide)).2 (by decide))⟩
theorem yk304 : YK 304 := ⟨⟨inT (in_t9 (List.mem_of_getElem? (i := 54) rfl)) rfl, inT (in_t1 (List.mem_of_getElem? (i := 17) rfl)) rfl, (RN_ok 12 (by decide)).1, by decide⟩, fun h => absurd h (by decide), fun _ => ⟨inT (in_t9 (List.mem_of_getElem? (i := 52) rfl)) rfl, inT (in_t9 (List.mem_of_getElem? (i := 53) rfl)) rfl⟩, by decide, rfl, by decide +kernel, plainFor_of_name ((RN_ok 12 (by decide)).2 (by decide))⟩
theorem yk305 : YK 305 := ⟨⟨inT (in_t9 (List.mem_of_getElem? (i := 70) rfl)) rfl, inT (in_t1 (List.mem_of_getElem? (i := 17) rfl)) rfl, (RN_ok 12 (by decide)).1, by decide⟩, fun h => absurd h (by decide), fun _ => ⟨inT (in_t9 (List.mem_of_getElem? (i := 68) rfl)) rfl, inT (in_t9 (List.mem_of_getElem? (i := 69) rfl)) rfl⟩, by decide, rfl, by decide +kernel, plainFor_of_name ((RN_ok 12 (by decide)).2 (by decide))⟩
theorem yk306 : YK 306 := ⟨⟨inT (in_t9 (List.mem_of_getElem? (i := 74) rfl)) rfl, inT (in_t1 (List.mem_of_getElem? (i := 17) rfl)) rfl, (RN_ok 12 (by decide)).1, by decide⟩, fun h => absurd h (by decide), fun _ => ⟨inT (in_t9 (List.mem_of_getElem? (i := 72) rfl)) rfl, inT (in_t9 (List.mem_of_getElem? (i := 73) rfl)) rfl⟩, by decide, rfl, by decide +kernel, plainFor_of_name ((RN_ok 12 (by decide)).2 (by decide))⟩
theorem yk307 : YK 307 := ⟨⟨inT (in_t9 (List.mem_of_getElem? (i := 78) rfl)) rfl, inT (in_t1 (List.mem_of_getElem? (i := 17) rfl)) rfl, (RN_ok 12 (by decide)).1, by decide⟩, fun h => absurd h (by decide), fun _ => ⟨inT (in_t9 (List.mem_of_getElem? (i := 76) rfl)) rfl, inT (in_t9 (List.mem_of_getElem? (i := 77) rfl)) rfl⟩, by decide, rfl, by decide +kernel, plainFor_of_name ((RN_ok 12 (by decide)).2 (by decide))⟩
theorem yk308 : YK 308 := ⟨⟨inT (in_t9 (List.mem_of_getElem? (i := 82) rfl)) rfl, inT (in_t1 (List.mem_of_getElem? (i := 17) rfl)) rfl, (RN_ok 12 (by decide)).1, by decide⟩, fun h => absurd h (by decide), fun _ => ⟨inT (in_t9 (List.mem_of_getElem? (i := 80) rfl)) rfl, inT (in_t9 (List.mem_of_getElem? (i := 81) rfl)) rfl⟩, by decide, rfl, by decide +kernel, plainFor_of_name ((RN_ok 12 (by decide)).2 (by decide))⟩
theorem yk309 : YK 309 := ⟨⟨inT (in_t9 (List.mem_of_getElem? (i := 90) rfl)) rfl, inT (in_t1 (List.mem_of_getElem? (i := 17) rfl)) rfl, (RN_ok 12 (by decide)).1, by decide⟩, fun h => absurd h (by decide), fun _ => ⟨inT (in_t9 (List.mem_of_getElem? (i := 89) rfl)) rfl, inT (List.mem_append_left _ (List.mem_of_getElem? (i := 114) rfl)) rfl⟩, by decide, rfl, by decide +kernel, plainFor_of_name ((RN_ok 12 (by decide)).2 (by decide))⟩
theorem yk310 : YK 310 := ⟨⟨inT (in_t9 (List.mem_of_getElem? (i := 99) rfl)) rfl, inT (in_t1 (List.mem_of_getElem? (i := 17) rfl)) rfl, (RN_ok 12 (by decide)).1, by decide⟩, fun h => absurd h (by decide), fun _ => ⟨inT (in_t9 (List.mem_of_getElem? (i := 98) rfl)) rfl, inT (List.mem_append_left _ (List.mem_of_getElem? (i := 116) rfl)) rfl⟩, by decide, rfl, by decide +kernel, plainFor_of_name ((RN_ok 12 (by decide)).2 (by decide))⟩
theorem yk311 : YK 311 := ⟨⟨inT (in_t9 (List.mem_of_getElem? (i := 95) rfl)) rfl, inT (in_t1 (List.mem_of_getElem? (i := 17) rfl)) rfl, (RN_ok 12 (by decide)).1, by decide⟩, fun h => absurd h (by decide), fun _ => ⟨inT (in_t9 (List.mem_of_getElem? (i := 94) rfl)) rfl, inT (List.mem_append_left _ (List.mem_of_getElem? (i := 115) rfl)) rfl⟩, by decide, rfl, by decide +kernel, plainFor_of_name ((RN_ok 12 (by decide)).2 (by decide))⟩
theorem yk312 : YK 312 := ⟨⟨inT (in_t9 (List.mem_of_getElem? (i := 86) rfl)) rfl, inT (in_t1 (List.mem_of_getElem? (i := 17) rfl)) rfl, (RN_ok 12 (by decide)).1, by decide⟩, fun h => absurd h (by decide), fun _ => ⟨inT (in_t9 (List.mem_of_getElem? (i := 84) rfl)) rfl, inT (in_t9 (List.mem_of_getElem? (i := 85) rfl)) rfl⟩, by decide, rfl, by decide +kernel, plainFor_of_name ((RN_ok 12 (by decide)).2 (by decide))⟩
theorem yk313 : YK 313 := ⟨⟨inT (in_t9 (List.mem_of_getElem? (i := 103) rfl)) rfl, inT (in_t1 (List.mem_of_getElem? (i := 17) rfl)) rfl, (RN_ok 12 (by decide)).1, by decide⟩, fun h => absurd h (by decide), fun _ => ⟨inT (in_t9 (List.mem_of_getElem? (i := 101) rfl)) rfl, inT (in_t9 (List.mem_of_getElem? (i := 102) rfl)) rfl⟩, by decide, rfl, by decide +kernel, plainFor_of_name ((RN_ok 12 (by decide)).2 (by decide))⟩
theorem yk314 : YK 314 := ⟨⟨inT (in_t9 (List.mem_of_getElem? (i := 111) rfl)) rfl, inT (in_t1 (List.mem_of_getElem? (i := 17) rfl)) rfl, (RN_ok 12 (by decide)).1, by decide⟩, fun h => absurd h (by decide), fun _ => ⟨inT (in_t9 (List.mem_of_getElem? (i := 110) rfl)) rfl, inT (List.mem_append_left _ (List.mem_of_getElem? (i := 117) rfl)) rfl⟩, by decide, rfl, by decide +kernel, plainFor_of_name ((RN_ok 12 (by decide)).2 (by decide))⟩
theorem yk315 : YK 315 := ⟨⟨inT (in_t9 (List.mem_of_getElem? (i := 107) rfl)) rfl, inT (in_t1 (List.mem_of_getElem? (i := 17) rfl)) rfl, (RN_ok 12 (by decide)).1, by decide⟩, fun h => absurd h (by decide), fun _ => ⟨inT (in_t9 (List.mem_of_getElem? (i := 105) rfl)) rfl, inT (in_t9 (List.mem_of_getElem? (i := 106) rfl)) rfl⟩, by decide, rfl, by decide +kernel, plainFor_of_name ((RN_ok 12 (by decide)).2 (by decide))⟩
theorem yk316 : YK 316 := ⟨⟨inT (in_t9 (List.mem_of_getElem? (i := 115) rfl)) rfl, inT (in_t1 (List.mem_of_getElem? (i := 17) rfl)) rfl, (RN_ok 12 (by decide)).1, by decide⟩, fun h => absurd h (by decide), fun _ => ⟨inT (in_t9 (List.mem_of_getElem? (i := 113) rfl)) rfl, inT (in_t9 (List.mem_of_getElem? (i := 114) rfl)) rfl⟩, by decide, rfl, by decide +kernel, plainFor_of_name ((RN_ok 12 (by decide)).2 (by decide))⟩
theorem yk317 : YK 317 := ⟨⟨inT (in_t9 (List.mem_of_getElem? (i := 119) rfl)) rfl, inT (in_t1 (List.mem_of_getElem? (i := 17) rfl)) rfl, (RN_ok 12 (by decide)).1, by decide⟩, fun h => absurd h (by decide), fun _ => ⟨inT (in_t9 (List.mem_of_getElem? (i := 117) rfl)) rfl, inT (in_t9 (List.mem_of_getElem? (i := 118) rfl)) rfl⟩, by decide, rfl, by decide +kernel, plainFor_of_name ((RN_ok 12 (by decide)).2 (by decide))⟩
theorem yk318 : YK 318 := ⟨⟨inT (in_t9 (List.mem_of_getElem? (i := 128) rfl)) rfl, inT (in_t1 (List.mem_of_getElem? (i := 17) rfl)) rfl, (RN_ok 12 (by decide)).1, by decide⟩, fun h => absurd h (by decide), fun _ => ⟨inT (in_t9 (List.mem_of_getElem? (i := 126) rfl)) rfl, inT (in_t9 (List.mem_of_getElem? (i := 127) rfl)) rfl⟩, by decide, rfl, by decide +kernel, plainFor_of_name ((RN_ok 12 (by decide)).2 (by decide))⟩
theorem yk319 : YK 319 := ⟨⟨inT (in_t9 (List.mem_of_getElem? (i := 153) rfl)) rfl, inT (in_t1 (List.mem_of_getElem? (i := 17) rfl)) rfl, (RN_ok 12 (by decide)).1, by decide⟩, fun h => absurd h (by decide), fun _ => ⟨inT (in_t9 (List.mem_of_getElem? (i := 152) rfl)) rfl, inT (List.mem_append_left _ (List.mem_of_getElem? (i := 123) rfl)) rfl⟩, by decide, rfl, by decide +kernel, plainFor_of_name ((RN_ok 12 (by decide)).2 (by decide))⟩
theorem yk320 : YK 320 := ⟨⟨inT (in_t9 (List.mem_of_getElem? (i := 145) rfl)) rfl, inT (in_t1 (List.mem_of_getElem? (i := 17) rfl)) rfl, (RN_ok 12 (by decide)).1, by decide⟩, fun h => absurd h (by decide), fun _ => ⟨inT (in_t9 (List.mem_of_getElem? (i := 144) rfl)) rfl, inT (List.mem_append_left _ (List.mem_of_getElem? (i := 121) rfl)) rfl⟩, by decide, rfl, by decide +kernel, plainFor_of_name ((RN_ok 12 (by decide)).2 (by decide))⟩
theorem yk321 : YK 321 := ⟨⟨inT (in_t9 (List.mem_of_getElem? (i := 149) rfl)) rfl, inT (in_t1 (List.mem_of_getElem? (i := 17) rfl)) rfl, (RN_ok 12 (by decide)).1, by decide⟩, fun h => absurd h (by decide), fun _ => ⟨inT (in_t9 (List.mem_of_getElem? (i := 148) rfl)) rfl, inT (List.mem_append_left _ (List.mem_of_getElem? (i := 122) rfl)) rfl⟩, by decide, rfl, by decide +kernel, plainFor_of_name ((RN_ok 12 (by decide)).2 (by decide))⟩
theorem yk322 : YK 322 := ⟨⟨inT (in_t9 (List.mem_of_getElem? (i := 141) rfl)) rfl, inT (in_t1 (List.mem_of_getElem? (i := 17) rfl)) rfl, (RN_ok 12 (by decide)).1, by decide⟩, fun h => absurd h (by decide), fun _ => ⟨inT (in_t9 (List.mem_of_getElem? (i := 140) rfl)) rfl, inT (List.mem_append_left _ (List.mem_of_getElem? (i := 120) rfl)) rfl⟩, by decide, rfl, by decide +kernel, plainFor_of_name ((RN_ok 12 (by decide)).2 (by decide))⟩
theorem yk323 : YK 323 := ⟨⟨inT (in_t9 (List.mem_of_getElem? (i := 158) rfl)) rfl, inT (in_t1 (List.mem_of_getElem? (i := 17) rfl)) rfl, (RN_ok 12 (by decide)).1, by decide⟩, fun h => absurd h (by decide), fun _ => ⟨inT (in_t9 (List.mem_of_getElem? (i := 157) rfl)) rfl, inT (List.mem_append_left _ (List.mem_of_getElem? (i := 124) rfl)) rfl⟩, by decide, rfl, by decide +kernel, plainFor_of_name ((RN_ok 12 (by decide)).2 (by decide))⟩
theorem yk324 : YK 324 := ⟨⟨inT (in_t9 (List.mem_of_getElem? (i := 162) rfl)) rfl, inT (in_t1 (List.mem_of_getElem? (i := 17) rfl)) rfl, (RN_ok 12 (by decide)).1, by decide⟩, fun h => absurd h (by decide), fun _ => ⟨inT (in_t9 (List.mem_of_getElem? (i := 161) rfl)) rfl, inT (List.mem_append_left _ (List.mem_of_getElem? (i := 125) rfl)) rfl⟩, by decide, rfl, by decide +kernel, plainFor_of_name ((RN_ok 12 (by decide)).2 (by decide))⟩
theorem yk325 : YK 325 := ⟨⟨inT (in_t9 (List.mem_of_getElem? (i := 137) rfl)) rfl, inT (in_t1 (List.mem_of_getElem? (i := 17) rfl)) rfl, (RN_ok 12 (by decide)).1, by decide⟩, fun h => absurd h (by decide), fun _ => ⟨inT (in_t9 (List.mem_of_getElem? (i := 136) rfl)) rfl, inT (List.mem_append_left _ (List.mem_of_getElem? (i := 119) rfl)) rfl⟩, by decide, rfl, by decide +kernel, plainFor_of_name ((RN_ok 12 (by decide)).2 (by decide))⟩
theorem yk326 : YK 326 := ⟨⟨inT (in_t9 (List.mem_of_getElem? (i := 132) rfl)) rfl, inT (in_t1 (List.mem_of_getElem? (i := 17) rfl)) rfl, (RN_ok 12 (by decide)).1, by decide⟩, fun h => absurd h (by decide), fun _ => ⟨inT (in_t9 (List.mem_of_getElem? (i := 130) rfl)) rfl, inT (in_t9 (List.mem_of_getElem? (i := 131) rfl)) rfl⟩, by decide, rfl, by decide +kernel, plainFor_of_name ((RN_ok 12 (by decide)).2 (by decide))⟩
theorem yk327 : YK 327 := ⟨⟨inT (in_t9 (List.mem_of_getElem? (i := 166) rfl)) rfl, inT (in_t1 (List.mem_of_getElem? (i := 17) rfl)) rfl, (RN_ok 12 (by decide)).1, by decide⟩, fun h => absurd h (by decide), fun _ => ⟨inT (in_t9 (List.mem_of_getElem? (i := 164) rfl)) rfl, inT (in_t9 (List.mem_of_getElem? (i := 165) rfl)) rfl⟩, by decide, rfl, by decide +kernel, plainFor_of_name ((RN_ok 12 (by decide)).2 (by decide))⟩
theorem yk328 : YK 328 := ⟨⟨inT (in_t9 (List.mem_of_getElem? (i := 170) rfl)) rfl, inT (in_t1 (List.mem_of_getElem? (i := 17) rfl)) rfl, (RN_ok 12 (by decide)).1, by decide⟩, fun h => absurd h (by decide), fun _ => ⟨inT (in_t9 (List.mem_of_getElem? (i := 168) rfl)) rfl, inT (in_t9 (List.mem_of_getElem? (i := 169) rfl)) rfl⟩, by decide, rfl, by decide +kernel, plainFor_of_name ((RN_ok 12 (by decide)).2 (by decide))⟩
theorem yk329 : YK 329 := ⟨⟨inT (in_t9 (List.mem_of_getElem? (i := 178) rfl)) rfl, inT (in_t1 (List.mem_of_getElem? (i := 17) rfl)) rfl, (RN_ok 12 (by decide)).1, by decide⟩, fun h => absurd h (by decide), fun _ => ⟨inT (in_t9 (List.mem_of_getElem? (i := 177) rfl)) rfl, inT (List.mem_append_left _ (List.mem_of_getElem? (i := 126) rfl)) rfl⟩, by decide, rfl, by decide +kernel, plainFor_of_name ((RN_ok 12 (by decide)).2 (by decide))⟩
theorem yk330 : YK 330 := ⟨⟨inT (in_t9 (List.mem_of_getElem? (i := 174) rfl)) rfl, inT (in_t1 (List.mem_of_getElem? (i := 17) rfl)) rfl, (RN_ok 12 (by decide)).1, by decide⟩, fun h => absurd h (by decide), fun _ => ⟨inT (in_t9 (List.mem_of_getElem? (i := 172) rfl)) rfl, inT (in_t9 (List.mem_of_getElem? (i := 173) rfl)) rfl⟩, by decide, rfl, by decide +kernel, plainFor_of_name ((RN_ok 12 (by decide)).2 (by decide))⟩
theorem yk331 : YK 331 := ⟨⟨inT (in_t9 (List.mem_of_getElem? (i := 182) rfl)) rfl, inT (in_t1 (List.mem_of_getElem? (i := 17) rfl)) rfl, (RN_ok 12 (by decide)).1, by decide⟩, fun h => absurd h (by decide), fun _ => ⟨inT (in_t9 (List.mem_of_getElem? (i := 180) rfl)) rfl, inT (in_t9 (List.mem_of_getElem? (i := 181) rfl)) rfl⟩, by decide, rfl, by decide +kernel, plainFor_of_name ((RN_ok 12 (by decide)).2 (by decide))⟩
theorem yk332 : YK 332 := ⟨⟨inT (in_t5 (List.mem_of_getElem? (i := 157) rfl)) rfl, inT (in_t1 (List.mem_of_getElem? (i := 21) rfl)) rfl, (RN_ok 13 (by decide)).1, by decide⟩, fun _ => inT (in_t5 (List.mem_of_getElem? (i := 156) rfl)) rfl, fun h => absurd h (by decide), by decide, rfl, by decide +kernel, plainFor_of_name ((RN_ok 13 (by decide)).2 (by decide))⟩
theorem yk333 : YK 333 := ⟨⟨inT (in_t5 (List.mem_of_getElem? (i := 120) rfl)) rfl, inT (in_t1 (List.mem_of_getElem? (i := 20) rfl)) rfl, (RN_ok 14 (by decide)).1, by decide⟩, fun _ => inT (in_t5 (List.mem_of_getElem? (i := 119) rfl)) rfl, fun h => absurd h (by decide), by decide, rfl, by decide +kernel, mathPlain rfl (by decide)⟩
theorem yk334 : YK 334 := ⟨⟨inT (in_t5 (List.mem_of_getElem? (i := 134) rfl)) rfl, inT (in_t1 (List.mem_of_getElem? (i := 20) rfl)) rfl, (RN_ok 14 (by decide)).1, by decide⟩, fun _ => inT (in_t5 (List.mem_of_getElem? (i := 133) rfl)) rfl, fun h => absurd h (by decide), by decide, rfl, by decide +kernel, mathPlain rfl (by decide)⟩
theorem yk335 : YK 335 := ⟨⟨inT (in_t5 (List.mem_of_getElem? (i := 131) rfl)) rfl, inT (in_t1 (List.mem_of_getElem? (i := 20) rfl)) rfl, (RN_ok 14 (by decide)).1, by decide⟩, fun _ => inT (in_t5 (List.mem_of_getElem? (i := 130) rfl)) rfl, fun h => absurd h (by decide), by decide, rfl, by decide +kernel, mathPlain rfl (by decide)⟩
theorem yk336 : YK 336 := ⟨⟨inT (in_t3 (List.mem_of_getElem? (i := 116) rfl)) rfl, inT (in_t1 (List.mem_of_getElem? (i := 18) rfl)) rfl, (RN_ok 15 (by decide)).1, by decide⟩, fun _ => inT (in_t3 (List.mem_of_getElem? (i := 115) rfl)) rfl, fun h => absurd h (by decide), by decide, rfl, by decide +kernel, plainFor_of_name ((RN_ok 15 (by decide)).2 (by decide))⟩
theorem YK_ok : ∀ y, 1 ≤ y → y ≤ 336 → YK y := by
  intro y h1 h2
  by_cases h1_336 : y ≤ 168
  · by_cases h1_168 : y ≤ 84
    · by_cases h1_84 : y ≤ 42
      · by_cases h1_42 : y ≤ 21
        · by_cases h1_21 : y ≤ 11
          · by_cases h1_11 : y ≤ 6
            · by_cases h1_6 : y ≤ 3
              · by_cases h1_3 : y ≤ 2
                · by_cases h1_2 : y ≤ 1
                  · have e : y = 1 := by omega
                    subst e
                    exact yk1
                  · have e : y = 2 := by omega
                    subst e
                    exact yk2
                · have e : y = 3 := by omega
                  subst e
                  exact yk3
              · by_cases h4_6 : y ≤ 5
                · by_cases h4_5 : y ≤ 4
                  · have e : y = 4 := by omega
                    subst e
                    exact yk4
                  · have e : y = 5 := by omega
                    subst e
                    exact yk5
                · have e : y = 6 := by omega
                  subst e
                  exact yk6
            · by_cases h7_11 : y ≤ 9
              · by_cases h7_9 : y ≤ 8
                · by_cases h7_8 : y ≤ 7
                  · have e : y = 7 := by omega
                    subst e
                    exact yk7
                  · have e : y = 8 := by omega
                    subst e
                    exact yk8
                · have e : y = 9 := by omega
                  subst e
                  exact yk9
              · by_cases h10_11 : y ≤ 10
                · have e : y = 10 := by omega
                  subst e
                  exact yk10
                · have e : y = 11 := by omega
                  subst e
                  exact yk11
          · by_cases h12_21 : y ≤ 16
            · by_cases h12_16 : y ≤ 14
              · by_cases h12_14 : y ≤ 13
                · by_cases h12_13 : y ≤ 12
                  · have e : y = 12 := by omega
                    subst e
                    exact yk12
                  · have e : y = 13 := by omega
                    subst e
                    exact yk13
                · have e : y = 14 := by omega
                  subst e
                  exact yk14
              · by_cases h15_16 : y ≤ 15
                · have e : y = 15 := by omega
                  subst e
                  exact yk15
                · have e : y = 16 := by omega
                  subst e
                  exact yk16
            · by_cases h17_21 : y ≤ 19
              · by_cases h17_19 : y ≤ 18
                · by_cases h17_18 : y ≤ 17
                  · have e : y = 17 := by omega
                    subst e
                    exact yk17
                  · have e : y = 18 := by omega
                    subst e
                    exact yk18
                · have e : y = 19 := by omega
                  subst e
                  exact yk19
              · by_cases h20_21 : y ≤ 20
                · have e : y = 20 := by omega
                  subst e
                  exact yk20
                · have e : y = 21 := by omega
                  subst e
                  exact yk21
        · by_cases h22_42 : y ≤ 32
          · by_cases h22_32 : y ≤ 27
            · by_cases h22_27 : y ≤ 24
              · by_cases h22_24 : y ≤ 23
                · by_cases h22_23 : y ≤ 22
                  · have e : y = 22 := by omega
                    subst e
                    exact yk22
                  · have e : y = 23 := by omega
                    subst e
                    exact yk23
                · have e : y = 24 := by omega
                  subst e
                  exact yk24
              · by_cases h25_27 : y ≤ 26
                · by_cases h25_26 : y ≤ 25
                  · have e : y = 25 := by omega
                    subst e
                    exact yk25
                  · have e : y = 26 := by omega
                    subst e
                    exact yk26
                · have e : y = 27 := by omega
                  subst e
                  exact yk27
            · by_cases h28_32 : y ≤ 30
              · by_cases h28_30 : y ≤ 29
                · by_cases h28_29 : y ≤ 28
                  · have e : y = 28 := by omega
                    subst e
                    exact yk28
                  · have e : y = 29 := by omega
                    subst e
                    exact yk29
                · have e : y = 30 := by omega
                  subst e
                  exact yk30
              · by_cases h31_32 : y ≤ 31
                · have e : y = 31 := by omega
                  subst e
                  exact yk31
                · have e : y = 32 := by omega
                  subst e
                  exact yk32
          · by_cases h33_42 : y ≤ 37
            · by_cases h33_37 : y ≤ 35
              · by_cases h33_35 : y ≤ 34
                · by_cases h33_34 : y ≤ 33
                  · have e : y = 33 := by omega
                    subst e
                    exact yk33
                  · have e : y = 34 := by omega
                    subst e
                    exact yk34
                · have e : y = 35 := by omega
                  subst e
                  exact yk35
              · by_cases h36_37 : y ≤ 36
                · have e : y = 36 := by omega
                  subst e
                  exact yk36
                · have e : y = 37 := by omega
                  subst e
                  exact yk37
            · by_cases h38_42 : y ≤ 40
              · by_cases h38_40 : y ≤ 39
                · by_cases h38_39 : y ≤ 38
                  · have e : y = 38 := by omega
                    subst e
                    exact yk38
                  · have e : y = 39 := by omega
                    subst e
                    exact yk39
                · have e : y = 40 := by omega
                  subst e
                  exact yk40
              · by_cases h41_42 : y ≤ 41
                · have e : y = 41 := by omega
                  subst e
                  exact yk41
                · have e : y = 42 := by omega
                  subst e
                  exact yk42
      · by_cases h43_84 : y ≤ 63
        · by_cases h43_63 : y ≤ 53
          · by_cases h43_53 : y ≤ 48
            · by_cases h43_48 : y ≤ 45
              · by_cases h43_45 : y ≤ 44
                · by_cases h43_44 : y ≤ 43
                  · have e : y = 43 := by omega
                    subst e
                    exact yk43
                  · have e : y = 44 := by omega
                    subst e
                    exact yk44
                · have e : y = 45 := by omega
                  subst e
                  exact yk45
              · by_cases h46_48 : y ≤ 47
                · by_cases h46_47 : y ≤ 46
                  · have e : y = 46 := by omega
                    subst e
                    exact yk46
                  · have e : y = 47 := by omega
                    subst e
                    exact yk47
                · have e : y = 48 := by omega
                  subst e
                  exact yk48
            · by_cases h49_53 : y ≤ 51
              · by_cases h49_51 : y ≤ 50
                · by_cases h49_50 : y ≤ 49
                  · have e : y = 49 := by omega
                    subst e
                    exact yk49
                  · have e : y = 50 := by omega
                    subst e
                    exact yk50
                · have e : y = 51 := by omega
                  subst e
                  exact yk51
              · by_cases h52_53 : y ≤ 52
                · have e : y = 52 := by omega
                  subst e
                  exact yk52
                · have e : y = 53 := by omega
                  subst e
                  exact yk53
          · by_cases h54_63 : y ≤ 58
            · by_cases h54_58 : y ≤ 56
              · by_cases h54_56 : y ≤ 55
                · by_cases h54_55 : y ≤ 54
                  · have e : y = 54 := by omega
                    subst e
                    exact yk54
                  · have e : y = 55 := by omega
                    subst e
                    exact yk55
                · have e : y = 56 := by omega
                  subst e
                  exact yk56
              · by_cases h57_58 : y ≤ 57
                · have e : y = 57 := by omega
                  subst e
                  exact yk57
                · have e : y = 58 := by omega
                  subst e
                  exact yk58
            · by_cases h59_63 : y ≤ 61
              · by_cases h59_61 : y ≤ 60
                · by_cases h59_60 : y ≤ 59
                  · have e : y = 59 := by omega
                    subst e
                    exact yk59
                  · have e : y = 60 := by omega
                    subst e
                    exact yk60
                · have e : y = 61 := by omega
                  subst e
                  exact yk61
              · by_cases h62_63 : y ≤ 62
                · have e : y = 62 := by omega
                  subst e
                  exact yk62
                · have e : y = 63 := by omega
                  subst e
                  exact yk63
        · by_cases h64_84 : y ≤ 74
          · by_cases h64_74 : y ≤ 69
            · by_cases h64_69 : y ≤ 66
              · by_cases h64_66 : y ≤ 65
                · by_cases h64_65 : y ≤ 64
                  · have e : y = 64 := by omega
                    subst e
                    exact yk64
                  · have e : y = 65 := by omega
                    subst e
                    exact yk65
                · have e : y = 66 := by omega
                  subst e
                  exact yk66
              · by_cases h67_69 : y ≤ 68
                · by_cases h67_68 : y ≤ 67
                  · have e : y = 67 := by omega
                    subst e
                    exact yk67
                  · have e : y = 68 := by omega
                    subst e
                    exact yk68
                · have e : y = 69 := by omega
                  subst e
                  exact yk69
            · by_cases h70_74 : y ≤ 72
              · by_cases h70_72 : y ≤ 71
                · by_cases h70_71 : y ≤ 70
                  · have e : y = 70 := by omega
                    subst e
                    exact yk70
                  · have e : y = 71 := by omega
                    subst e
                    exact yk71
                · have e : y = 72 := by omega
                  subst e
                  exact yk72
              · by_cases h73_74 : y ≤ 73
                · have e : y = 73 := by omega
                  subst e
                  exact yk73
                · have e : y = 74 := by omega
                  subst e
                  exact yk74
          · by_cases h75_84 : y ≤ 79
            · by_cases h75_79 : y ≤ 77
              · by_cases h75_77 : y ≤ 76
                · by_cases h75_76 : y ≤ 75
                  · have e : y = 75 := by omega
                    subst e
                    exact yk75
                  · have e : y = 76 := by omega
                    subst e
                    exact yk76
                · have e : y = 77 := by omega
                  subst e
                  exact yk77
              · by_cases h78_79 : y ≤ 78
                · have e : y = 78 := by omega
                  subst e
                  exact yk78
                · have e : y = 79 := by omega
                  subst e
                  exact yk79
            · by_cases h80_84 : y ≤ 82
              · by_cases h80_82 : y ≤ 81
                · by_cases h80_81 : y ≤ 80
                  · have e : y = 80 := by omega
                    subst e
                    exact yk80
                  · have e : y = 81 := by omega
                    subst e
                    exact yk81
                · have e : y = 82 := by omega
                  subst e
                  exact yk82
              · by_cases h83_84 : y ≤ 83
                · have e : y = 83 := by omega
                  subst e
                  exact yk83
                · have e : y = 84 := by omega
                  subst e
                  exact yk84
    · by_cases h85_168 : y ≤ 126
      · by_cases h85_126 : y ≤ 105
        · by_cases h85_105 : y ≤ 95
          · by_cases h85_95 : y ≤ 90
            · by_cases h85_90 : y ≤ 87
              · by_cases h85_87 : y ≤ 86
                · by_cases h85_86 : y ≤ 85
                  · have e : y = 85 := by omega
                    subst e
                    exact yk85
                  · have e : y = 86 := by omega
                    subst e
                    exact yk86
                · have e : y = 87 := by omega
                  subst e
                  exact yk87
              · by_cases h88_90 : y ≤ 89
                · by_cases h88_89 : y ≤ 88
                  · have e : y = 88 := by omega
                    subst e
                    exact yk88
                  · have e : y = 89 := by omega
                    subst e
                    exact yk89
                · have e : y = 90 := by omega
                  subst e
                  exact yk90
            · by_cases h91_95 : y ≤ 93
              · by_cases h91_93 : y ≤ 92
                · by_cases h91_92 : y ≤ 91
                  · have e : y = 91 := by omega
                    subst e
                    exact yk91
                  · have e : y = 92 := by omega
                    subst e
                    exact yk92
                · have e : y = 93 := by omega
                  subst e
                  exact yk93
              · by_cases h94_95 : y ≤ 94
                · have e : y = 94 := by omega
                  subst e
                  exact yk94
                · have e : y = 95 := by omega
                  subst e
                  exact yk95
          · by_cases h96_105 : y ≤ 100
            · by_cases h96_100 : y ≤ 98
              · by_cases h96_98 : y ≤ 97
                · by_cases h96_97 : y ≤ 96
                  · have e : y = 96 := by omega
                    subst e
                    exact yk96
                  · have e : y = 97 := by omega
                    subst e
                    exact yk97
                · have e : y = 98 := by omega
                  subst e
                  exact yk98
              · by_cases h99_100 : y ≤ 99
                · have e : y = 99 := by omega
                  subst e
                  exact yk99
                · have e : y = 100 := by omega
                  subst e
                  exact yk100
            · by_cases h101_105 : y ≤ 103
              · by_cases h101_103 : y ≤ 102
                · by_cases h101_102 : y ≤ 101
                  · have e : y = 101 := by omega
                    subst e
                    exact yk101
                  · have e : y = 102 := by omega
                    subst e
                    exact yk102
                · have e : y = 103 := by omega
                  subst e
                  exact yk103
              · by_cases h104_105 : y ≤ 104
                · have e : y = 104 := by omega
                  subst e
                  exact yk104
                · have e : y = 105 := by omega
                  subst e
                  exact yk105
        · by_cases h106_126 : y ≤ 116
          · by_cases h106_116 : y ≤ 111
            · by_cases h106_111 : y ≤ 108
              · by_cases h106_108 : y ≤ 107
                · by_cases h106_107 : y ≤ 106
                  · have e : y = 106 := by omega
                    subst e
                    exact yk106
                  · have e : y = 107 := by omega
                    subst e
                    exact yk107
                · have e : y = 108 := by omega
                  subst e
                  exact yk108
              · by_cases h109_111 : y ≤ 110
                · by_cases h109_110 : y ≤ 109
                  · have e : y = 109 := by omega
                    subst e
                    exact yk109
                  · have e : y = 110 := by omega
                    subst e
                    exact yk110
                · have e : y = 111 := by omega
                  subst e
                  exact yk111
            · by_cases h112_116 : y ≤ 114
              · by_cases h112_114 : y ≤ 113
                · by_cases h112_113 : y ≤ 112
                  · have e : y = 112 := by omega
                    subst e
                    exact yk112
                  · have e : y = 113 := by omega
                    subst e
                    exact yk113
                · have e : y = 114 := by omega
                  subst e
                  exact yk114
              · by_cases h115_116 : y ≤ 115
                · have e : y = 115 := by omega
                  subst e
                  exact yk115
                · have e : y = 116 := by omega
                  subst e
                  exact yk116
          · by_cases h117_126 : y ≤ 121
            · by_cases h117_121 : y ≤ 119
              · by_cases h117_119 : y ≤ 118
                · by_cases h117_118 : y ≤ 117
                  · have e : y = 117 := by omega
                    subst e
                    exact yk117
                  · have e : y = 118 := by omega
                    subst e
                    exact yk118
                · have e : y = 119 := by omega
                  subst e
                  exact yk119
              · by_cases h120_121 : y ≤ 120
                · have e : y = 120 := by omega
                  subst e
                  exact yk120
                · have e : y = 121 := by omega
                  subst e
                  exact yk121
            · by_cases h122_126 : y ≤ 124
              · by_cases h122_124 : y ≤ 123
                · by_cases h122_123 : y ≤ 122
                  · have e : y = 122 := by omega
                    subst e
                    exact yk122
                  · have e : y = 123 := by omega
                    subst e
                    exact yk123
                · have e : y = 124 := by omega
                  subst e
                  exact yk124
              · by_cases h125_126 : y ≤ 125
                · have e : y = 125 := by omega
                  subst e
                  exact yk125
                · have e : y = 126 := by omega
                  subst e
                  exact yk126
      · by_cases h127_168 : y ≤ 147
        · by_cases h127_147 : y ≤ 137
          · by_cases h127_137 : y ≤ 132
            · by_cases h127_132 : y ≤ 129
              · by_cases h127_129 : y ≤ 128
                · by_cases h127_128 : y ≤ 127
                  · have e : y = 127 := by omega
                    subst e
                    exact yk127
                  · have e : y = 128 := by omega
                    subst e
                    exact yk128
                · have e : y = 129 := by omega
                  subst e
                  exact yk129
              · by_cases h130_132 : y ≤ 131
                · by_cases h130_131 : y ≤ 130
                  · have e : y = 130 := by omega
                    subst e
                    exact yk130
                  · have e : y = 131 := by omega
                    subst e
                    exact yk131
                · have e : y = 132 := by omega
                  subst e
                  exact yk132
            · by_cases h133_137 : y ≤ 135
              · by_cases h133_135 : y ≤ 134
                · by_cases h133_134 : y ≤ 133
                  · have e : y = 133 := by omega
                    subst e
                    exact yk133
                  · have e : y = 134 := by omega
                    subst e
                    exact yk134
                · have e : y = 135 := by omega
                  subst e
                  exact yk135
              · by_cases h136_137 : y ≤ 136
                · have e : y = 136 := by omega
                  subst e
                  exact yk136
                · have e : y = 137 := by omega
                  subst e
                  exact yk137
          · by_cases h138_147 : y ≤ 142
            · by_cases h138_142 : y ≤ 140
              · by_cases h138_140 : y ≤ 139
                · by_cases h138_139 : y ≤ 138
                  · have e : y = 138 := by omega
                    subst e
                    exact yk138
                  · have e : y = 139 := by omega
                    subst e
                    exact yk139
                · have e : y = 140 := by omega
                  subst e
                  exact yk140
              · by_cases h141_142 : y ≤ 141
                · have e : y = 141 := by omega
                  subst e
                  exact yk141
                · have e : y = 142 := by omega
                  subst e
                  exact yk142
            · by_cases h143_147 : y ≤ 145
              · by_cases h143_145 : y ≤ 144
                · by_cases h143_144 : y ≤ 143
                  · have e : y = 143 := by omega
                    subst e
                    exact yk143
                  · have e : y = 144 := by omega
                    subst e
                    exact yk144
                · have e : y = 145 := by omega
                  subst e
                  exact yk145
              · by_cases h146_147 : y ≤ 146
                · have e : y = 146 := by omega
                  subst e
                  exact yk146
                · have e : y = 147 := by omega
                  subst e
                  exact yk147
        · by_cases h148_168 : y ≤ 158
          · by_cases h148_158 : y ≤ 153
            · by_cases h148_153 : y ≤ 150
              · by_cases h148_150 : y ≤ 149
                · by_cases h148_149 : y ≤ 148
                  · have e : y = 148 := by omega
                    subst e
                    exact yk148
                  · have e : y = 149 := by omega
                    subst e
                    exact yk149
                · have e : y = 150 := by omega
                  subst e
                  exact yk150
              · by_cases h151_153 : y ≤ 152
                · by_cases h151_152 : y ≤ 151
                  · have e : y = 151 := by omega
                    subst e
                    exact yk151
                  · have e : y = 152 := by omega
                    subst e
                    exact yk152
                · have e : y = 153 := by omega
                  subst e
                  exact yk153
            · by_cases h154_158 : y ≤ 156
              · by_cases h154_156 : y ≤ 155
                · by_cases h154_155 : y ≤ 154
                  · have e : y = 154 := by omega
                    subst e
                    exact yk154
                  · have e : y = 155 := by omega
                    subst e
                    exact yk155
                · have e : y = 156 := by omega
                  subst e
                  exact yk156
              · by_cases h157_158 : y ≤ 157
                · have e : y = 157 := by omega
                  subst e
                  exact yk157
                · have e : y = 158 := by omega
                  subst e
                  exact yk158
          · by_cases h159_168 : y ≤ 163
            · by_cases h159_163 : y ≤ 161
              · by_cases h159_161 : y ≤ 160
                · by_cases h159_160 : y ≤ 159
                  · have e : y = 159 := by omega
                    subst e
                    exact yk159
                  · have e : y = 160 := by omega
                    subst e
                    exact yk160
                · have e : y = 161 := by omega
                  subst e
                  exact yk161
              · by_cases h162_163 : y ≤ 162
                · have e : y = 162 := by omega
                  subst e
                  exact yk162
                · have e : y = 163 := by omega
                  subst e
                  exact yk163
            · by_cases h164_168 : y ≤ 166
              · by_cases h164_166 : y ≤ 165
                · by_cases h164_165 : y ≤ 164
                  · have e : y = 164 := by omega
                    subst e
                    exact yk164
                  · have e : y = 165 := by omega
                    subst e
                    exact yk165
                · have e : y = 166 := by omega
                  subst e
                  exact yk166
              · by_cases h167_168 : y ≤ 167
                · have e : y = 167 := by omega
                  subst e
                  exact yk167
                · have e : y = 168 := by omega
                  subst e
                  exact yk168
  · by_cases h169_336 : y ≤ 252
    · by_cases h169_252 : y ≤ 210
      · by_cases h169_210 : y ≤ 189
        · by_cases h169_189 : y ≤ 179
          · by_cases h169_179 : y ≤ 174
            · by_cases h169_174 : y ≤ 171
              · by_cases h169_171 : y ≤ 170
                · by_cases h169_170 : y ≤ 169
                  · have e : y = 169 := by omega
                    subst e
                    exact yk169
                  · have e : y = 170 := by omega
                    subst e
                    exact yk170
                · have e : y = 171 := by omega
                  subst e
                  exact yk171
              · by_cases h172_174 : y ≤ 173
                · by_cases h172_173 : y ≤ 172
                  · have e : y = 172 := by omega
                    subst e
                    exact yk172
                  · have e : y = 173 := by omega
                    subst e
                    exact yk173
                · have e : y = 174 := by omega
                  subst e
                  exact yk174
            · by_cases h175_179 : y ≤ 177
              · by_cases h175_177 : y ≤ 176
                · by_cases h175_176 : y ≤ 175
                  · have e : y = 175 := by omega
                    subst e
                    exact yk175
                  · have e : y = 176 := by omega
                    subst e
                    exact yk176
                · have e : y = 177 := by omega
                  subst e
                  exact yk177
              · by_cases h178_179 : y ≤ 178
                · have e : y = 178 := by omega
                  subst e
                  exact yk178
                · have e : y = 179 := by omega
                  subst e
                  exact yk179
          · by_cases h180_189 : y ≤ 184
            · by_cases h180_184 : y ≤ 182
              · by_cases h180_182 : y ≤ 181
                · by_cases h180_181 : y ≤ 180
                  · have e : y = 180 := by omega
                    subst e
                    exact yk180
                  · have e : y = 181 := by omega
                    subst e
                    exact yk181
                · have e : y = 182 := by omega
                  subst e
                  exact yk182
              · by_cases h183_184 : y ≤ 183
                · have e : y = 183 := by omega
                  subst e
                  exact yk183
                · have e : y = 184 := by omega
                  subst e
                  exact yk184
            · by_cases h185_189 : y ≤ 187
              · by_cases h185_187 : y ≤ 186
                · by_cases h185_186 : y ≤ 185
                  · have e : y = 185 := by omega
                    subst e
                    exact yk185
                  · have e : y = 186 := by omega
                    subst e
                    exact yk186
                · have e : y = 187 := by omega
                  subst e
                  exact yk187
              · by_cases h188_189 : y ≤ 188
                · have e : y = 188 := by omega
                  subst e
                  exact yk188
                · have e : y = 189 := by omega
                  subst e
                  exact yk189
        · by_cases h190_210 : y ≤ 200
          · by_cases h190_200 : y ≤ 195
            · by_cases h190_195 : y ≤ 192
              · by_cases h190_192 : y ≤ 191
                · by_cases h190_191 : y ≤ 190
                  · have e : y = 190 := by omega
                    subst e
                    exact yk190
                  · have e : y = 191 := by omega
                    subst e
                    exact yk191
                · have e : y = 192 := by omega
                  subst e
                  exact yk192
              · by_cases h193_195 : y ≤ 194
                · by_cases h193_194 : y ≤ 193
                  · have e : y = 193 := by omega
                    subst e
                    exact yk193
                  · have e : y = 194 := by omega
                    subst e
                    exact yk194
                · have e : y = 195 := by omega
                  subst e
                  exact yk195
            · by_cases h196_200 : y ≤ 198
              · by_cases h196_198 : y ≤ 197
                · by_cases h196_197 : y ≤ 196
                  · have e : y = 196 := by omega
                    subst e
                    exact yk196
                  · have e : y = 197 := by omega
                    subst e
                    exact yk197
                · have e : y = 198 := by omega
                  subst e
                  exact yk198
              · by_cases h199_200 : y ≤ 199
                · have e : y = 199 := by omega
                  subst e
                  exact yk199
                · have e : y = 200 := by omega
                  subst e
                  exact yk200
          · by_cases h201_210 : y ≤ 205
            · by_cases h201_205 : y ≤ 203
              · by_cases h201_203 : y ≤ 202
                · by_cases h201_202 : y ≤ 201
                  · have e : y = 201 := by omega
                    subst e
                    exact yk201
                  · have e : y = 202 := by omega
                    subst e
                    exact yk202
                · have e : y = 203 := by omega
                  subst e
                  exact yk203
              · by_cases h204_205 : y ≤ 204
                · have e : y = 204 := by omega
                  subst e
                  exact yk204
                · have e : y = 205 := by omega
                  subst e
                  exact yk205
            · by_cases h206_210 : y ≤ 208
              · by_cases h206_208 : y ≤ 207
                · by_cases h206_207 : y ≤ 206
                  · have e : y = 206 := by omega
                    subst e
                    exact yk206
                  · have e : y = 207 := by omega
                    subst e
                    exact yk207
                · have e : y = 208 := by omega
                  subst e
                  exact yk208
              · by_cases h209_210 : y ≤ 209
                · have e : y = 209 := by omega
                  subst e
                  exact yk209
                · have e : y = 210 := by omega
                  subst e
                  exact yk210
      · by_cases h211_252 : y ≤ 231
        · by_cases h211_231 : y ≤ 221
          · by_cases h211_221 : y ≤ 216
            · by_cases h211_216 : y ≤ 213
              · by_cases h211_213 : y ≤ 212
                · by_cases h211_212 : y ≤ 211
                  · have e : y = 211 := by omega
                    subst e
                    exact yk211
                  · have e : y = 212 := by omega
                    subst e
                    exact yk212
                · have e : y = 213 := by omega
                  subst e
                  exact yk213
              · by_cases h214_216 : y ≤ 215
                · by_cases h214_215 : y ≤ 214
                  · have e : y = 214 := by omega
                    subst e
                    exact yk214
                  · have e : y = 215 := by omega
                    subst e
                    exact yk215
                · have e : y = 216 := by omega
                  subst e
                  exact yk216
            · by_cases h217_221 : y ≤ 219
              · by_cases h217_219 : y ≤ 218
                · by_cases h217_218 : y ≤ 217
                  · have e : y = 217 := by omega
                    subst e
                    exact yk217
                  · have e : y = 218 := by omega
                    subst e
                    exact yk218
                · have e : y = 219 := by omega
                  subst e
                  exact yk219
              · by_cases h220_221 : y ≤ 220
                · have e : y = 220 := by omega
                  subst e
                  exact yk220
                · have e : y = 221 := by omega
                  subst e
                  exact yk221
          · by_cases h222_231 : y ≤ 226
            · by_cases h222_226 : y ≤ 224
              · by_cases h222_224 : y ≤ 223
                · by_cases h222_223 : y ≤ 222
                  · have e : y = 222 := by omega
                    subst e
                    exact yk222
                  · have e : y = 223 := by omega
                    subst e
                    exact yk223
                · have e : y = 224 := by omega
                  subst e
                  exact yk224
              · by_cases h225_226 : y ≤ 225
                · have e : y = 225 := by omega
                  subst e
                  exact yk225
                · have e : y = 226 := by omega
                  subst e
                  exact yk226
            · by_cases h227_231 : y ≤ 229
              · by_cases h227_229 : y ≤ 228
                · by_cases h227_228 : y ≤ 227
                  · have e : y = 227 := by omega
                    subst e
                    exact yk227
                  · have e : y = 228 := by omega
                    subst e
                    exact yk228
                · have e : y = 229 := by omega
                  subst e
                  exact yk229
              · by_cases h230_231 : y ≤ 230
                · have e : y = 230 := by omega
                  subst e
                  exact yk230
                · have e : y = 231 := by omega
                  subst e
                  exact yk231
        · by_cases h232_252 : y ≤ 242
          · by_cases h232_242 : y ≤ 237
            · by_cases h232_237 : y ≤ 234
              · by_cases h232_234 : y ≤ 233
                · by_cases h232_233 : y ≤ 232
                  · have e : y = 232 := by omega
                    subst e
                    exact yk232
                  · have e : y = 233 := by omega
                    subst e
                    exact yk233
                · have e : y = 234 := by omega
                  subst e
                  exact yk234
              · by_cases h235_237 : y ≤ 236
                · by_cases h235_236 : y ≤ 235
                  · have e : y = 235 := by omega
                    subst e
                    exact yk235
                  · have e : y = 236 := by omega
                    subst e
                    exact yk236
                · have e : y = 237 := by omega
                  subst e
                  exact yk237
            · by_cases h238_242 : y ≤ 240
              · by_cases h238_240 : y ≤ 239
                · by_cases h238_239 : y ≤ 238
                  · have e : y = 238 := by omega
                    subst e
                    exact yk238
                  · have e : y = 239 := by omega
                    subst e
                    exact yk239
                · have e : y = 240 := by omega
                  subst e
                  exact yk240
              · by_cases h241_242 : y ≤ 241
                · have e : y = 241 := by omega
                  subst e
                  exact yk241
                · have e : y = 242 := by omega
                  subst e
                  exact yk242
          · by_cases h243_252 : y ≤ 247
            · by_cases h243_247 : y ≤ 245
              · by_cases h243_245 : y ≤ 244
                · by_cases h243_244 : y ≤ 243
                  · have e : y = 243 := by omega
                    subst e
                    exact yk243
                  · have e : y = 244 := by omega
                    subst e
                    exact yk244
                · have e : y = 245 := by omega
                  subst e
                  exact yk245
              · by_cases h246_247 : y ≤ 246
                · have e : y = 246 := by omega
                  subst e
                  exact yk246
                · have e : y = 247 := by omega
                  subst e
                  exact yk247
            · by_cases h248_252 : y ≤ 250
              · by_cases h248_250 : y ≤ 249
                · by_cases h248_249 : y ≤ 248
                  · have e : y = 248 := by omega
                    subst e
                    exact yk248
                  · have e : y = 249 := by omega
                    subst e
                    exact yk249
                · have e : y = 250 := by omega
                  subst e
                  exact yk250
              · by_cases h251_252 : y ≤ 251
                · have e : y = 251 := by omega
                  subst e
                  exact yk251
                · have e : y = 252 := by omega
                  subst e
                  exact yk252
    · by_cases h253_336 : y ≤ 294
      · by_cases h253_294 : y ≤ 273
        · by_cases h253_273 : y ≤ 263
          · by_cases h253_263 : y ≤ 258
            · by_cases h253_258 : y ≤ 255
              · by_cases h253_255 : y ≤ 254
                · by_cases h253_254 : y ≤ 253
                  · have e : y = 253 := by omega
                    subst e
                    exact yk253
                  · have e : y = 254 := by omega
                    subst e
                    exact yk254
                · have e : y = 255 := by omega
                  subst e
                  exact yk255
              · by_cases h256_258 : y ≤ 257
                · by_cases h256_257 : y ≤ 256
                  · have e : y = 256 := by omega
                    subst e
                    exact yk256
                  · have e : y = 257 := by omega
                    subst e
                    exact yk257
                · have e : y = 258 := by omega
                  subst e
                  exact yk258
            · by_cases h259_263 : y ≤ 261
              · by_cases h259_261 : y ≤ 260
                · by_cases h259_260 : y ≤ 259
                  · have e : y = 259 := by omega
                    subst e
                    exact yk259
                  · have e : y = 260 := by omega
                    subst e
                    exact yk260
                · have e : y = 261 := by omega
                  subst e
                  exact yk261
              · by_cases h262_263 : y ≤ 262
                · have e : y = 262 := by omega
                  subst e
                  exact yk262
                · have e : y = 263 := by omega
                  subst e
                  exact yk263
          · by_cases h264_273 : y ≤ 268
            · by_cases h264_268 : y ≤ 266
              · by_cases h264_266 : y ≤ 265
                · by_cases h264_265 : y ≤ 264
                  · have e : y = 264 := by omega
                    subst e
                    exact yk264
                  · have e : y = 265 := by omega
                    subst e
                    exact yk265
                · have e : y = 266 := by omega
                  subst e
                  exact yk266
              · by_cases h267_268 : y ≤ 267
                · have e : y = 267 := by omega
                  subst e
                  exact yk267
                · have e : y = 268 := by omega
                  subst e
                  exact yk268
            · by_cases h269_273 : y ≤ 271
              · by_cases h269_271 : y ≤ 270
                · by_cases h269_270 : y ≤ 269
                  · have e : y = 269 := by omega
                    subst e
                    exact yk269
                  · have e : y = 270 := by omega
                    subst e
                    exact yk270
                · have e : y = 271 := by omega
                  subst e
                  exact yk271
              · by_cases h272_273 : y ≤ 272
                · have e : y = 272 := by omega
                  subst e
                  exact yk272
                · have e : y = 273 := by omega
                  subst e
                  exact yk273
        · by_cases h274_294 : y ≤ 284
          · by_cases h274_284 : y ≤ 279
            · by_cases h274_279 : y ≤ 276
              · by_cases h274_276 : y ≤ 275
                · by_cases h274_275 : y ≤ 274
                  · have e : y = 274 := by omega
                    subst e
                    exact yk274
                  · have e : y = 275 := by omega
                    subst e
                    exact yk275
                · have e : y = 276 := by omega
                  subst e
                  exact yk276
              · by_cases h277_279 : y ≤ 278
                · by_cases h277_278 : y ≤ 277
                  · have e : y = 277 := by omega
                    subst e
                    exact yk277
                  · have e : y = 278 := by omega
                    subst e
                    exact yk278
                · have e : y = 279 := by omega
                  subst e
                  exact yk279
            · by_cases h280_284 : y ≤ 282
              · by_cases h280_282 : y ≤ 281
                · by_cases h280_281 : y ≤ 280
                  · have e : y = 280 := by omega
                    subst e
                    exact yk280
                  · have e : y = 281 := by omega
                    subst e
                    exact yk281
                · have e : y = 282 := by omega
                  subst e
                  exact yk282
              · by_cases h283_284 : y ≤ 283
                · have e : y = 283 := by omega
                  subst e
                  exact yk283
                · have e : y = 284 := by omega
                  subst e
                  exact yk284
          · by_cases h285_294 : y ≤ 289
            · by_cases h285_289 : y ≤ 287
              · by_cases h285_287 : y ≤ 286
                · by_cases h285_286 : y ≤ 285
                  · have e : y = 285 := by omega
                    subst e
                    exact yk285
                  · have e : y = 286 := by omega
                    subst e
                    exact yk286
                · have e : y = 287 := by omega
                  subst e
                  exact yk287
              · by_cases h288_289 : y ≤ 288
                · have e : y = 288 := by omega
                  subst e
                  exact yk288
                · have e : y = 289 := by omega
                  subst e
                  exact yk289
            · by_cases h290_294 : y ≤ 292
              · by_cases h290_292 : y ≤ 291
                · by_cases h290_291 : y ≤ 290
                  · have e : y = 290 := by omega
                    subst e
                    exact yk290
                  · have e : y = 291 := by omega
                    subst e
                    exact yk291
                · have e : y = 292 := by omega
                  subst e
                  exact yk292
              · by_cases h293_294 : y ≤ 293
                · have e : y = 293 := by omega
                  subst e
                  exact yk293
                · have e : y = 294 := by omega
                  subst e
                  exact yk294
      · by_cases h295_336 : y ≤ 315
        · by_cases h295_315 : y ≤ 305
          · by_cases h295_305 : y ≤ 300
            · by_cases h295_300 : y ≤ 297
              · by_cases h295_297 : y ≤ 296
                · by_cases h295_296 : y ≤ 295
                  · have e : y = 295 := by omega
                    subst e
                    exact yk295
                  · have e : y = 296 := by omega
                    subst e
                    exact yk296
                · have e : y = 297 := by omega
                  subst e
                  exact yk297
              · by_cases h298_300 : y ≤ 299
                · by_cases h298_299 : y ≤ 298
                  · have e : y = 298 := by omega
                    subst e
                    exact yk298
                  · have e : y = 299 := by omega
                    subst e
                    exact yk299
                · have e : y = 300 := by omega
                  subst e
                  exact yk300
            · by_cases h301_305 : y ≤ 303
              · by_cases h301_303 : y ≤ 302
                · by_cases h301_302 : y ≤ 301
                  · have e : y = 301 := by omega
                    subst e
                    exact yk301
                  · have e : y = 302 := by omega
                    subst e
                    exact yk302
                · have e : y = 303 := by omega
                  subst e
                  exact yk303
              · by_cases h304_305 : y ≤ 304
                · have e : y = 304 := by omega
                  subst e
                  exact yk304
                · have e : y = 305 := by omega
                  subst e
                  exact yk305
          · by_cases h306_315 : y ≤ 310
            · by_cases h306_310 : y ≤ 308
              · by_cases h306_308 : y ≤ 307
                · by_cases h306_307 : y ≤ 306
                  · have e : y = 306 := by omega
                    subst e
                    exact yk306
                  · have e : y = 307 := by omega
                    subst e
                    exact yk307
                · have e : y = 308 := by omega
                  subst e
                  exact yk308
              · by_cases h309_310 : y ≤ 309
                · have e : y = 309 := by omega
                  subst e
                  exact yk309
                · have e : y = 310 := by omega
                  subst e
                  exact yk310
            · by_cases h311_315 : y ≤ 313
              · by_cases h311_313 : y ≤ 312
                · by_cases h311_312 : y ≤ 311
                  · have e : y = 311 := by omega
                    subst e
                    exact yk311
                  · have e : y = 312 := by omega
                    subst e
                    exact yk312
                · have e : y = 313 := by omega
                  subst e
                  exact yk313
              · by_cases h314_315 : y ≤ 314
                · have e : y = 314 := by omega
                  subst e
                  exact yk314
                · have e : y = 315 := by omega
                  subst e
                  exact yk315
        · by_cases h316_336 : y ≤ 326
          · by_cases h316_326 : y ≤ 321
            · by_cases h316_321 : y ≤ 318
              · by_cases h316_318 : y ≤ 317
                · by_cases h316_317 : y ≤ 316
                  · have e : y = 316 := by omega
                    subst e
                    exact yk316
                  · have e : y = 317 := by omega
                    subst e
                    exact yk317
                · have e : y = 318 := by omega
                  subst e
                  exact yk318
              · by_cases h319_321 : y ≤ 320
                · by_cases h319_320 : y ≤ 319
                  · have e : y = 319 := by omega
                    subst e
                    exact yk319
                  · have e : y = 320 := by omega
                    subst e
                    exact yk320
                · have e : y = 321 := by omega
                  subst e
                  exact yk321
            · by_cases h322_326 : y ≤ 324
              · by_cases h322_324 : y ≤ 323
                · by_cases h322_323 : y ≤ 322
                  · have e : y = 322 := by omega
                    subst e
                    exact yk322
                  · have e : y = 323 := by omega
                    subst e
                    exact yk323
                · have e : y = 324 := by omega
                  subst e
                  exact yk324
              · by_cases h325_326 : y ≤ 325
                · have e : y = 325 := by omega
                  subst e
                  exact yk325
                · have e : y = 326 := by omega
                  subst e
                  exact yk326
          · by_cases h327_336 : y ≤ 331
            · by_cases h327_331 : y ≤ 329
              · by_cases h327_329 : y ≤ 328
                · by_cases h327_328 : y ≤ 327
                  · have e : y = 327 := by omega
                    subst e
                    exact yk327
                  · have e : y = 328 := by omega
                    subst e
                    exact yk328
                · have e : y = 329 := by omega
                  subst e
                  exact yk329
              · by_cases h330_331 : y ≤ 330
                · have e : y = 330 := by omega
                  subst e
                  exact yk330
                · have e : y = 331 := by omega
                  subst e
                  exact yk331
            · by_cases h332_336 : y ≤ 334
              · by_cases h332_334 : y ≤ 333
                · by_cases h332_333 : y ≤ 332
                  · have e : y = 332 := by omega
                    subst e
                    exact yk332
                  · have e : y = 333 := by omega
                    subst e
                    exact yk333
                · have e : y = 334 := by omega
                  subst e
                  exact yk334
              · by_cases h335_336 : y ≤ 335
                · have e : y = 335 := by omega
                  subst e
                  exact yk335
                · have e : y = 336 := by omega
                  subst e
                  exact yk336
end
