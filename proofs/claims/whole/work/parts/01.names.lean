-- ===== PART A: goes FIRST, ahead of the names: the tables' words, and 'selects' of the private methods out of them =====
/-- a private method of a class that the tables say can be made, by its rows of tables_1 -/
def lw_okq (q : MethodName × Nat) : Prop := (q.1.cls ≠ "java/lang/invoke/MethodHandle" ∧ q.1.cls ≠ "java/lang/invoke/VarHandle") ∧ Cond.instantiable q.1.cls q.2 ∈ tables_1 ∧ Cond.privateMethod q.1 ∈ tables_1 ∧ Cond.instanceMethod q.1 ∈ tables_1
theorem lw_p0 : lw_okq (⟨"DuneRoad$Tape", "cutToken", "(I)I"⟩, 8) := ⟨⟨by decide +kernel, by decide +kernel⟩, List.mem_of_getElem? (i := 31) (by decide +kernel), List.mem_of_getElem? (i := 577) (by decide +kernel), List.mem_of_getElem? (i := 578) (by decide +kernel)⟩
theorem lw_p1 : lw_okq (⟨"DuneRoad$Tape", "lettersEnd", "(I)I"⟩, 8) := ⟨⟨by decide +kernel, by decide +kernel⟩, List.mem_of_getElem? (i := 31) (by decide +kernel), List.mem_of_getElem? (i := 584) (by decide +kernel), List.mem_of_getElem? (i := 585) (by decide +kernel)⟩
theorem lw_p2 : lw_okq (⟨"DuneRoad$Tape", "wordNumber", "(II)I"⟩, 8) := ⟨⟨by decide +kernel, by decide +kernel⟩, List.mem_of_getElem? (i := 31) (by decide +kernel), List.mem_of_getElem? (i := 588) (by decide +kernel), List.mem_of_getElem? (i := 589) (by decide +kernel)⟩
theorem lw_p3 : lw_okq (⟨"DuneRoad$Tape", "isWord", "(III)Z"⟩, 8) := ⟨⟨by decide +kernel, by decide +kernel⟩, List.mem_of_getElem? (i := 31) (by decide +kernel), List.mem_of_getElem? (i := 592) (by decide +kernel), List.mem_of_getElem? (i := 593) (by decide +kernel)⟩
theorem lw_p4 : lw_okq (⟨"DuneRoad$Tape", "addToken", "(III)V"⟩, 8) := ⟨⟨by decide +kernel, by decide +kernel⟩, List.mem_of_getElem? (i := 31) (by decide +kernel), List.mem_of_getElem? (i := 637) (by decide +kernel), List.mem_of_getElem? (i := 638) (by decide +kernel)⟩
theorem lw_p5 : lw_okq (⟨"DuneRoad$Tape", "digitsEnd", "(I)I"⟩, 8) := ⟨⟨by decide +kernel, by decide +kernel⟩, List.mem_of_getElem? (i := 31) (by decide +kernel), List.mem_of_getElem? (i := 644) (by decide +kernel), List.mem_of_getElem? (i := 645) (by decide +kernel)⟩
theorem lw_p6 : lw_okq (⟨"DuneRoad$Tape", "numberOf", "(II)I"⟩, 8) := ⟨⟨by decide +kernel, by decide +kernel⟩, List.mem_of_getElem? (i := 31) (by decide +kernel), List.mem_of_getElem? (i := 648) (by decide +kernel), List.mem_of_getElem? (i := 649) (by decide +kernel)⟩
theorem lw_p7 : lw_okq (⟨"DuneRoad$SeaReader", "readClause", "(I)V"⟩, 3) := ⟨⟨by decide +kernel, by decide +kernel⟩, List.mem_of_getElem? (i := 67) (by decide +kernel), List.mem_of_getElem? (i := 652) (by decide +kernel), List.mem_of_getElem? (i := 653) (by decide +kernel)⟩
theorem lw_p8 : lw_okq (⟨"DuneRoad$SeaReader", "isFull", "(I)Z"⟩, 3) := ⟨⟨by decide +kernel, by decide +kernel⟩, List.mem_of_getElem? (i := 67) (by decide +kernel), List.mem_of_getElem? (i := 664) (by decide +kernel), List.mem_of_getElem? (i := 665) (by decide +kernel)⟩
theorem lw_p9 : lw_okq (⟨"DuneRoad$SeaReader", "readNumbers", "(I)V"⟩, 3) := ⟨⟨by decide +kernel, by decide +kernel⟩, List.mem_of_getElem? (i := 67) (by decide +kernel), List.mem_of_getElem? (i := 672) (by decide +kernel), List.mem_of_getElem? (i := 673) (by decide +kernel)⟩
theorem lw_p10 : lw_okq (⟨"DuneRoad$SeaReader", "readTrain", "()V"⟩, 3) := ⟨⟨by decide +kernel, by decide +kernel⟩, List.mem_of_getElem? (i := 67) (by decide +kernel), List.mem_of_getElem? (i := 686) (by decide +kernel), List.mem_of_getElem? (i := 687) (by decide +kernel)⟩
theorem lw_p11 : lw_okq (⟨"DuneRoad$SeaReader", "readGround", "()V"⟩, 3) := ⟨⟨by decide +kernel, by decide +kernel⟩, List.mem_of_getElem? (i := 67) (by decide +kernel), List.mem_of_getElem? (i := 712) (by decide +kernel), List.mem_of_getElem? (i := 713) (by decide +kernel)⟩
theorem lw_p12 : lw_okq (⟨"DuneRoad$SeaReader", "takeCell", "()I"⟩, 3) := ⟨⟨by decide +kernel, by decide +kernel⟩, List.mem_of_getElem? (i := 67) (by decide +kernel), List.mem_of_getElem? (i := 716) (by decide +kernel), List.mem_of_getElem? (i := 717) (by decide +kernel)⟩
theorem lw_p13 : lw_okq (⟨"DuneRoad$SeaReader", "readPlace", "(I)V"⟩, 3) := ⟨⟨by decide +kernel, by decide +kernel⟩, List.mem_of_getElem? (i := 67) (by decide +kernel), List.mem_of_getElem? (i := 720) (by decide +kernel), List.mem_of_getElem? (i := 721) (by decide +kernel)⟩
theorem lw_p14 : lw_okq (⟨"DuneRoad$SeaReader", "readShip", "()V"⟩, 3) := ⟨⟨by decide +kernel, by decide +kernel⟩, List.mem_of_getElem? (i := 67) (by decide +kernel), List.mem_of_getElem? (i := 724) (by decide +kernel), List.mem_of_getElem? (i := 725) (by decide +kernel)⟩
theorem lw_p15 : lw_okq (⟨"DuneRoad$SeaReader", "readStorm", "()V"⟩, 3) := ⟨⟨by decide +kernel, by decide +kernel⟩, List.mem_of_getElem? (i := 67) (by decide +kernel), List.mem_of_getElem? (i := 728) (by decide +kernel), List.mem_of_getElem? (i := 729) (by decide +kernel)⟩
def lw_privs_1 : List (MethodName × Nat) := [(⟨"DuneRoad$Tape", "cutToken", "(I)I"⟩, 8), (⟨"DuneRoad$Tape", "lettersEnd", "(I)I"⟩, 8), (⟨"DuneRoad$Tape", "wordNumber", "(II)I"⟩, 8), (⟨"DuneRoad$Tape", "isWord", "(III)Z"⟩, 8), (⟨"DuneRoad$Tape", "addToken", "(III)V"⟩, 8), (⟨"DuneRoad$Tape", "digitsEnd", "(I)I"⟩, 8), (⟨"DuneRoad$Tape", "numberOf", "(II)I"⟩, 8), (⟨"DuneRoad$SeaReader", "readClause", "(I)V"⟩, 3), (⟨"DuneRoad$SeaReader", "isFull", "(I)Z"⟩, 3), (⟨"DuneRoad$SeaReader", "readNumbers", "(I)V"⟩, 3), (⟨"DuneRoad$SeaReader", "readTrain", "()V"⟩, 3), (⟨"DuneRoad$SeaReader", "readGround", "()V"⟩, 3), (⟨"DuneRoad$SeaReader", "takeCell", "()I"⟩, 3), (⟨"DuneRoad$SeaReader", "readPlace", "(I)V"⟩, 3), (⟨"DuneRoad$SeaReader", "readShip", "()V"⟩, 3), (⟨"DuneRoad$SeaReader", "readStorm", "()V"⟩, 3)]
theorem lw_r1 : ∀ q ∈ lw_privs_1, lw_okq q := List.forall_mem_cons.mpr ⟨lw_p0, List.forall_mem_cons.mpr ⟨lw_p1, List.forall_mem_cons.mpr ⟨lw_p2, List.forall_mem_cons.mpr ⟨lw_p3, List.forall_mem_cons.mpr ⟨lw_p4, List.forall_mem_cons.mpr ⟨lw_p5, List.forall_mem_cons.mpr ⟨lw_p6, List.forall_mem_cons.mpr ⟨lw_p7, List.forall_mem_cons.mpr ⟨lw_p8, List.forall_mem_cons.mpr ⟨lw_p9, List.forall_mem_cons.mpr ⟨lw_p10, List.forall_mem_cons.mpr ⟨lw_p11, List.forall_mem_cons.mpr ⟨lw_p12, List.forall_mem_cons.mpr ⟨lw_p13, List.forall_mem_cons.mpr ⟨lw_p14, List.forall_mem_cons.mpr ⟨lw_p15, fun _ h => absurd h List.not_mem_nil⟩⟩⟩⟩⟩⟩⟩⟩⟩⟩⟩⟩⟩⟩⟩⟩
theorem lw_p16 : lw_okq (⟨"DuneRoad$RuleReader", "readClause", "(I)V"⟩, 3) := ⟨⟨by decide +kernel, by decide +kernel⟩, List.mem_of_getElem? (i := 83) (by decide +kernel), List.mem_of_getElem? (i := 771) (by decide +kernel), List.mem_of_getElem? (i := 772) (by decide +kernel)⟩
theorem lw_p17 : lw_okq (⟨"DuneRoad$RuleReader", "readSum", "()V"⟩, 3) := ⟨⟨by decide +kernel, by decide +kernel⟩, List.mem_of_getElem? (i := 83) (by decide +kernel), List.mem_of_getElem? (i := 778) (by decide +kernel), List.mem_of_getElem? (i := 779) (by decide +kernel)⟩
theorem lw_p18 : lw_okq (⟨"DuneRoad$RuleReader", "readValue", "()V"⟩, 3) := ⟨⟨by decide +kernel, by decide +kernel⟩, List.mem_of_getElem? (i := 83) (by decide +kernel), List.mem_of_getElem? (i := 782) (by decide +kernel), List.mem_of_getElem? (i := 783) (by decide +kernel)⟩
theorem lw_p19 : lw_okq (⟨"DuneRoad$RuleReader", "timesHere", "()I"⟩, 3) := ⟨⟨by decide +kernel, by decide +kernel⟩, List.mem_of_getElem? (i := 83) (by decide +kernel), List.mem_of_getElem? (i := 798) (by decide +kernel), List.mem_of_getElem? (i := 799) (by decide +kernel)⟩
theorem lw_p20 : lw_okq (⟨"DuneRoad$RuleReader", "plusHere", "()I"⟩, 3) := ⟨⟨by decide +kernel, by decide +kernel⟩, List.mem_of_getElem? (i := 83) (by decide +kernel), List.mem_of_getElem? (i := 803) (by decide +kernel), List.mem_of_getElem? (i := 804) (by decide +kernel)⟩
theorem lw_p21 : lw_okq (⟨"DuneRoad$RuleReader", "readTest", "(I)V"⟩, 3) := ⟨⟨by decide +kernel, by decide +kernel⟩, List.mem_of_getElem? (i := 83) (by decide +kernel), List.mem_of_getElem? (i := 807) (by decide +kernel), List.mem_of_getElem? (i := 808) (by decide +kernel)⟩
theorem lw_p22 : lw_okq (⟨"DuneRoad$RuleReader", "readFact", "(I)V"⟩, 3) := ⟨⟨by decide +kernel, by decide +kernel⟩, List.mem_of_getElem? (i := 83) (by decide +kernel), List.mem_of_getElem? (i := 811) (by decide +kernel), List.mem_of_getElem? (i := 812) (by decide +kernel)⟩
theorem lw_p23 : lw_okq (⟨"DuneRoad$RuleReader", "takeComparison", "()I"⟩, 3) := ⟨⟨by decide +kernel, by decide +kernel⟩, List.mem_of_getElem? (i := 83) (by decide +kernel), List.mem_of_getElem? (i := 816) (by decide +kernel), List.mem_of_getElem? (i := 817) (by decide +kernel)⟩
theorem lw_p24 : lw_okq (⟨"DuneRoad$Moment", "dropOldDiggings", "()V"⟩, 12) := ⟨⟨by decide +kernel, by decide +kernel⟩, List.mem_of_getElem? (i := 258) (by decide +kernel), List.mem_of_getElem? (i := 905) (by decide +kernel), List.mem_of_getElem? (i := 906) (by decide +kernel)⟩
theorem lw_p25 : lw_okq (⟨"DuneRoad", "hasRule", "(I)Z"⟩, 13) := ⟨⟨by decide +kernel, by decide +kernel⟩, List.mem_of_getElem? (i := 23) (by decide +kernel), List.mem_of_getElem? (i := 949) (by decide +kernel), List.mem_of_getElem? (i := 950) (by decide +kernel)⟩
theorem lw_p26 : lw_okq (⟨"DuneRoad$Crew", "tellWords", "(LDuneRoad$Moment;I)V"⟩, 9) := ⟨⟨by decide +kernel, by decide +kernel⟩, List.mem_of_getElem? (i := 372) (by decide +kernel), List.mem_of_getElem? (i := 958) (by decide +kernel), List.mem_of_getElem? (i := 959) (by decide +kernel)⟩
theorem lw_p27 : lw_okq (⟨"DuneRoad$Crew", "fillBy", "(LDuneRoad$Moment;LDuneRoad$Rule;I)V"⟩, 9) := ⟨⟨by decide +kernel, by decide +kernel⟩, List.mem_of_getElem? (i := 372) (by decide +kernel), List.mem_of_getElem? (i := 966) (by decide +kernel), List.mem_of_getElem? (i := 967) (by decide +kernel)⟩
theorem lw_p28 : lw_okq (⟨"DuneRoad$Crew", "testHolds", "(LDuneRoad$Rule;I)Z"⟩, 9) := ⟨⟨by decide +kernel, by decide +kernel⟩, List.mem_of_getElem? (i := 372) (by decide +kernel), List.mem_of_getElem? (i := 974) (by decide +kernel), List.mem_of_getElem? (i := 975) (by decide +kernel)⟩
theorem lw_p29 : lw_okq (⟨"DuneRoad$Crew", "worth", "(LDuneRoad$Rule;II)J"⟩, 9) := ⟨⟨by decide +kernel, by decide +kernel⟩, List.mem_of_getElem? (i := 372) (by decide +kernel), List.mem_of_getElem? (i := 978) (by decide +kernel), List.mem_of_getElem? (i := 979) (by decide +kernel)⟩
theorem lw_p30 : lw_okq (⟨"DuneRoad$Crew", "wayBy", "(LDuneRoad$Moment;LDuneRoad$Rule;I)I"⟩, 9) := ⟨⟨by decide +kernel, by decide +kernel⟩, List.mem_of_getElem? (i := 372) (by decide +kernel), List.mem_of_getElem? (i := 987) (by decide +kernel), List.mem_of_getElem? (i := 988) (by decide +kernel)⟩
theorem lw_p31 : lw_okq (⟨"DuneRoad$Pilot", "start", "(LDuneRoad$Moment;I)V"⟩, 10) := ⟨⟨by decide +kernel, by decide +kernel⟩, List.mem_of_getElem? (i := 412) (by decide +kernel), List.mem_of_getElem? (i := 1059) (by decide +kernel), List.mem_of_getElem? (i := 1060) (by decide +kernel)⟩
def lw_privs_2 : List (MethodName × Nat) := [(⟨"DuneRoad$RuleReader", "readClause", "(I)V"⟩, 3), (⟨"DuneRoad$RuleReader", "readSum", "()V"⟩, 3), (⟨"DuneRoad$RuleReader", "readValue", "()V"⟩, 3), (⟨"DuneRoad$RuleReader", "timesHere", "()I"⟩, 3), (⟨"DuneRoad$RuleReader", "plusHere", "()I"⟩, 3), (⟨"DuneRoad$RuleReader", "readTest", "(I)V"⟩, 3), (⟨"DuneRoad$RuleReader", "readFact", "(I)V"⟩, 3), (⟨"DuneRoad$RuleReader", "takeComparison", "()I"⟩, 3), (⟨"DuneRoad$Moment", "dropOldDiggings", "()V"⟩, 12), (⟨"DuneRoad", "hasRule", "(I)Z"⟩, 13), (⟨"DuneRoad$Crew", "tellWords", "(LDuneRoad$Moment;I)V"⟩, 9), (⟨"DuneRoad$Crew", "fillBy", "(LDuneRoad$Moment;LDuneRoad$Rule;I)V"⟩, 9), (⟨"DuneRoad$Crew", "testHolds", "(LDuneRoad$Rule;I)Z"⟩, 9), (⟨"DuneRoad$Crew", "worth", "(LDuneRoad$Rule;II)J"⟩, 9), (⟨"DuneRoad$Crew", "wayBy", "(LDuneRoad$Moment;LDuneRoad$Rule;I)I"⟩, 9), (⟨"DuneRoad$Pilot", "start", "(LDuneRoad$Moment;I)V"⟩, 10)]
theorem lw_r2 : ∀ q ∈ lw_privs_2, lw_okq q := List.forall_mem_cons.mpr ⟨lw_p16, List.forall_mem_cons.mpr ⟨lw_p17, List.forall_mem_cons.mpr ⟨lw_p18, List.forall_mem_cons.mpr ⟨lw_p19, List.forall_mem_cons.mpr ⟨lw_p20, List.forall_mem_cons.mpr ⟨lw_p21, List.forall_mem_cons.mpr ⟨lw_p22, List.forall_mem_cons.mpr ⟨lw_p23, List.forall_mem_cons.mpr ⟨lw_p24, List.forall_mem_cons.mpr ⟨lw_p25, List.forall_mem_cons.mpr ⟨lw_p26, List.forall_mem_cons.mpr ⟨lw_p27, List.forall_mem_cons.mpr ⟨lw_p28, List.forall_mem_cons.mpr ⟨lw_p29, List.forall_mem_cons.mpr ⟨lw_p30, List.forall_mem_cons.mpr ⟨lw_p31, fun _ h => absurd h List.not_mem_nil⟩⟩⟩⟩⟩⟩⟩⟩⟩⟩⟩⟩⟩⟩⟩⟩
theorem lw_p32 : lw_okq (⟨"DuneRoad$Pilot", "lookAt", "(I)V"⟩, 10) := ⟨⟨by decide +kernel, by decide +kernel⟩, List.mem_of_getElem? (i := 412) (by decide +kernel), List.mem_of_getElem? (i := 1065) (by decide +kernel), List.mem_of_getElem? (i := 1066) (by decide +kernel)⟩
theorem lw_p33 : lw_okq (⟨"DuneRoad$Pilot", "passMost", "()Z"⟩, 10) := ⟨⟨by decide +kernel, by decide +kernel⟩, List.mem_of_getElem? (i := 412) (by decide +kernel), List.mem_of_getElem? (i := 1069) (by decide +kernel), List.mem_of_getElem? (i := 1070) (by decide +kernel)⟩
theorem lw_p34 : lw_okq (⟨"DuneRoad$Pilot", "canPass", "(II)Z"⟩, 10) := ⟨⟨by decide +kernel, by decide +kernel⟩, List.mem_of_getElem? (i := 412) (by decide +kernel), List.mem_of_getElem? (i := 1073) (by decide +kernel), List.mem_of_getElem? (i := 1074) (by decide +kernel)⟩
theorem lw_p35 : lw_okq (⟨"DuneRoad$Pilot", "passFirst", "()V"⟩, 10) := ⟨⟨by decide +kernel, by decide +kernel⟩, List.mem_of_getElem? (i := 412) (by decide +kernel), List.mem_of_getElem? (i := 1083) (by decide +kernel), List.mem_of_getElem? (i := 1084) (by decide +kernel)⟩
theorem lw_p36 : lw_okq (⟨"DuneRoad$Pilot", "fillDear", "()V"⟩, 10) := ⟨⟨by decide +kernel, by decide +kernel⟩, List.mem_of_getElem? (i := 412) (by decide +kernel), List.mem_of_getElem? (i := 1088) (by decide +kernel), List.mem_of_getElem? (i := 1089) (by decide +kernel)⟩
theorem lw_p37 : lw_okq (⟨"DuneRoad$Pilot", "passDear", "()V"⟩, 10) := ⟨⟨by decide +kernel, by decide +kernel⟩, List.mem_of_getElem? (i := 412) (by decide +kernel), List.mem_of_getElem? (i := 1095) (by decide +kernel), List.mem_of_getElem? (i := 1096) (by decide +kernel)⟩
theorem lw_p38 : lw_okq (⟨"DuneRoad$Pilot", "passWaters", "(II)V"⟩, 10) := ⟨⟨by decide +kernel, by decide +kernel⟩, List.mem_of_getElem? (i := 412) (by decide +kernel), List.mem_of_getElem? (i := 1099) (by decide +kernel), List.mem_of_getElem? (i := 1100) (by decide +kernel)⟩
theorem lw_p39 : lw_okq (⟨"DuneRoad$Fleet", "duesWith", "(II)I"⟩, 5) := ⟨⟨by decide +kernel, by decide +kernel⟩, List.mem_of_getElem? (i := 234) (by decide +kernel), List.mem_of_getElem? (i := 1236) (by decide +kernel), List.mem_of_getElem? (i := 1237) (by decide +kernel)⟩
theorem lw_p40 : lw_okq (⟨"DuneRoad$Fleet", "nextBehind", "(I)I"⟩, 5) := ⟨⟨by decide +kernel, by decide +kernel⟩, List.mem_of_getElem? (i := 234) (by decide +kernel), List.mem_of_getElem? (i := 1245) (by decide +kernel), List.mem_of_getElem? (i := 1246) (by decide +kernel)⟩
theorem lw_p41 : lw_okq (⟨"DuneRoad$Crew", "nextDraw", "()J"⟩, 9) := ⟨⟨by decide +kernel, by decide +kernel⟩, List.mem_of_getElem? (i := 372) (by decide +kernel), List.mem_of_getElem? (i := 1277) (by decide +kernel), List.mem_of_getElem? (i := 1278) (by decide +kernel)⟩
theorem lw_p42 : lw_okq (⟨"DuneRoadModel", "put", "(I)V"⟩, 88) := ⟨⟨by decide +kernel, by decide +kernel⟩, List.mem_of_getElem? (i := 1321) (by decide +kernel), List.mem_of_getElem? (i := 1596) (by decide +kernel), List.mem_of_getElem? (i := 1597) (by decide +kernel)⟩
theorem lw_p43 : lw_okq (⟨"DuneRoadModel", "readsAll", "()V"⟩, 88) := ⟨⟨by decide +kernel, by decide +kernel⟩, List.mem_of_getElem? (i := 1321) (by decide +kernel), List.mem_of_getElem? (i := 1608) (by decide +kernel), List.mem_of_getElem? (i := 1609) (by decide +kernel)⟩
theorem lw_p44 : lw_okq (⟨"DuneRoadModel", "starts", "()V"⟩, 88) := ⟨⟨by decide +kernel, by decide +kernel⟩, List.mem_of_getElem? (i := 1321) (by decide +kernel), List.mem_of_getElem? (i := 1612) (by decide +kernel), List.mem_of_getElem? (i := 1613) (by decide +kernel)⟩
theorem lw_p45 : lw_okq (⟨"DuneRoadModel", "seaClause", "(I)V"⟩, 88) := ⟨⟨by decide +kernel, by decide +kernel⟩, List.mem_of_getElem? (i := 1321) (by decide +kernel), List.mem_of_getElem? (i := 1616) (by decide +kernel), List.mem_of_getElem? (i := 1617) (by decide +kernel)⟩
theorem lw_p46 : lw_okq (⟨"DuneRoadModel", "blanks", "()V"⟩, 88) := ⟨⟨by decide +kernel, by decide +kernel⟩, List.mem_of_getElem? (i := 1321) (by decide +kernel), List.mem_of_getElem? (i := 1620) (by decide +kernel), List.mem_of_getElem? (i := 1621) (by decide +kernel)⟩
theorem lw_p47 : lw_okq (⟨"DuneRoadModel", "sign", "()I"⟩, 88) := ⟨⟨by decide +kernel, by decide +kernel⟩, List.mem_of_getElem? (i := 1321) (by decide +kernel), List.mem_of_getElem? (i := 1624) (by decide +kernel), List.mem_of_getElem? (i := 1625) (by decide +kernel)⟩
def lw_privs_3 : List (MethodName × Nat) := [(⟨"DuneRoad$Pilot", "lookAt", "(I)V"⟩, 10), (⟨"DuneRoad$Pilot", "passMost", "()Z"⟩, 10), (⟨"DuneRoad$Pilot", "canPass", "(II)Z"⟩, 10), (⟨"DuneRoad$Pilot", "passFirst", "()V"⟩, 10), (⟨"DuneRoad$Pilot", "fillDear", "()V"⟩, 10), (⟨"DuneRoad$Pilot", "passDear", "()V"⟩, 10), (⟨"DuneRoad$Pilot", "passWaters", "(II)V"⟩, 10), (⟨"DuneRoad$Fleet", "duesWith", "(II)I"⟩, 5), (⟨"DuneRoad$Fleet", "nextBehind", "(I)I"⟩, 5), (⟨"DuneRoad$Crew", "nextDraw", "()J"⟩, 9), (⟨"DuneRoadModel", "put", "(I)V"⟩, 88), (⟨"DuneRoadModel", "readsAll", "()V"⟩, 88), (⟨"DuneRoadModel", "starts", "()V"⟩, 88), (⟨"DuneRoadModel", "seaClause", "(I)V"⟩, 88), (⟨"DuneRoadModel", "blanks", "()V"⟩, 88), (⟨"DuneRoadModel", "sign", "()I"⟩, 88)]
theorem lw_r3 : ∀ q ∈ lw_privs_3, lw_okq q := List.forall_mem_cons.mpr ⟨lw_p32, List.forall_mem_cons.mpr ⟨lw_p33, List.forall_mem_cons.mpr ⟨lw_p34, List.forall_mem_cons.mpr ⟨lw_p35, List.forall_mem_cons.mpr ⟨lw_p36, List.forall_mem_cons.mpr ⟨lw_p37, List.forall_mem_cons.mpr ⟨lw_p38, List.forall_mem_cons.mpr ⟨lw_p39, List.forall_mem_cons.mpr ⟨lw_p40, List.forall_mem_cons.mpr ⟨lw_p41, List.forall_mem_cons.mpr ⟨lw_p42, List.forall_mem_cons.mpr ⟨lw_p43, List.forall_mem_cons.mpr ⟨lw_p44, List.forall_mem_cons.mpr ⟨lw_p45, List.forall_mem_cons.mpr ⟨lw_p46, List.forall_mem_cons.mpr ⟨lw_p47, fun _ h => absurd h List.not_mem_nil⟩⟩⟩⟩⟩⟩⟩⟩⟩⟩⟩⟩⟩⟩⟩⟩
theorem lw_p48 : lw_okq (⟨"DuneRoadModel", "stood", "(Ljava/lang/String;)Z"⟩, 88) := ⟨⟨by decide +kernel, by decide +kernel⟩, List.mem_of_getElem? (i := 1321) (by decide +kernel), List.mem_of_getElem? (i := 1638) (by decide +kernel), List.mem_of_getElem? (i := 1639) (by decide +kernel)⟩
theorem lw_p49 : lw_okq (⟨"DuneRoadModel", "fails", "(II)V"⟩, 88) := ⟨⟨by decide +kernel, by decide +kernel⟩, List.mem_of_getElem? (i := 1321) (by decide +kernel), List.mem_of_getElem? (i := 1651) (by decide +kernel), List.mem_of_getElem? (i := 1652) (by decide +kernel)⟩
theorem lw_p50 : lw_okq (⟨"DuneRoadModel", "isFull", "(II)Z"⟩, 88) := ⟨⟨by decide +kernel, by decide +kernel⟩, List.mem_of_getElem? (i := 1321) (by decide +kernel), List.mem_of_getElem? (i := 1655) (by decide +kernel), List.mem_of_getElem? (i := 1656) (by decide +kernel)⟩
theorem lw_p51 : lw_okq (⟨"DuneRoadModel", "seaPart", "(I)V"⟩, 88) := ⟨⟨by decide +kernel, by decide +kernel⟩, List.mem_of_getElem? (i := 1321) (by decide +kernel), List.mem_of_getElem? (i := 1659) (by decide +kernel), List.mem_of_getElem? (i := 1660) (by decide +kernel)⟩
theorem lw_p52 : lw_okq (⟨"DuneRoadModel", "amount", "(II)I"⟩, 88) := ⟨⟨by decide +kernel, by decide +kernel⟩, List.mem_of_getElem? (i := 1321) (by decide +kernel), List.mem_of_getElem? (i := 1663) (by decide +kernel), List.mem_of_getElem? (i := 1664) (by decide +kernel)⟩
theorem lw_p53 : lw_okq (⟨"DuneRoadModel", "digits", "(I)I"⟩, 88) := ⟨⟨by decide +kernel, by decide +kernel⟩, List.mem_of_getElem? (i := 1321) (by decide +kernel), List.mem_of_getElem? (i := 1668) (by decide +kernel), List.mem_of_getElem? (i := 1669) (by decide +kernel)⟩
theorem lw_p54 : lw_okq (⟨"DuneRoadModel", "isDigit", "()Z"⟩, 88) := ⟨⟨by decide +kernel, by decide +kernel⟩, List.mem_of_getElem? (i := 1321) (by decide +kernel), List.mem_of_getElem? (i := 1672) (by decide +kernel), List.mem_of_getElem? (i := 1673) (by decide +kernel)⟩
theorem lw_p55 : lw_okq (⟨"DuneRoadModel", "readsTrain", "()V"⟩, 88) := ⟨⟨by decide +kernel, by decide +kernel⟩, List.mem_of_getElem? (i := 1321) (by decide +kernel), List.mem_of_getElem? (i := 1681) (by decide +kernel), List.mem_of_getElem? (i := 1682) (by decide +kernel)⟩
theorem lw_p56 : lw_okq (⟨"DuneRoadModel", "cellRead", "()I"⟩, 88) := ⟨⟨by decide +kernel, by decide +kernel⟩, List.mem_of_getElem? (i := 1321) (by decide +kernel), List.mem_of_getElem? (i := 1687) (by decide +kernel), List.mem_of_getElem? (i := 1688) (by decide +kernel)⟩
theorem lw_p57 : lw_okq (⟨"DuneRoadModel", "goesOn", "()Z"⟩, 88) := ⟨⟨by decide +kernel, by decide +kernel⟩, List.mem_of_getElem? (i := 1321) (by decide +kernel), List.mem_of_getElem? (i := 1691) (by decide +kernel), List.mem_of_getElem? (i := 1692) (by decide +kernel)⟩
theorem lw_p58 : lw_okq (⟨"DuneRoadModel", "ruleClause", "(I)V"⟩, 88) := ⟨⟨by decide +kernel, by decide +kernel⟩, List.mem_of_getElem? (i := 1321) (by decide +kernel), List.mem_of_getElem? (i := 1702) (by decide +kernel), List.mem_of_getElem? (i := 1703) (by decide +kernel)⟩
theorem lw_p59 : lw_okq (⟨"DuneRoadModel", "sum", "()V"⟩, 88) := ⟨⟨by decide +kernel, by decide +kernel⟩, List.mem_of_getElem? (i := 1321) (by decide +kernel), List.mem_of_getElem? (i := 1708) (by decide +kernel), List.mem_of_getElem? (i := 1709) (by decide +kernel)⟩
theorem lw_p60 : lw_okq (⟨"DuneRoadModel", "term", "()V"⟩, 88) := ⟨⟨by decide +kernel, by decide +kernel⟩, List.mem_of_getElem? (i := 1321) (by decide +kernel), List.mem_of_getElem? (i := 1712) (by decide +kernel), List.mem_of_getElem? (i := 1713) (by decide +kernel)⟩
theorem lw_p61 : lw_okq (⟨"DuneRoadModel", "value", "()V"⟩, 88) := ⟨⟨by decide +kernel, by decide +kernel⟩, List.mem_of_getElem? (i := 1321) (by decide +kernel), List.mem_of_getElem? (i := 1716) (by decide +kernel), List.mem_of_getElem? (i := 1717) (by decide +kernel)⟩
theorem lw_p62 : lw_okq (⟨"DuneRoadModel", "isCounted", "(I)V"⟩, 88) := ⟨⟨by decide +kernel, by decide +kernel⟩, List.mem_of_getElem? (i := 1321) (by decide +kernel), List.mem_of_getElem? (i := 1720) (by decide +kernel), List.mem_of_getElem? (i := 1721) (by decide +kernel)⟩
theorem lw_p63 : lw_okq (⟨"DuneRoadModel", "entry", "(II)V"⟩, 88) := ⟨⟨by decide +kernel, by decide +kernel⟩, List.mem_of_getElem? (i := 1321) (by decide +kernel), List.mem_of_getElem? (i := 1724) (by decide +kernel), List.mem_of_getElem? (i := 1725) (by decide +kernel)⟩
def lw_privs_4 : List (MethodName × Nat) := [(⟨"DuneRoadModel", "stood", "(Ljava/lang/String;)Z"⟩, 88), (⟨"DuneRoadModel", "fails", "(II)V"⟩, 88), (⟨"DuneRoadModel", "isFull", "(II)Z"⟩, 88), (⟨"DuneRoadModel", "seaPart", "(I)V"⟩, 88), (⟨"DuneRoadModel", "amount", "(II)I"⟩, 88), (⟨"DuneRoadModel", "digits", "(I)I"⟩, 88), (⟨"DuneRoadModel", "isDigit", "()Z"⟩, 88), (⟨"DuneRoadModel", "readsTrain", "()V"⟩, 88), (⟨"DuneRoadModel", "cellRead", "()I"⟩, 88), (⟨"DuneRoadModel", "goesOn", "()Z"⟩, 88), (⟨"DuneRoadModel", "ruleClause", "(I)V"⟩, 88), (⟨"DuneRoadModel", "sum", "()V"⟩, 88), (⟨"DuneRoadModel", "term", "()V"⟩, 88), (⟨"DuneRoadModel", "value", "()V"⟩, 88), (⟨"DuneRoadModel", "isCounted", "(I)V"⟩, 88), (⟨"DuneRoadModel", "entry", "(II)V"⟩, 88)]
theorem lw_r4 : ∀ q ∈ lw_privs_4, lw_okq q := List.forall_mem_cons.mpr ⟨lw_p48, List.forall_mem_cons.mpr ⟨lw_p49, List.forall_mem_cons.mpr ⟨lw_p50, List.forall_mem_cons.mpr ⟨lw_p51, List.forall_mem_cons.mpr ⟨lw_p52, List.forall_mem_cons.mpr ⟨lw_p53, List.forall_mem_cons.mpr ⟨lw_p54, List.forall_mem_cons.mpr ⟨lw_p55, List.forall_mem_cons.mpr ⟨lw_p56, List.forall_mem_cons.mpr ⟨lw_p57, List.forall_mem_cons.mpr ⟨lw_p58, List.forall_mem_cons.mpr ⟨lw_p59, List.forall_mem_cons.mpr ⟨lw_p60, List.forall_mem_cons.mpr ⟨lw_p61, List.forall_mem_cons.mpr ⟨lw_p62, List.forall_mem_cons.mpr ⟨lw_p63, fun _ h => absurd h List.not_mem_nil⟩⟩⟩⟩⟩⟩⟩⟩⟩⟩⟩⟩⟩⟩⟩⟩
theorem lw_p64 : lw_okq (⟨"DuneRoadModel", "takes", "(Ljava/lang/String;)Z"⟩, 88) := ⟨⟨by decide +kernel, by decide +kernel⟩, List.mem_of_getElem? (i := 1321) (by decide +kernel), List.mem_of_getElem? (i := 1741) (by decide +kernel), List.mem_of_getElem? (i := 1742) (by decide +kernel)⟩
theorem lw_p65 : lw_okq (⟨"DuneRoadModel", "test", "()V"⟩, 88) := ⟨⟨by decide +kernel, by decide +kernel⟩, List.mem_of_getElem? (i := 1321) (by decide +kernel), List.mem_of_getElem? (i := 1745) (by decide +kernel), List.mem_of_getElem? (i := 1746) (by decide +kernel)⟩
theorem lw_p66 : lw_okq (⟨"DuneRoadModel", "fact", "()Z"⟩, 88) := ⟨⟨by decide +kernel, by decide +kernel⟩, List.mem_of_getElem? (i := 1321) (by decide +kernel), List.mem_of_getElem? (i := 1749) (by decide +kernel), List.mem_of_getElem? (i := 1750) (by decide +kernel)⟩
theorem lw_p67 : lw_okq (⟨"DuneRoadModel", "opens", "(I)V"⟩, 88) := ⟨⟨by decide +kernel, by decide +kernel⟩, List.mem_of_getElem? (i := 1321) (by decide +kernel), List.mem_of_getElem? (i := 1754) (by decide +kernel), List.mem_of_getElem? (i := 1755) (by decide +kernel)⟩
theorem lw_p68 : lw_okq (⟨"DuneRoadModel", "compared", "()V"⟩, 88) := ⟨⟨by decide +kernel, by decide +kernel⟩, List.mem_of_getElem? (i := 1321) (by decide +kernel), List.mem_of_getElem? (i := 1758) (by decide +kernel), List.mem_of_getElem? (i := 1759) (by decide +kernel)⟩
theorem lw_p69 : lw_okq (⟨"DuneRoadModel", "answers", "(I)V"⟩, 88) := ⟨⟨by decide +kernel, by decide +kernel⟩, List.mem_of_getElem? (i := 1321) (by decide +kernel), List.mem_of_getElem? (i := 1762) (by decide +kernel), List.mem_of_getElem? (i := 1763) (by decide +kernel)⟩
theorem lw_p70 : lw_okq (⟨"DuneRoadModel", "top", "()I"⟩, 88) := ⟨⟨by decide +kernel, by decide +kernel⟩, List.mem_of_getElem? (i := 1321) (by decide +kernel), List.mem_of_getElem? (i := 1766) (by decide +kernel), List.mem_of_getElem? (i := 1767) (by decide +kernel)⟩
theorem lw_p71 : lw_okq (⟨"DuneRoadModel", "isCell", "(I)Z"⟩, 88) := ⟨⟨by decide +kernel, by decide +kernel⟩, List.mem_of_getElem? (i := 1321) (by decide +kernel), List.mem_of_getElem? (i := 1776) (by decide +kernel), List.mem_of_getElem? (i := 1777) (by decide +kernel)⟩
theorem lw_p72 : lw_okq (⟨"DuneRoadModel", "heightNow", "(II)I"⟩, 88) := ⟨⟨by decide +kernel, by decide +kernel⟩, List.mem_of_getElem? (i := 1321) (by decide +kernel), List.mem_of_getElem? (i := 1781) (by decide +kernel), List.mem_of_getElem? (i := 1782) (by decide +kernel)⟩
theorem lw_p73 : lw_okq (⟨"DuneRoadModel", "heightOf", "(IIIZ)I"⟩, 88) := ⟨⟨by decide +kernel, by decide +kernel⟩, List.mem_of_getElem? (i := 1321) (by decide +kernel), List.mem_of_getElem? (i := 1785) (by decide +kernel), List.mem_of_getElem? (i := 1786) (by decide +kernel)⟩
theorem lw_p74 : lw_okq (⟨"DuneRoadModel", "restOf", "(IIIZ)I"⟩, 88) := ⟨⟨by decide +kernel, by decide +kernel⟩, List.mem_of_getElem? (i := 1321) (by decide +kernel), List.mem_of_getElem? (i := 1789) (by decide +kernel), List.mem_of_getElem? (i := 1790) (by decide +kernel)⟩
theorem lw_p75 : lw_okq (⟨"DuneRoadModel", "isFenced", "(II)Z"⟩, 88) := ⟨⟨by decide +kernel, by decide +kernel⟩, List.mem_of_getElem? (i := 1321) (by decide +kernel), List.mem_of_getElem? (i := 1793) (by decide +kernel), List.mem_of_getElem? (i := 1794) (by decide +kernel)⟩
theorem lw_p76 : lw_okq (⟨"DuneRoadModel", "trainAt", "(IIIII)I"⟩, 88) := ⟨⟨by decide +kernel, by decide +kernel⟩, List.mem_of_getElem? (i := 1321) (by decide +kernel), List.mem_of_getElem? (i := 1797) (by decide +kernel), List.mem_of_getElem? (i := 1798) (by decide +kernel)⟩
theorem lw_p77 : lw_okq (⟨"DuneRoadModel", "isTrain", "(I)Z"⟩, 88) := ⟨⟨by decide +kernel, by decide +kernel⟩, List.mem_of_getElem? (i := 1321) (by decide +kernel), List.mem_of_getElem? (i := 1808) (by decide +kernel), List.mem_of_getElem? (i := 1809) (by decide +kernel)⟩
theorem lw_p78 : lw_okq (⟨"DuneRoadModel", "greatestOf", "(I)I"⟩, 88) := ⟨⟨by decide +kernel, by decide +kernel⟩, List.mem_of_getElem? (i := 1321) (by decide +kernel), List.mem_of_getElem? (i := 1812) (by decide +kernel), List.mem_of_getElem? (i := 1813) (by decide +kernel)⟩
theorem lw_p79 : lw_okq (⟨"DuneRoadModel", "isPlace", "(I)Z"⟩, 88) := ⟨⟨by decide +kernel, by decide +kernel⟩, List.mem_of_getElem? (i := 1321) (by decide +kernel), List.mem_of_getElem? (i := 1821) (by decide +kernel), List.mem_of_getElem? (i := 1822) (by decide +kernel)⟩
def lw_privs_5 : List (MethodName × Nat) := [(⟨"DuneRoadModel", "takes", "(Ljava/lang/String;)Z"⟩, 88), (⟨"DuneRoadModel", "test", "()V"⟩, 88), (⟨"DuneRoadModel", "fact", "()Z"⟩, 88), (⟨"DuneRoadModel", "opens", "(I)V"⟩, 88), (⟨"DuneRoadModel", "compared", "()V"⟩, 88), (⟨"DuneRoadModel", "answers", "(I)V"⟩, 88), (⟨"DuneRoadModel", "top", "()I"⟩, 88), (⟨"DuneRoadModel", "isCell", "(I)Z"⟩, 88), (⟨"DuneRoadModel", "heightNow", "(II)I"⟩, 88), (⟨"DuneRoadModel", "heightOf", "(IIIZ)I"⟩, 88), (⟨"DuneRoadModel", "restOf", "(IIIZ)I"⟩, 88), (⟨"DuneRoadModel", "isFenced", "(II)Z"⟩, 88), (⟨"DuneRoadModel", "trainAt", "(IIIII)I"⟩, 88), (⟨"DuneRoadModel", "isTrain", "(I)Z"⟩, 88), (⟨"DuneRoadModel", "greatestOf", "(I)I"⟩, 88), (⟨"DuneRoadModel", "isPlace", "(I)Z"⟩, 88)]
theorem lw_r5 : ∀ q ∈ lw_privs_5, lw_okq q := List.forall_mem_cons.mpr ⟨lw_p64, List.forall_mem_cons.mpr ⟨lw_p65, List.forall_mem_cons.mpr ⟨lw_p66, List.forall_mem_cons.mpr ⟨lw_p67, List.forall_mem_cons.mpr ⟨lw_p68, List.forall_mem_cons.mpr ⟨lw_p69, List.forall_mem_cons.mpr ⟨lw_p70, List.forall_mem_cons.mpr ⟨lw_p71, List.forall_mem_cons.mpr ⟨lw_p72, List.forall_mem_cons.mpr ⟨lw_p73, List.forall_mem_cons.mpr ⟨lw_p74, List.forall_mem_cons.mpr ⟨lw_p75, List.forall_mem_cons.mpr ⟨lw_p76, List.forall_mem_cons.mpr ⟨lw_p77, List.forall_mem_cons.mpr ⟨lw_p78, List.forall_mem_cons.mpr ⟨lw_p79, fun _ h => absurd h List.not_mem_nil⟩⟩⟩⟩⟩⟩⟩⟩⟩⟩⟩⟩⟩⟩⟩⟩
theorem lw_p80 : lw_okq (⟨"DuneRoadModel", "cellOf", "(I)I"⟩, 88) := ⟨⟨by decide +kernel, by decide +kernel⟩, List.mem_of_getElem? (i := 1321) (by decide +kernel), List.mem_of_getElem? (i := 1826) (by decide +kernel), List.mem_of_getElem? (i := 1827) (by decide +kernel)⟩
theorem lw_p81 : lw_okq (⟨"DuneRoadModel", "doorOf", "(I)I"⟩, 88) := ⟨⟨by decide +kernel, by decide +kernel⟩, List.mem_of_getElem? (i := 1321) (by decide +kernel), List.mem_of_getElem? (i := 1830) (by decide +kernel), List.mem_of_getElem? (i := 1831) (by decide +kernel)⟩
theorem lw_p82 : lw_okq (⟨"DuneRoadModel", "isOpen", "(IIIZ)Z"⟩, 88) := ⟨⟨by decide +kernel, by decide +kernel⟩, List.mem_of_getElem? (i := 1321) (by decide +kernel), List.mem_of_getElem? (i := 1834) (by decide +kernel), List.mem_of_getElem? (i := 1835) (by decide +kernel)⟩
theorem lw_p83 : lw_okq (⟨"DuneRoadModel", "isShip", "(I)Z"⟩, 88) := ⟨⟨by decide +kernel, by decide +kernel⟩, List.mem_of_getElem? (i := 1321) (by decide +kernel), List.mem_of_getElem? (i := 1842) (by decide +kernel), List.mem_of_getElem? (i := 1843) (by decide +kernel)⟩
theorem lw_p84 : lw_okq (⟨"DuneRoadModel", "movesAll", "(IZ)V"⟩, 88) := ⟨⟨by decide +kernel, by decide +kernel⟩, List.mem_of_getElem? (i := 1321) (by decide +kernel), List.mem_of_getElem? (i := 1850) (by decide +kernel), List.mem_of_getElem? (i := 1851) (by decide +kernel)⟩
theorem lw_p85 : lw_okq (⟨"DuneRoadModel", "moves", "(I)I"⟩, 88) := ⟨⟨by decide +kernel, by decide +kernel⟩, List.mem_of_getElem? (i := 1321) (by decide +kernel), List.mem_of_getElem? (i := 1854) (by decide +kernel), List.mem_of_getElem? (i := 1855) (by decide +kernel)⟩
theorem lw_p86 : lw_okq (⟨"DuneRoadModel", "canGo", "(II)Z"⟩, 88) := ⟨⟨by decide +kernel, by decide +kernel⟩, List.mem_of_getElem? (i := 1321) (by decide +kernel), List.mem_of_getElem? (i := 1863) (by decide +kernel), List.mem_of_getElem? (i := 1864) (by decide +kernel)⟩
theorem lw_p87 : lw_okq (⟨"DuneRoadModel", "keepsAct", "()V"⟩, 88) := ⟨⟨by decide +kernel, by decide +kernel⟩, List.mem_of_getElem? (i := 1321) (by decide +kernel), List.mem_of_getElem? (i := 1867) (by decide +kernel), List.mem_of_getElem? (i := 1868) (by decide +kernel)⟩
theorem lw_p88 : lw_okq (⟨"DuneRoadModel", "day", "()V"⟩, 88) := ⟨⟨by decide +kernel, by decide +kernel⟩, List.mem_of_getElem? (i := 1321) (by decide +kernel), List.mem_of_getElem? (i := 1871) (by decide +kernel), List.mem_of_getElem? (i := 1872) (by decide +kernel)⟩
theorem lw_p89 : lw_okq (⟨"DuneRoadModel", "fillCost", "(I)I"⟩, 88) := ⟨⟨by decide +kernel, by decide +kernel⟩, List.mem_of_getElem? (i := 1321) (by decide +kernel), List.mem_of_getElem? (i := 1879) (by decide +kernel), List.mem_of_getElem? (i := 1880) (by decide +kernel)⟩
theorem lw_p90 : lw_okq (⟨"DuneRoadModel", "wellAt", "(II)I"⟩, 88) := ⟨⟨by decide +kernel, by decide +kernel⟩, List.mem_of_getElem? (i := 1321) (by decide +kernel), List.mem_of_getElem? (i := 1883) (by decide +kernel), List.mem_of_getElem? (i := 1884) (by decide +kernel)⟩
theorem lw_p91 : lw_okq (⟨"DuneRoadModel", "fills", "(II)V"⟩, 88) := ⟨⟨by decide +kernel, by decide +kernel⟩, List.mem_of_getElem? (i := 1321) (by decide +kernel), List.mem_of_getElem? (i := 1887) (by decide +kernel), List.mem_of_getElem? (i := 1888) (by decide +kernel)⟩
theorem lw_p92 : lw_okq (⟨"DuneRoadModel", "lasting", "()I"⟩, 88) := ⟨⟨by decide +kernel, by decide +kernel⟩, List.mem_of_getElem? (i := 1321) (by decide +kernel), List.mem_of_getElem? (i := 1900) (by decide +kernel), List.mem_of_getElem? (i := 1901) (by decide +kernel)⟩
theorem lw_p93 : lw_okq (⟨"DuneRoadModel", "dropsOver", "()V"⟩, 88) := ⟨⟨by decide +kernel, by decide +kernel⟩, List.mem_of_getElem? (i := 1321) (by decide +kernel), List.mem_of_getElem? (i := 1904) (by decide +kernel), List.mem_of_getElem? (i := 1905) (by decide +kernel)⟩
theorem lw_p94 : lw_okq (⟨"DuneRoadModel", "isSea", "()Z"⟩, 88) := ⟨⟨by decide +kernel, by decide +kernel⟩, List.mem_of_getElem? (i := 1321) (by decide +kernel), List.mem_of_getElem? (i := 1912) (by decide +kernel), List.mem_of_getElem? (i := 1913) (by decide +kernel)⟩
theorem lw_p95 : lw_okq (⟨"DuneRoadModel", "isRule", "(I)Z"⟩, 88) := ⟨⟨by decide +kernel, by decide +kernel⟩, List.mem_of_getElem? (i := 1321) (by decide +kernel), List.mem_of_getElem? (i := 1916) (by decide +kernel), List.mem_of_getElem? (i := 1917) (by decide +kernel)⟩
def lw_privs_6 : List (MethodName × Nat) := [(⟨"DuneRoadModel", "cellOf", "(I)I"⟩, 88), (⟨"DuneRoadModel", "doorOf", "(I)I"⟩, 88), (⟨"DuneRoadModel", "isOpen", "(IIIZ)Z"⟩, 88), (⟨"DuneRoadModel", "isShip", "(I)Z"⟩, 88), (⟨"DuneRoadModel", "movesAll", "(IZ)V"⟩, 88), (⟨"DuneRoadModel", "moves", "(I)I"⟩, 88), (⟨"DuneRoadModel", "canGo", "(II)Z"⟩, 88), (⟨"DuneRoadModel", "keepsAct", "()V"⟩, 88), (⟨"DuneRoadModel", "day", "()V"⟩, 88), (⟨"DuneRoadModel", "fillCost", "(I)I"⟩, 88), (⟨"DuneRoadModel", "wellAt", "(II)I"⟩, 88), (⟨"DuneRoadModel", "fills", "(II)V"⟩, 88), (⟨"DuneRoadModel", "lasting", "()I"⟩, 88), (⟨"DuneRoadModel", "dropsOver", "()V"⟩, 88), (⟨"DuneRoadModel", "isSea", "()Z"⟩, 88), (⟨"DuneRoadModel", "isRule", "(I)Z"⟩, 88)]
theorem lw_r6 : ∀ q ∈ lw_privs_6, lw_okq q := List.forall_mem_cons.mpr ⟨lw_p80, List.forall_mem_cons.mpr ⟨lw_p81, List.forall_mem_cons.mpr ⟨lw_p82, List.forall_mem_cons.mpr ⟨lw_p83, List.forall_mem_cons.mpr ⟨lw_p84, List.forall_mem_cons.mpr ⟨lw_p85, List.forall_mem_cons.mpr ⟨lw_p86, List.forall_mem_cons.mpr ⟨lw_p87, List.forall_mem_cons.mpr ⟨lw_p88, List.forall_mem_cons.mpr ⟨lw_p89, List.forall_mem_cons.mpr ⟨lw_p90, List.forall_mem_cons.mpr ⟨lw_p91, List.forall_mem_cons.mpr ⟨lw_p92, List.forall_mem_cons.mpr ⟨lw_p93, List.forall_mem_cons.mpr ⟨lw_p94, List.forall_mem_cons.mpr ⟨lw_p95, fun _ h => absurd h List.not_mem_nil⟩⟩⟩⟩⟩⟩⟩⟩⟩⟩⟩⟩⟩⟩⟩⟩
theorem lw_p96 : lw_okq (⟨"DuneRoadModel", "dayBy", "(I)V"⟩, 88) := ⟨⟨by decide +kernel, by decide +kernel⟩, List.mem_of_getElem? (i := 1321) (by decide +kernel), List.mem_of_getElem? (i := 1920) (by decide +kernel), List.mem_of_getElem? (i := 1921) (by decide +kernel)⟩
theorem lw_p97 : lw_okq (⟨"DuneRoadModel", "asks", "(I)V"⟩, 88) := ⟨⟨by decide +kernel, by decide +kernel⟩, List.mem_of_getElem? (i := 1321) (by decide +kernel), List.mem_of_getElem? (i := 1924) (by decide +kernel), List.mem_of_getElem? (i := 1925) (by decide +kernel)⟩
theorem lw_p98 : lw_okq (⟨"DuneRoadModel", "fillsBy", "(I)Z"⟩, 88) := ⟨⟨by decide +kernel, by decide +kernel⟩, List.mem_of_getElem? (i := 1321) (by decide +kernel), List.mem_of_getElem? (i := 1929) (by decide +kernel), List.mem_of_getElem? (i := 1930) (by decide +kernel)⟩
theorem lw_p99 : lw_okq (⟨"DuneRoadModel", "holds", "(II)Z"⟩, 88) := ⟨⟨by decide +kernel, by decide +kernel⟩, List.mem_of_getElem? (i := 1321) (by decide +kernel), List.mem_of_getElem? (i := 1933) (by decide +kernel), List.mem_of_getElem? (i := 1934) (by decide +kernel)⟩
theorem lw_p100 : lw_okq (⟨"DuneRoadModel", "answer", "(III)J"⟩, 88) := ⟨⟨by decide +kernel, by decide +kernel⟩, List.mem_of_getElem? (i := 1321) (by decide +kernel), List.mem_of_getElem? (i := 1937) (by decide +kernel), List.mem_of_getElem? (i := 1938) (by decide +kernel)⟩
theorem lw_p101 : lw_okq (⟨"DuneRoadModel", "goBy", "(I)J"⟩, 88) := ⟨⟨by decide +kernel, by decide +kernel⟩, List.mem_of_getElem? (i := 1321) (by decide +kernel), List.mem_of_getElem? (i := 1947) (by decide +kernel), List.mem_of_getElem? (i := 1948) (by decide +kernel)⟩
theorem lw_p102 : lw_okq (⟨"DuneRoadModel", "roundOf", "()I"⟩, 88) := ⟨⟨by decide +kernel, by decide +kernel⟩, List.mem_of_getElem? (i := 1321) (by decide +kernel), List.mem_of_getElem? (i := 1955) (by decide +kernel), List.mem_of_getElem? (i := 1956) (by decide +kernel)⟩
theorem lw_p103 : lw_okq (⟨"DuneRoadModel", "isCrest", "(II)Z"⟩, 88) := ⟨⟨by decide +kernel, by decide +kernel⟩, List.mem_of_getElem? (i := 1321) (by decide +kernel), List.mem_of_getElem? (i := 1978) (by decide +kernel), List.mem_of_getElem? (i := 1979) (by decide +kernel)⟩
theorem lw_p104 : lw_okq (⟨"DuneRoadModel", "findsVoyage", "(II)V"⟩, 88) := ⟨⟨by decide +kernel, by decide +kernel⟩, List.mem_of_getElem? (i := 1321) (by decide +kernel), List.mem_of_getElem? (i := 1987) (by decide +kernel), List.mem_of_getElem? (i := 1988) (by decide +kernel)⟩
theorem lw_p105 : lw_okq (⟨"DuneRoadModel", "sails", "(IIIZ)V"⟩, 88) := ⟨⟨by decide +kernel, by decide +kernel⟩, List.mem_of_getElem? (i := 1321) (by decide +kernel), List.mem_of_getElem? (i := 1991) (by decide +kernel), List.mem_of_getElem? (i := 1992) (by decide +kernel)⟩
theorem lw_p106 : lw_okq (⟨"DuneRoadModel", "laysHeights", "(I)V"⟩, 88) := ⟨⟨by decide +kernel, by decide +kernel⟩, List.mem_of_getElem? (i := 1321) (by decide +kernel), List.mem_of_getElem? (i := 1996) (by decide +kernel), List.mem_of_getElem? (i := 1997) (by decide +kernel)⟩
theorem lw_p107 : lw_okq (⟨"DuneRoadModel", "spreads", "(IZZII)V"⟩, 88) := ⟨⟨by decide +kernel, by decide +kernel⟩, List.mem_of_getElem? (i := 1321) (by decide +kernel), List.mem_of_getElem? (i := 2000) (by decide +kernel), List.mem_of_getElem? (i := 2001) (by decide +kernel)⟩
theorem lw_p108 : lw_okq (⟨"DuneRoadModel", "leaves", "(IIIIII)V"⟩, 88) := ⟨⟨by decide +kernel, by decide +kernel⟩, List.mem_of_getElem? (i := 1321) (by decide +kernel), List.mem_of_getElem? (i := 2004) (by decide +kernel), List.mem_of_getElem? (i := 2005) (by decide +kernel)⟩
theorem lw_p109 : lw_okq (⟨"DuneRoadModel", "comes", "(III)V"⟩, 88) := ⟨⟨by decide +kernel, by decide +kernel⟩, List.mem_of_getElem? (i := 1321) (by decide +kernel), List.mem_of_getElem? (i := 2008) (by decide +kernel), List.mem_of_getElem? (i := 2009) (by decide +kernel)⟩
theorem lw_p110 : lw_okq (⟨"DuneRoadModel", "leastAt", "(I)I"⟩, 88) := ⟨⟨by decide +kernel, by decide +kernel⟩, List.mem_of_getElem? (i := 1321) (by decide +kernel), List.mem_of_getElem? (i := 2012) (by decide +kernel), List.mem_of_getElem? (i := 2013) (by decide +kernel)⟩
theorem lw_p111 : lw_okq (⟨"DuneRoadModel", "placesAll", "()I"⟩, 88) := ⟨⟨by decide +kernel, by decide +kernel⟩, List.mem_of_getElem? (i := 1321) (by decide +kernel), List.mem_of_getElem? (i := 2020) (by decide +kernel), List.mem_of_getElem? (i := 2021) (by decide +kernel)⟩
def lw_privs_7 : List (MethodName × Nat) := [(⟨"DuneRoadModel", "dayBy", "(I)V"⟩, 88), (⟨"DuneRoadModel", "asks", "(I)V"⟩, 88), (⟨"DuneRoadModel", "fillsBy", "(I)Z"⟩, 88), (⟨"DuneRoadModel", "holds", "(II)Z"⟩, 88), (⟨"DuneRoadModel", "answer", "(III)J"⟩, 88), (⟨"DuneRoadModel", "goBy", "(I)J"⟩, 88), (⟨"DuneRoadModel", "roundOf", "()I"⟩, 88), (⟨"DuneRoadModel", "isCrest", "(II)Z"⟩, 88), (⟨"DuneRoadModel", "findsVoyage", "(II)V"⟩, 88), (⟨"DuneRoadModel", "sails", "(IIIZ)V"⟩, 88), (⟨"DuneRoadModel", "laysHeights", "(I)V"⟩, 88), (⟨"DuneRoadModel", "spreads", "(IZZII)V"⟩, 88), (⟨"DuneRoadModel", "leaves", "(IIIIII)V"⟩, 88), (⟨"DuneRoadModel", "comes", "(III)V"⟩, 88), (⟨"DuneRoadModel", "leastAt", "(I)I"⟩, 88), (⟨"DuneRoadModel", "placesAll", "()I"⟩, 88)]
theorem lw_r7 : ∀ q ∈ lw_privs_7, lw_okq q := List.forall_mem_cons.mpr ⟨lw_p96, List.forall_mem_cons.mpr ⟨lw_p97, List.forall_mem_cons.mpr ⟨lw_p98, List.forall_mem_cons.mpr ⟨lw_p99, List.forall_mem_cons.mpr ⟨lw_p100, List.forall_mem_cons.mpr ⟨lw_p101, List.forall_mem_cons.mpr ⟨lw_p102, List.forall_mem_cons.mpr ⟨lw_p103, List.forall_mem_cons.mpr ⟨lw_p104, List.forall_mem_cons.mpr ⟨lw_p105, List.forall_mem_cons.mpr ⟨lw_p106, List.forall_mem_cons.mpr ⟨lw_p107, List.forall_mem_cons.mpr ⟨lw_p108, List.forall_mem_cons.mpr ⟨lw_p109, List.forall_mem_cons.mpr ⟨lw_p110, List.forall_mem_cons.mpr ⟨lw_p111, fun _ h => absurd h List.not_mem_nil⟩⟩⟩⟩⟩⟩⟩⟩⟩⟩⟩⟩⟩⟩⟩⟩
theorem lw_p112 : lw_okq (⟨"DuneRoadModel", "areOpen", "(IIII)Z"⟩, 88) := ⟨⟨by decide +kernel, by decide +kernel⟩, List.mem_of_getElem? (i := 1321) (by decide +kernel), List.mem_of_getElem? (i := 2027) (by decide +kernel), List.mem_of_getElem? (i := 2028) (by decide +kernel)⟩
theorem lw_p113 : lw_okq (⟨"DuneRoadModel", "whose", "(III)I"⟩, 88) := ⟨⟨by decide +kernel, by decide +kernel⟩, List.mem_of_getElem? (i := 1321) (by decide +kernel), List.mem_of_getElem? (i := 2031) (by decide +kernel), List.mem_of_getElem? (i := 2032) (by decide +kernel)⟩
theorem lw_p114 : lw_okq (⟨"DuneRoadModel", "openDays", "(IIII)I"⟩, 88) := ⟨⟨by decide +kernel, by decide +kernel⟩, List.mem_of_getElem? (i := 1321) (by decide +kernel), List.mem_of_getElem? (i := 2035) (by decide +kernel), List.mem_of_getElem? (i := 2036) (by decide +kernel)⟩
theorem lw_p115 : lw_okq (⟨"DuneRoadModel", "wreckCells", "(I)I"⟩, 88) := ⟨⟨by decide +kernel, by decide +kernel⟩, List.mem_of_getElem? (i := 1321) (by decide +kernel), List.mem_of_getElem? (i := 2048) (by decide +kernel), List.mem_of_getElem? (i := 2049) (by decide +kernel)⟩
theorem lw_p116 : lw_okq (⟨"DuneRoadModel", "areSightsSo", "(II)Z"⟩, 88) := ⟨⟨by decide +kernel, by decide +kernel⟩, List.mem_of_getElem? (i := 1321) (by decide +kernel), List.mem_of_getElem? (i := 2052) (by decide +kernel), List.mem_of_getElem? (i := 2053) (by decide +kernel)⟩
theorem lw_p117 : lw_okq (⟨"DuneRoadModel", "showsIn", "(III)Z"⟩, 88) := ⟨⟨by decide +kernel, by decide +kernel⟩, List.mem_of_getElem? (i := 1321) (by decide +kernel), List.mem_of_getElem? (i := 2064) (by decide +kernel), List.mem_of_getElem? (i := 2065) (by decide +kernel)⟩
theorem lw_p118 : lw_okq (⟨"DuneRoadModel", "isWind", "(III)Z"⟩, 88) := ⟨⟨by decide +kernel, by decide +kernel⟩, List.mem_of_getElem? (i := 1321) (by decide +kernel), List.mem_of_getElem? (i := 2076) (by decide +kernel), List.mem_of_getElem? (i := 2077) (by decide +kernel)⟩
theorem lw_p119 : lw_okq (⟨"DuneRoadModel", "duesOf", "(I)I"⟩, 88) := ⟨⟨by decide +kernel, by decide +kernel⟩, List.mem_of_getElem? (i := 1321) (by decide +kernel), List.mem_of_getElem? (i := 2094) (by decide +kernel), List.mem_of_getElem? (i := 2095) (by decide +kernel)⟩
theorem lw_p120 : lw_okq (⟨"DuneRoadModel", "paidAll", "()I"⟩, 88) := ⟨⟨by decide +kernel, by decide +kernel⟩, List.mem_of_getElem? (i := 1321) (by decide +kernel), List.mem_of_getElem? (i := 2116) (by decide +kernel), List.mem_of_getElem? (i := 2117) (by decide +kernel)⟩
theorem lw_p121 : lw_okq (⟨"DuneRoadModel", "carriesAll", "(IZ)V"⟩, 88) := ⟨⟨by decide +kernel, by decide +kernel⟩, List.mem_of_getElem? (i := 1321) (by decide +kernel), List.mem_of_getElem? (i := 2120) (by decide +kernel), List.mem_of_getElem? (i := 2121) (by decide +kernel)⟩
theorem lw_p122 : lw_okq (⟨"DuneRoadModel", "carry", "([I)V"⟩, 88) := ⟨⟨by decide +kernel, by decide +kernel⟩, List.mem_of_getElem? (i := 1321) (by decide +kernel), List.mem_of_getElem? (i := 2124) (by decide +kernel), List.mem_of_getElem? (i := 2125) (by decide +kernel)⟩
theorem lw_p123 : lw_okq (⟨"DuneRoadModel", "drawnDays", "(II)I"⟩, 88) := ⟨⟨by decide +kernel, by decide +kernel⟩, List.mem_of_getElem? (i := 1321) (by decide +kernel), List.mem_of_getElem? (i := 2128) (by decide +kernel), List.mem_of_getElem? (i := 2129) (by decide +kernel)⟩
theorem lw_p124 : lw_okq (⟨"DuneRoadModel", "draws", "(I)I"⟩, 88) := ⟨⟨by decide +kernel, by decide +kernel⟩, List.mem_of_getElem? (i := 1321) (by decide +kernel), List.mem_of_getElem? (i := 2132) (by decide +kernel), List.mem_of_getElem? (i := 2133) (by decide +kernel)⟩
theorem lw_p125 : lw_okq (⟨"DuneRoadModel", "dryAll", "()I"⟩, 88) := ⟨⟨by decide +kernel, by decide +kernel⟩, List.mem_of_getElem? (i := 1321) (by decide +kernel), List.mem_of_getElem? (i := 2140) (by decide +kernel), List.mem_of_getElem? (i := 2141) (by decide +kernel)⟩
def lw_privs_8 : List (MethodName × Nat) := [(⟨"DuneRoadModel", "areOpen", "(IIII)Z"⟩, 88), (⟨"DuneRoadModel", "whose", "(III)I"⟩, 88), (⟨"DuneRoadModel", "openDays", "(IIII)I"⟩, 88), (⟨"DuneRoadModel", "wreckCells", "(I)I"⟩, 88), (⟨"DuneRoadModel", "areSightsSo", "(II)Z"⟩, 88), (⟨"DuneRoadModel", "showsIn", "(III)Z"⟩, 88), (⟨"DuneRoadModel", "isWind", "(III)Z"⟩, 88), (⟨"DuneRoadModel", "duesOf", "(I)I"⟩, 88), (⟨"DuneRoadModel", "paidAll", "()I"⟩, 88), (⟨"DuneRoadModel", "carriesAll", "(IZ)V"⟩, 88), (⟨"DuneRoadModel", "carry", "([I)V"⟩, 88), (⟨"DuneRoadModel", "drawnDays", "(II)I"⟩, 88), (⟨"DuneRoadModel", "draws", "(I)I"⟩, 88), (⟨"DuneRoadModel", "dryAll", "()I"⟩, 88)]
theorem lw_r8 : ∀ q ∈ lw_privs_8, lw_okq q := List.forall_mem_cons.mpr ⟨lw_p112, List.forall_mem_cons.mpr ⟨lw_p113, List.forall_mem_cons.mpr ⟨lw_p114, List.forall_mem_cons.mpr ⟨lw_p115, List.forall_mem_cons.mpr ⟨lw_p116, List.forall_mem_cons.mpr ⟨lw_p117, List.forall_mem_cons.mpr ⟨lw_p118, List.forall_mem_cons.mpr ⟨lw_p119, List.forall_mem_cons.mpr ⟨lw_p120, List.forall_mem_cons.mpr ⟨lw_p121, List.forall_mem_cons.mpr ⟨lw_p122, List.forall_mem_cons.mpr ⟨lw_p123, List.forall_mem_cons.mpr ⟨lw_p124, List.forall_mem_cons.mpr ⟨lw_p125, fun _ h => absurd h List.not_mem_nil⟩⟩⟩⟩⟩⟩⟩⟩⟩⟩⟩⟩⟩⟩
def lw_privs : List (MethodName × Nat) := lw_privs_1 ++ (lw_privs_2 ++ (lw_privs_3 ++ (lw_privs_4 ++ (lw_privs_5 ++ (lw_privs_6 ++ (lw_privs_7 ++ (lw_privs_8)))))))
def lw_tbl : List Cond := k2_sels lw_privs ++ tables_1
theorem lw_privs_ok : ∀ q ∈ lw_privs, lw_okq q := by
  show ∀ q ∈ lw_privs_1 ++ (lw_privs_2 ++ (lw_privs_3 ++ (lw_privs_4 ++ (lw_privs_5 ++ (lw_privs_6 ++ (lw_privs_7 ++ (lw_privs_8))))))), lw_okq q
  exact List.forall_mem_append.mpr ⟨lw_r1, List.forall_mem_append.mpr ⟨lw_r2, List.forall_mem_append.mpr ⟨lw_r3, List.forall_mem_append.mpr ⟨lw_r4, List.forall_mem_append.mpr ⟨lw_r5, List.forall_mem_append.mpr ⟨lw_r6, List.forall_mem_append.mpr ⟨lw_r7, lw_r8⟩⟩⟩⟩⟩⟩⟩

/-! ===== printed names and field tables ===== -/
def RX0 : String := "DuneRoad$Crew"
def TX0 : u_T := fun k => match k with
  | 0 => ("DuneRoad$Crew", "stack", "[J", true)
  | 1 => ("DuneRoad$Crew", "words", "[J", true)
  | 2 => ("DuneRoad$Crew", "ways", "[I", true)
  | 3 => ("DuneRoad$Crew", "trial", "LDuneRoad$Moment;", true)
  | 4 => ("DuneRoad$Crew", "openWell", "I", false)
  | 5 => ("DuneRoad$Crew", "x", "J", false)
  | 6 => ("DuneRoad$Crew", "drySum", "I", false)
  | 7 => ("DuneRoad$Crew", "coinSum", "I", false)
  | _ => ("DuneRoad$Crew", "stormSum", "I", false)
def tyX0 : Nat → FieldType := fun k => match k with
  | 0 => .array .long
  | 1 => .array .long
  | 2 => .array .int
  | 3 => .object "DuneRoad$Moment"
  | 4 => .int
  | 5 => .long
  | 6 => .int
  | 7 => .int
  | _ => .int
theorem nmX0 : ∀ a, a < 9 → ∀ b, b < 9 → a ≠ b → (TX0 a).2.1 ≠ (TX0 b).2.1 := by decide +kernel
theorem tyX0_ok : ∀ k, k < 9 → parseFieldDescriptor (TX0 k).2.2.1 = some (tyX0 k) := by decide +kernel
abbrev cX0_init : ByteArray := prog_2_method_1_code
def yX0_init : MethodName := ⟨RX0, "<init>", "(LDuneRoad$Sea;)V"⟩
abbrev cX0_passDay : ByteArray := prog_2_method_2_code
def yX0_passDay : MethodName := ⟨RX0, "passDay", "(LDuneRoad$Moment;LDuneRoad$Rule;)V"⟩
abbrev cX0_tellWords : ByteArray := prog_2_method_3_code
def yX0_tellWords : MethodName := ⟨RX0, "tellWords", "(LDuneRoad$Moment;I)V"⟩
abbrev cX0_fillBy : ByteArray := prog_2_method_4_code
def yX0_fillBy : MethodName := ⟨RX0, "fillBy", "(LDuneRoad$Moment;LDuneRoad$Rule;I)V"⟩
abbrev cX0_wayBy : ByteArray := prog_2_method_5_code
def yX0_wayBy : MethodName := ⟨RX0, "wayBy", "(LDuneRoad$Moment;LDuneRoad$Rule;I)I"⟩
abbrev cX0_testHolds : ByteArray := prog_2_method_6_code
def yX0_testHolds : MethodName := ⟨RX0, "testHolds", "(LDuneRoad$Rule;I)Z"⟩
abbrev cX0_worth : ByteArray := prog_2_method_7_code
def yX0_worth : MethodName := ⟨RX0, "worth", "(LDuneRoad$Rule;II)J"⟩
abbrev cX0_joined : ByteArray := prog_2_method_8_code
def yX0_joined : MethodName := ⟨RX0, "joined", "(IJJ)J"⟩
abbrev cX0_startDraws : ByteArray := prog_2_method_9_code
def yX0_startDraws : MethodName := ⟨RX0, "startDraws", "(I)V"⟩
abbrev cX0_drawOnce : ByteArray := prog_2_method_10_code
def yX0_drawOnce : MethodName := ⟨RX0, "drawOnce", "(LDuneRoad$Moment;LDuneRoad$Rule;I)V"⟩
abbrev cX0_nextDraw : ByteArray := prog_2_method_11_code
def yX0_nextDraw : MethodName := ⟨RX0, "nextDraw", "()J"⟩
def RX1 : String := "DuneRoad$Finder"
def TX1 : u_T := fun k => match k with
  | 0 => ("DuneRoad$Finder", "windCount", "I", false)
  | 1 => ("DuneRoad$Finder", "firstLag", "I", false)
  | 2 => ("DuneRoad$Finder", "firstShift", "I", false)
  | _ => ("DuneRoad$Finder", "lagBits", "I", false)
def tyX1 : Nat → FieldType := fun k => match k with
  | 0 => .int
  | 1 => .int
  | 2 => .int
  | _ => .int
theorem nmX1 : ∀ a, a < 4 → ∀ b, b < 4 → a ≠ b → (TX1 a).2.1 ≠ (TX1 b).2.1 := by decide +kernel
theorem tyX1_ok : ∀ k, k < 4 → parseFieldDescriptor (TX1 k).2.2.1 = some (tyX1 k) := by decide +kernel
abbrev cX1_init : ByteArray := prog_3_method_1_code
def yX1_init : MethodName := ⟨RX1, "<init>", "()V"⟩
abbrev cX1_firstOpen : ByteArray := prog_3_method_2_code
def yX1_firstOpen : MethodName := ⟨RX1, "firstOpen", "(LDuneRoad$Moment;II)I"⟩
abbrev cX1_openDays : ByteArray := prog_3_method_3_code
def yX1_openDays : MethodName := ⟨RX1, "openDays", "(LDuneRoad$Sea;IIII)I"⟩
abbrev cX1_firstCrest : ByteArray := prog_3_method_4_code
def yX1_firstCrest : MethodName := ⟨RX1, "firstCrest", "(LDuneRoad$Sea;II)I"⟩
abbrev cX1_isCrest : ByteArray := prog_3_method_5_code
def yX1_isCrest : MethodName := ⟨RX1, "isCrest", "(LDuneRoad$Sea;II)Z"⟩
abbrev cX1_fewestFences : ByteArray := prog_3_method_6_code
def yX1_fewestFences : MethodName := ⟨RX1, "fewestFences", "(LDuneRoad$Moment;III)I"⟩
abbrev cX1_mostSand : ByteArray := prog_3_method_7_code
def yX1_mostSand : MethodName := ⟨RX1, "mostSand", "(LDuneRoad$Sea;III)I"⟩
abbrev cX1_leastSet : ByteArray := prog_3_method_8_code
def yX1_leastSet : MethodName := ⟨RX1, "leastSet", "(LDuneRoad$Moment;II)I"⟩
abbrev cX1_openLess : ByteArray := prog_3_method_9_code
def yX1_openLess : MethodName := ⟨RX1, "openLess", "(LDuneRoad$Moment;III)I"⟩
abbrev cX1_leastMast : ByteArray := prog_3_method_10_code
def yX1_leastMast : MethodName := ⟨RX1, "leastMast", "(LDuneRoad$World;I)I"⟩
abbrev cX1_mostMast : ByteArray := prog_3_method_11_code
def yX1_mostMast : MethodName := ⟨RX1, "mostMast", "(LDuneRoad$World;I)I"⟩
abbrev cX1_undug : ByteArray := prog_3_method_12_code
def yX1_undug : MethodName := ⟨RX1, "undug", "(LDuneRoad$Moment;II)I"⟩
abbrev cX1_cellsOfWreck : ByteArray := prog_3_method_13_code
def yX1_cellsOfWreck : MethodName := ⟨RX1, "cellsOfWreck", "(LDuneRoad$World;I)I"⟩
abbrev cX1_firstShown : ByteArray := prog_3_method_14_code
def yX1_firstShown : MethodName := ⟨RX1, "firstShown", "(LDuneRoad$World;II)I"⟩
abbrev cX1_showsIn : ByteArray := prog_3_method_15_code
def yX1_showsIn : MethodName := ⟨RX1, "showsIn", "(LDuneRoad$Moment;III)Z"⟩
abbrev cX1_findWinds : ByteArray := prog_3_method_16_code
def yX1_findWinds : MethodName := ⟨RX1, "findWinds", "(LDuneRoad$World;I)V"⟩
abbrev cX1_fitsWind : ByteArray := prog_3_method_17_code
def yX1_fitsWind : MethodName := ⟨RX1, "fitsWind", "(LDuneRoad$World;III)Z"⟩
def RX2 : String := "DuneRoad$Fleet"
def TX2 : u_T := fun k => match k with
  | 0 => ("DuneRoad$Fleet", "size", "I", false)
  | 1 => ("DuneRoad$Fleet", "days", "[I", true)
  | 2 => ("DuneRoad$Fleet", "due", "[I", true)
  | 3 => ("DuneRoad$Fleet", "spoil", "[I", true)
  | _ => ("DuneRoad$Fleet", "least", "[I", true)
def tyX2 : Nat → FieldType := fun k => match k with
  | 0 => .int
  | 1 => .array .int
  | 2 => .array .int
  | 3 => .array .int
  | _ => .array .int
theorem nmX2 : ∀ a, a < 5 → ∀ b, b < 5 → a ≠ b → (TX2 a).2.1 ≠ (TX2 b).2.1 := by decide +kernel
theorem tyX2_ok : ∀ k, k < 5 → parseFieldDescriptor (TX2 k).2.2.1 = some (tyX2 k) := by decide +kernel
abbrev cX2_init : ByteArray := prog_4_method_1_code
def yX2_init : MethodName := ⟨RX2, "<init>", "()V"⟩
abbrev cX2_add : ByteArray := prog_4_method_2_code
def yX2_add : MethodName := ⟨RX2, "add", "(III)V"⟩
abbrev cX2_copyFrom : ByteArray := prog_4_method_3_code
def yX2_copyFrom : MethodName := ⟨RX2, "copyFrom", "(LDuneRoad$Fleet;)V"⟩
abbrev cX2_weigh : ByteArray := prog_4_method_4_code
def yX2_weigh : MethodName := ⟨RX2, "weigh", "()V"⟩
abbrev cX2_duesWith : ByteArray := prog_4_method_5_code
def yX2_duesWith : MethodName := ⟨RX2, "duesWith", "(II)I"⟩
abbrev cX2_sailsAt : ByteArray := prog_4_method_6_code
def yX2_sailsAt : MethodName := ⟨RX2, "sailsAt", "(I)I"⟩
abbrev cX2_nextBehind : ByteArray := prog_4_method_7_code
def yX2_nextBehind : MethodName := ⟨RX2, "nextBehind", "(I)I"⟩
def RX3 : String := "DuneRoad$Moment"
def TX3 : u_T := fun k => match k with
  | 0 => ("DuneRoad$Moment", "sea", "LDuneRoad$Sea;", false)
  | 1 => ("DuneRoad$Moment", "day", "I", false)
  | 2 => ("DuneRoad$Moment", "fences", "I", false)
  | 3 => ("DuneRoad$Moment", "cell", "[I", true)
  | 4 => ("DuneRoad$Moment", "water", "[I", true)
  | 5 => ("DuneRoad$Moment", "paid", "[I", true)
  | 6 => ("DuneRoad$Moment", "dryOn", "[I", true)
  | 7 => ("DuneRoad$Moment", "diggings", "I", false)
  | 8 => ("DuneRoad$Moment", "digCell", "[I", true)
  | 9 => ("DuneRoad$Moment", "digBy", "[I", true)
  | 10 => ("DuneRoad$Moment", "digFirst", "[I", true)
  | _ => ("DuneRoad$Moment", "digLast", "[I", true)
def tyX3 : Nat → FieldType := fun k => match k with
  | 0 => .object "DuneRoad$Sea"
  | 1 => .int
  | 2 => .int
  | 3 => .array .int
  | 4 => .array .int
  | 5 => .array .int
  | 6 => .array .int
  | 7 => .int
  | 8 => .array .int
  | 9 => .array .int
  | 10 => .array .int
  | _ => .array .int
theorem nmX3 : ∀ a, a < 12 → ∀ b, b < 12 → a ≠ b → (TX3 a).2.1 ≠ (TX3 b).2.1 := by decide +kernel
theorem tyX3_ok : ∀ k, k < 12 → parseFieldDescriptor (TX3 k).2.2.1 = some (tyX3 k) := by decide +kernel
abbrev cX3_init : ByteArray := prog_5_method_1_code
def yX3_init : MethodName := ⟨RX3, "<init>", "(LDuneRoad$Sea;)V"⟩
abbrev cX3_copyFrom : ByteArray := prog_5_method_2_code
def yX3_copyFrom : MethodName := ⟨RX3, "copyFrom", "(LDuneRoad$Moment;)V"⟩
abbrev cX3_startOn : ByteArray := prog_5_method_3_code
def yX3_startOn : MethodName := ⟨RX3, "startOn", "(LDuneRoad$Sea;)V"⟩
abbrev cX3_level : ByteArray := prog_5_method_4_code
def yX3_level : MethodName := ⟨RX3, "level", "(II)I"⟩
abbrev cX3_isOpen : ByteArray := prog_5_method_5_code
def yX3_isOpen : MethodName := ⟨RX3, "isOpen", "(II)Z"⟩
abbrev cX3_wellOf : ByteArray := prog_5_method_6_code
def yX3_wellOf : MethodName := ⟨RX3, "wellOf", "(I)I"⟩
abbrev cX3_isDry : ByteArray := prog_5_method_7_code
def yX3_isDry : MethodName := ⟨RX3, "isDry", "(I)Z"⟩
abbrev cX3_dryShips : ByteArray := prog_5_method_8_code
def yX3_dryShips : MethodName := ⟨RX3, "dryShips", "()I"⟩
abbrev cX3_coinsPaid : ByteArray := prog_5_method_9_code
def yX3_coinsPaid : MethodName := ⟨RX3, "coinsPaid", "()I"⟩
abbrev cX3_mayGo : ByteArray := prog_5_method_10_code
def yX3_mayGo : MethodName := ⟨RX3, "mayGo", "(II)Z"⟩
abbrev cX3_fillFrom : ByteArray := prog_5_method_11_code
def yX3_fillFrom : MethodName := ⟨RX3, "fillFrom", "(II)I"⟩
abbrev cX3_addDigging : ByteArray := prog_5_method_12_code
def yX3_addDigging : MethodName := ⟨RX3, "addDigging", "(III)V"⟩
abbrev cX3_passDay : ByteArray := prog_5_method_13_code
def yX3_passDay : MethodName := ⟨RX3, "passDay", "([I)V"⟩
abbrev cX3_dropOldDiggings : ByteArray := prog_5_method_14_code
def yX3_dropOldDiggings : MethodName := ⟨RX3, "dropOldDiggings", "()V"⟩
abbrev cX3_storm : ByteArray := prog_5_method_15_code
def yX3_storm : MethodName := ⟨RX3, "storm", "()V"⟩
def RX4 : String := "DuneRoad$Pilot"
def TX4 : u_T := fun k => match k with
  | 0 => ("DuneRoad$Pilot", "moment", "LDuneRoad$Moment;", false)
  | 1 => ("DuneRoad$Pilot", "ship", "I", false)
  | 2 => ("DuneRoad$Pilot", "tank", "I", false)
  | 3 => ("DuneRoad$Pilot", "today", "[I", true)
  | 4 => ("DuneRoad$Pilot", "tomorrow", "[I", true)
  | 5 => ("DuneRoad$Pilot", "price", "[I", true)
  | 6 => ("DuneRoad$Pilot", "most", "[I", false)
  | 7 => ("DuneRoad$Pilot", "nextMost", "[I", false)
  | 8 => ("DuneRoad$Pilot", "dear", "[I", false)
  | _ => ("DuneRoad$Pilot", "nextDear", "[I", false)
def tyX4 : Nat → FieldType := fun k => match k with
  | 0 => .object "DuneRoad$Moment"
  | 1 => .int
  | 2 => .int
  | 3 => .array .int
  | 4 => .array .int
  | 5 => .array .int
  | 6 => .array .int
  | 7 => .array .int
  | 8 => .array .int
  | _ => .array .int
theorem nmX4 : ∀ a, a < 10 → ∀ b, b < 10 → a ≠ b → (TX4 a).2.1 ≠ (TX4 b).2.1 := by decide +kernel
theorem tyX4_ok : ∀ k, k < 10 → parseFieldDescriptor (TX4 k).2.2.1 = some (tyX4 k) := by decide +kernel
abbrev cX4_init : ByteArray := prog_6_method_1_code
def yX4_init : MethodName := ⟨RX4, "<init>", "()V"⟩
abbrev cX4_coinsOf : ByteArray := prog_6_method_2_code
def yX4_coinsOf : MethodName := ⟨RX4, "coinsOf", "(I)I"⟩
abbrev cX4_goingOf : ByteArray := prog_6_method_3_code
def yX4_goingOf : MethodName := ⟨RX4, "goingOf", "(I)I"⟩
abbrev cX4_fillOf : ByteArray := prog_6_method_4_code
def yX4_fillOf : MethodName := ⟨RX4, "fillOf", "(I)I"⟩
abbrev cX4_soonest : ByteArray := prog_6_method_5_code
def yX4_soonest : MethodName := ⟨RX4, "soonest", "(LDuneRoad$Moment;II)I"⟩
abbrev cX4_leastDear : ByteArray := prog_6_method_6_code
def yX4_leastDear : MethodName := ⟨RX4, "leastDear", "(LDuneRoad$Moment;III)I"⟩
abbrev cX4_start : ByteArray := prog_6_method_7_code
def yX4_start : MethodName := ⟨RX4, "start", "(LDuneRoad$Moment;I)V"⟩
abbrev cX4_lookAt : ByteArray := prog_6_method_8_code
def yX4_lookAt : MethodName := ⟨RX4, "lookAt", "(I)V"⟩
abbrev cX4_canPass : ByteArray := prog_6_method_9_code
def yX4_canPass : MethodName := ⟨RX4, "canPass", "(II)Z"⟩
abbrev cX4_passMost : ByteArray := prog_6_method_10_code
def yX4_passMost : MethodName := ⟨RX4, "passMost", "()Z"⟩
abbrev cX4_passFirst : ByteArray := prog_6_method_11_code
def yX4_passFirst : MethodName := ⟨RX4, "passFirst", "()V"⟩
abbrev cX4_fillDear : ByteArray := prog_6_method_12_code
def yX4_fillDear : MethodName := ⟨RX4, "fillDear", "()V"⟩
abbrev cX4_passDear : ByteArray := prog_6_method_13_code
def yX4_passDear : MethodName := ⟨RX4, "passDear", "()V"⟩
abbrev cX4_passWaters : ByteArray := prog_6_method_14_code
def yX4_passWaters : MethodName := ⟨RX4, "passWaters", "(II)V"⟩
def RX5 : String := "DuneRoad$Rule"
def TX5 : u_T := fun k => match k with
  | 0 => ("DuneRoad$Rule", "code", "[I", true)
  | 1 => ("DuneRoad$Rule", "size", "I", false)
  | 2 => ("DuneRoad$Rule", "clauses", "I", false)
  | 3 => ("DuneRoad$Rule", "sumFrom", "[I", true)
  | 4 => ("DuneRoad$Rule", "testFrom", "[I", true)
  | _ => ("DuneRoad$Rule", "testTo", "[I", true)
def tyX5 : Nat → FieldType := fun k => match k with
  | 0 => .array .int
  | 1 => .int
  | 2 => .int
  | 3 => .array .int
  | 4 => .array .int
  | _ => .array .int
theorem nmX5 : ∀ a, a < 6 → ∀ b, b < 6 → a ≠ b → (TX5 a).2.1 ≠ (TX5 b).2.1 := by decide +kernel
theorem tyX5_ok : ∀ k, k < 6 → parseFieldDescriptor (TX5 k).2.2.1 = some (tyX5 k) := by decide +kernel
abbrev cX5_init : ByteArray := prog_7_method_1_code
def yX5_init : MethodName := ⟨RX5, "<init>", "()V"⟩
abbrev cX5_clear : ByteArray := prog_7_method_2_code
def yX5_clear : MethodName := ⟨RX5, "clear", "()V"⟩
abbrev cX5_add : ByteArray := prog_7_method_3_code
def yX5_add : MethodName := ⟨RX5, "add", "(I)V"⟩
abbrev cX5_isFill : ByteArray := prog_7_method_4_code
def yX5_isFill : MethodName := ⟨RX5, "isFill", "(I)Z"⟩
abbrev cX5_hasTest : ByteArray := prog_7_method_5_code
def yX5_hasTest : MethodName := ⟨RX5, "hasTest", "(I)Z"⟩
def RX6 : String := "DuneRoad$RuleReader"
def TX6 : u_T := fun k => match k with
  | 0 => ("DuneRoad$RuleReader", "tape", "LDuneRoad$Tape;", true)
  | 1 => ("DuneRoad$RuleReader", "rule", "LDuneRoad$Rule;", false)
  | _ => ("DuneRoad$RuleReader", "parts", "I", false)
def tyX6 : Nat → FieldType := fun k => match k with
  | 0 => .object "DuneRoad$Tape"
  | 1 => .object "DuneRoad$Rule"
  | _ => .int
theorem nmX6 : ∀ a, a < 3 → ∀ b, b < 3 → a ≠ b → (TX6 a).2.1 ≠ (TX6 b).2.1 := by decide +kernel
theorem tyX6_ok : ∀ k, k < 3 → parseFieldDescriptor (TX6 k).2.2.1 = some (tyX6 k) := by decide +kernel
abbrev cX6_init : ByteArray := prog_8_method_1_code
def yX6_init : MethodName := ⟨RX6, "<init>", "(LDuneRoad$Tape;)V"⟩
abbrev cX6_read : ByteArray := prog_8_method_2_code
def yX6_read : MethodName := ⟨RX6, "read", "(LDuneRoad$Rule;)I"⟩
abbrev cX6_readClause : ByteArray := prog_8_method_3_code
def yX6_readClause : MethodName := ⟨RX6, "readClause", "(I)V"⟩
abbrev cX6_readTest : ByteArray := prog_8_method_4_code
def yX6_readTest : MethodName := ⟨RX6, "readTest", "(I)V"⟩
abbrev cX6_readFact : ByteArray := prog_8_method_5_code
def yX6_readFact : MethodName := ⟨RX6, "readFact", "(I)V"⟩
abbrev cX6_takeComparison : ByteArray := prog_8_method_6_code
def yX6_takeComparison : MethodName := ⟨RX6, "takeComparison", "()I"⟩
abbrev cX6_readSum : ByteArray := prog_8_method_7_code
def yX6_readSum : MethodName := ⟨RX6, "readSum", "()V"⟩
abbrev cX6_timesHere : ByteArray := prog_8_method_8_code
def yX6_timesHere : MethodName := ⟨RX6, "timesHere", "()I"⟩
abbrev cX6_plusHere : ByteArray := prog_8_method_9_code
def yX6_plusHere : MethodName := ⟨RX6, "plusHere", "()I"⟩
abbrev cX6_readValue : ByteArray := prog_8_method_10_code
def yX6_readValue : MethodName := ⟨RX6, "readValue", "()V"⟩
abbrev cX6_isValueWord : ByteArray := prog_8_method_11_code
def yX6_isValueWord : MethodName := ⟨RX6, "isValueWord", "(I)Z"⟩
def RX7 : String := "DuneRoad$Sea"
def TX7 : u_T := fun k => match k with
  | 0 => ("DuneRoad$Sea", "cells", "I", false)
  | 1 => ("DuneRoad$Sea", "trains", "I", false)
  | 2 => ("DuneRoad$Sea", "wells", "I", false)
  | 3 => ("DuneRoad$Sea", "towns", "I", false)
  | 4 => ("DuneRoad$Sea", "ships", "I", false)
  | 5 => ("DuneRoad$Sea", "lag", "[I", true)
  | 6 => ("DuneRoad$Sea", "shift", "[I", true)
  | 7 => ("DuneRoad$Sea", "period", "[I", true)
  | 8 => ("DuneRoad$Sea", "greatest", "[I", true)
  | 9 => ("DuneRoad$Sea", "rows", "[I", true)
  | 10 => ("DuneRoad$Sea", "ground", "[I", true)
  | 11 => ("DuneRoad$Sea", "placeCell", "[I", true)
  | 12 => ("DuneRoad$Sea", "placeLimit", "[I", true)
  | 13 => ("DuneRoad$Sea", "placeCoins", "[I", true)
  | 14 => ("DuneRoad$Sea", "shipCell", "[I", true)
  | 15 => ("DuneRoad$Sea", "tank", "[I", true)
  | 16 => ("DuneRoad$Sea", "climb", "[I", true)
  | 17 => ("DuneRoad$Sea", "odds", "I", false)
  | 18 => ("DuneRoad$Sea", "of", "I", false)
  | _ => ("DuneRoad$Sea", "round", "I", false)
def tyX7 : Nat → FieldType := fun k => match k with
  | 0 => .int
  | 1 => .int
  | 2 => .int
  | 3 => .int
  | 4 => .int
  | 5 => .array .int
  | 6 => .array .int
  | 7 => .array .int
  | 8 => .array .int
  | 9 => .array .int
  | 10 => .array .int
  | 11 => .array .int
  | 12 => .array .int
  | 13 => .array .int
  | 14 => .array .int
  | 15 => .array .int
  | 16 => .array .int
  | 17 => .int
  | 18 => .int
  | _ => .int
theorem nmX7 : ∀ a, a < 20 → ∀ b, b < 20 → a ≠ b → (TX7 a).2.1 ≠ (TX7 b).2.1 := by decide +kernel
theorem tyX7_ok : ∀ k, k < 20 → parseFieldDescriptor (TX7 k).2.2.1 = some (tyX7 k) := by decide +kernel
abbrev cX7_init : ByteArray := prog_9_method_1_code
def yX7_init : MethodName := ⟨RX7, "<init>", "()V"⟩
abbrev cX7_clear : ByteArray := prog_9_method_2_code
def yX7_clear : MethodName := ⟨RX7, "clear", "()V"⟩
abbrev cX7_isThere : ByteArray := prog_9_method_3_code
def yX7_isThere : MethodName := ⟨RX7, "isThere", "()Z"⟩
abbrev cX7_hasCell : ByteArray := prog_9_method_4_code
def yX7_hasCell : MethodName := ⟨RX7, "hasCell", "(I)Z"⟩
abbrev cX7_hasShip : ByteArray := prog_9_method_5_code
def yX7_hasShip : MethodName := ⟨RX7, "hasShip", "(I)Z"⟩
abbrev cX7_hasPlace : ByteArray := prog_9_method_6_code
def yX7_hasPlace : MethodName := ⟨RX7, "hasPlace", "(I)Z"⟩
abbrev cX7_hasPlaces : ByteArray := prog_9_method_7_code
def yX7_hasPlaces : MethodName := ⟨RX7, "hasPlaces", "(I)Z"⟩
abbrev cX7_addTrain : ByteArray := prog_9_method_8_code
def yX7_addTrain : MethodName := ⟨RX7, "addTrain", "(III)V"⟩
abbrev cX7_setRow : ByteArray := prog_9_method_9_code
def yX7_setRow : MethodName := ⟨RX7, "setRow", "(III)V"⟩
abbrev cX7_rowAt : ByteArray := prog_9_method_10_code
def yX7_rowAt : MethodName := ⟨RX7, "rowAt", "(II)I"⟩
abbrev cX7_waveBy : ByteArray := prog_9_method_11_code
def yX7_waveBy : MethodName := ⟨RX7, "waveBy", "(IIIII)I"⟩
abbrev cX7_wave : ByteArray := prog_9_method_12_code
def yX7_wave : MethodName := ⟨RX7, "wave", "(III)I"⟩
abbrev cX7_sand : ByteArray := prog_9_method_13_code
def yX7_sand : MethodName := ⟨RX7, "sand", "(II)I"⟩
abbrev cX7_drift : ByteArray := prog_9_method_14_code
def yX7_drift : MethodName := ⟨RX7, "drift", "(II)I"⟩
abbrev cX7_levelBy : ByteArray := prog_9_method_15_code
def yX7_levelBy : MethodName := ⟨RX7, "levelBy", "(III)I"⟩
abbrev cX7_isOpenBy : ByteArray := prog_9_method_16_code
def yX7_isOpenBy : MethodName := ⟨RX7, "isOpenBy", "(III)Z"⟩
def RX8 : String := "DuneRoad$SeaReader"
def TX8 : u_T := fun k => match k with
  | 0 => ("DuneRoad$SeaReader", "tape", "LDuneRoad$Tape;", true)
  | 1 => ("DuneRoad$SeaReader", "sea", "LDuneRoad$Sea;", false)
  | _ => ("DuneRoad$SeaReader", "hasStorm", "Z", false)
def tyX8 : Nat → FieldType := fun k => match k with
  | 0 => .object "DuneRoad$Tape"
  | 1 => .object "DuneRoad$Sea"
  | _ => .boolean
theorem nmX8 : ∀ a, a < 3 → ∀ b, b < 3 → a ≠ b → (TX8 a).2.1 ≠ (TX8 b).2.1 := by decide +kernel
theorem tyX8_ok : ∀ k, k < 3 → parseFieldDescriptor (TX8 k).2.2.1 = some (tyX8 k) := by decide +kernel
abbrev cX8_init : ByteArray := prog_10_method_1_code
def yX8_init : MethodName := ⟨RX8, "<init>", "(LDuneRoad$Tape;)V"⟩
abbrev cX8_read : ByteArray := prog_10_method_2_code
def yX8_read : MethodName := ⟨RX8, "read", "(LDuneRoad$Sea;)I"⟩
abbrev cX8_readClause : ByteArray := prog_10_method_3_code
def yX8_readClause : MethodName := ⟨RX8, "readClause", "(I)V"⟩
abbrev cX8_isFull : ByteArray := prog_10_method_4_code
def yX8_isFull : MethodName := ⟨RX8, "isFull", "(I)Z"⟩
abbrev cX8_readNumbers : ByteArray := prog_10_method_5_code
def yX8_readNumbers : MethodName := ⟨RX8, "readNumbers", "(I)V"⟩
abbrev cX8_takeCell : ByteArray := prog_10_method_6_code
def yX8_takeCell : MethodName := ⟨RX8, "takeCell", "()I"⟩
abbrev cX8_readTrain : ByteArray := prog_10_method_7_code
def yX8_readTrain : MethodName := ⟨RX8, "readTrain", "()V"⟩
abbrev cX8_readGround : ByteArray := prog_10_method_8_code
def yX8_readGround : MethodName := ⟨RX8, "readGround", "()V"⟩
abbrev cX8_readPlace : ByteArray := prog_10_method_9_code
def yX8_readPlace : MethodName := ⟨RX8, "readPlace", "(I)V"⟩
abbrev cX8_readShip : ByteArray := prog_10_method_10_code
def yX8_readShip : MethodName := ⟨RX8, "readShip", "()V"⟩
abbrev cX8_readStorm : ByteArray := prog_10_method_11_code
def yX8_readStorm : MethodName := ⟨RX8, "readStorm", "()V"⟩
def RX9 : String := "DuneRoad$Tape"
def TX9 : u_T := fun k => match k with
  | 0 => ("DuneRoad$Tape", "bytes", "[I", true)
  | 1 => ("DuneRoad$Tape", "length", "I", false)
  | 2 => ("DuneRoad$Tape", "fault", "I", false)
  | 3 => ("DuneRoad$Tape", "kinds", "[I", true)
  | 4 => ("DuneRoad$Tape", "places", "[I", true)
  | 5 => ("DuneRoad$Tape", "values", "[I", true)
  | 6 => ("DuneRoad$Tape", "tokens", "I", false)
  | _ => ("DuneRoad$Tape", "mark", "I", false)
def tyX9 : Nat → FieldType := fun k => match k with
  | 0 => .array .int
  | 1 => .int
  | 2 => .int
  | 3 => .array .int
  | 4 => .array .int
  | 5 => .array .int
  | 6 => .int
  | _ => .int
theorem nmX9 : ∀ a, a < 8 → ∀ b, b < 8 → a ≠ b → (TX9 a).2.1 ≠ (TX9 b).2.1 := by decide +kernel
theorem tyX9_ok : ∀ k, k < 8 → parseFieldDescriptor (TX9 k).2.2.1 = some (tyX9 k) := by decide +kernel
abbrev cX9_init : ByteArray := prog_11_method_1_code
def yX9_init : MethodName := ⟨RX9, "<init>", "()V"⟩
abbrev cX9_addFour : ByteArray := prog_11_method_2_code
def yX9_addFour : MethodName := ⟨RX9, "addFour", "(I)V"⟩
abbrev cX9_cut : ByteArray := prog_11_method_3_code
def yX9_cut : MethodName := ⟨RX9, "cut", "()V"⟩
abbrev cX9_cutToken : ByteArray := prog_11_method_4_code
def yX9_cutToken : MethodName := ⟨RX9, "cutToken", "(I)I"⟩
abbrev cX9_addToken : ByteArray := prog_11_method_5_code
def yX9_addToken : MethodName := ⟨RX9, "addToken", "(III)V"⟩
abbrev cX9_isLetter : ByteArray := prog_11_method_6_code
def yX9_isLetter : MethodName := ⟨RX9, "isLetter", "(I)Z"⟩
abbrev cX9_isDigit : ByteArray := prog_11_method_7_code
def yX9_isDigit : MethodName := ⟨RX9, "isDigit", "(I)Z"⟩
abbrev cX9_lettersEnd : ByteArray := prog_11_method_8_code
def yX9_lettersEnd : MethodName := ⟨RX9, "lettersEnd", "(I)I"⟩
abbrev cX9_digitsEnd : ByteArray := prog_11_method_9_code
def yX9_digitsEnd : MethodName := ⟨RX9, "digitsEnd", "(I)I"⟩
abbrev cX9_numberOf : ByteArray := prog_11_method_10_code
def yX9_numberOf : MethodName := ⟨RX9, "numberOf", "(II)I"⟩
abbrev cX9_wordNumber : ByteArray := prog_11_method_11_code
def yX9_wordNumber : MethodName := ⟨RX9, "wordNumber", "(II)I"⟩
abbrev cX9_isWord : ByteArray := prog_11_method_12_code
def yX9_isWord : MethodName := ⟨RX9, "isWord", "(III)Z"⟩
abbrev cX9_fail : ByteArray := prog_11_method_13_code
def yX9_fail : MethodName := ⟨RX9, "fail", "(I)V"⟩
abbrev cX9_step : ByteArray := prog_11_method_14_code
def yX9_step : MethodName := ⟨RX9, "step", "()V"⟩
abbrev cX9_atNumber : ByteArray := prog_11_method_15_code
def yX9_atNumber : MethodName := ⟨RX9, "atNumber", "()Z"⟩
abbrev cX9_numberHere : ByteArray := prog_11_method_16_code
def yX9_numberHere : MethodName := ⟨RX9, "numberHere", "()I"⟩
abbrev cX9_wordHere : ByteArray := prog_11_method_17_code
def yX9_wordHere : MethodName := ⟨RX9, "wordHere", "()I"⟩
abbrev cX9_signHere : ByteArray := prog_11_method_18_code
def yX9_signHere : MethodName := ⟨RX9, "signHere", "()I"⟩
abbrev cX9_placeHere : ByteArray := prog_11_method_19_code
def yX9_placeHere : MethodName := ⟨RX9, "placeHere", "()I"⟩
abbrev cX9_digitsHere : ByteArray := prog_11_method_20_code
def yX9_digitsHere : MethodName := ⟨RX9, "digitsHere", "()I"⟩
abbrev cX9_takeNumber : ByteArray := prog_11_method_21_code
def yX9_takeNumber : MethodName := ⟨RX9, "takeNumber", "(II)I"⟩
abbrev cX9_takeSign : ByteArray := prog_11_method_22_code
def yX9_takeSign : MethodName := ⟨RX9, "takeSign", "(I)V"⟩
abbrev cX9_goesOn : ByteArray := prog_11_method_23_code
def yX9_goesOn : MethodName := ⟨RX9, "goesOn", "()Z"⟩
def RX10 : String := "DuneRoad$World"
def TX10 : u_T := fun k => match k with
  | 0 => ("DuneRoad$World", "now", "LDuneRoad$Moment;", true)
  | 1 => ("DuneRoad$World", "past", "[LDuneRoad$Moment;", true)
  | 2 => ("DuneRoad$World", "acts", "I", false)
  | 3 => ("DuneRoad$World", "sights", "I", false)
  | 4 => ("DuneRoad$World", "sightDay", "[I", true)
  | 5 => ("DuneRoad$World", "sightShowed", "[I", true)
  | 6 => ("DuneRoad$World", "heights", "I", false)
  | 7 => ("DuneRoad$World", "toldCell", "[I", true)
  | 8 => ("DuneRoad$World", "toldDay", "[I", true)
  | 9 => ("DuneRoad$World", "toldHeight", "[I", true)
  | 10 => ("DuneRoad$World", "fleet", "LDuneRoad$Fleet;", true)
  | _ => ("DuneRoad$World", "x", "I", false)
def tyX10 : Nat → FieldType := fun k => match k with
  | 0 => .object "DuneRoad$Moment"
  | 1 => .array (.object "DuneRoad$Moment")
  | 2 => .int
  | 3 => .int
  | 4 => .array .int
  | 5 => .array .int
  | 6 => .int
  | 7 => .array .int
  | 8 => .array .int
  | 9 => .array .int
  | 10 => .object "DuneRoad$Fleet"
  | _ => .int
theorem nmX10 : ∀ a, a < 12 → ∀ b, b < 12 → a ≠ b → (TX10 a).2.1 ≠ (TX10 b).2.1 := by decide +kernel
theorem tyX10_ok : ∀ k, k < 12 → parseFieldDescriptor (TX10 k).2.2.1 = some (tyX10 k) := by decide +kernel
abbrev cX10_init : ByteArray := prog_12_method_1_code
def yX10_init : MethodName := ⟨RX10, "<init>", "(LDuneRoad$Sea;)V"⟩
abbrev cX10_startOn : ByteArray := prog_12_method_2_code
def yX10_startOn : MethodName := ⟨RX10, "startOn", "(LDuneRoad$Sea;)V"⟩
abbrev cX10_copyFrom : ByteArray := prog_12_method_3_code
def yX10_copyFrom : MethodName := ⟨RX10, "copyFrom", "(LDuneRoad$World;)V"⟩
abbrev cX10_remember : ByteArray := prog_12_method_4_code
def yX10_remember : MethodName := ⟨RX10, "remember", "()V"⟩
abbrev cX10_forgetLast : ByteArray := prog_12_method_5_code
def yX10_forgetLast : MethodName := ⟨RX10, "forgetLast", "()Z"⟩
abbrev cX10_addSight : ByteArray := prog_12_method_6_code
def yX10_addSight : MethodName := ⟨RX10, "addSight", "(IZ)V"⟩
abbrev cX10_addHeight : ByteArray := prog_12_method_7_code
def yX10_addHeight : MethodName := ⟨RX10, "addHeight", "(III)V"⟩
def RX11 : String := "DuneRoad"
def TX11 : u_T := fun k => match k with
  | 0 => ("DuneRoad", "tape", "LDuneRoad$Tape;", true)
  | 1 => ("DuneRoad", "seaReader", "LDuneRoad$SeaReader;", true)
  | 2 => ("DuneRoad", "ruleReader", "LDuneRoad$RuleReader;", true)
  | 3 => ("DuneRoad", "rules", "[LDuneRoad$Rule;", true)
  | 4 => ("DuneRoad", "ruleCount", "I", false)
  | 5 => ("DuneRoad", "noSea", "LDuneRoad$Sea;", true)
  | 6 => ("DuneRoad", "spareSea", "LDuneRoad$Sea;", false)
  | 7 => ("DuneRoad", "world", "LDuneRoad$World;", true)
  | 8 => ("DuneRoad", "images", "[LDuneRoad$World;", true)
  | 9 => ("DuneRoad", "crew", "LDuneRoad$Crew;", true)
  | 10 => ("DuneRoad", "pilot", "LDuneRoad$Pilot;", true)
  | 11 => ("DuneRoad", "finder", "LDuneRoad$Finder;", true)
  | _ => ("DuneRoad", "ways", "[I", true)
def tyX11 : Nat → FieldType := fun k => match k with
  | 0 => .object "DuneRoad$Tape"
  | 1 => .object "DuneRoad$SeaReader"
  | 2 => .object "DuneRoad$RuleReader"
  | 3 => .array (.object "DuneRoad$Rule")
  | 4 => .int
  | 5 => .object "DuneRoad$Sea"
  | 6 => .object "DuneRoad$Sea"
  | 7 => .object "DuneRoad$World"
  | 8 => .array (.object "DuneRoad$World")
  | 9 => .object "DuneRoad$Crew"
  | 10 => .object "DuneRoad$Pilot"
  | 11 => .object "DuneRoad$Finder"
  | _ => .array .int
theorem nmX11 : ∀ a, a < 13 → ∀ b, b < 13 → a ≠ b → (TX11 a).2.1 ≠ (TX11 b).2.1 := by decide +kernel
theorem tyX11_ok : ∀ k, k < 13 → parseFieldDescriptor (TX11 k).2.2.1 = some (tyX11 k) := by decide +kernel
abbrev cX11_init : ByteArray := prog_1_method_1_code
def yX11_init : MethodName := ⟨RX11, "<init>", "()V"⟩
abbrev cX11_feed : ByteArray := prog_1_method_2_code
def yX11_feed : MethodName := ⟨RX11, "feed", "(IIIII)I"⟩
abbrev cX11_end : ByteArray := prog_1_method_3_code
def yX11_end : MethodName := ⟨RX11, "end", "(I)I"⟩
abbrev cX11_sea : ByteArray := prog_1_method_4_code
def yX11_sea : MethodName := ⟨RX11, "sea", "()I"⟩
abbrev cX11_rule : ByteArray := prog_1_method_5_code
def yX11_rule : MethodName := ⟨RX11, "rule", "()I"⟩
abbrev cX11_height : ByteArray := prog_1_method_6_code
def yX11_height : MethodName := ⟨RX11, "height", "(II)I"⟩
abbrev cX11_train : ByteArray := prog_1_method_7_code
def yX11_train : MethodName := ⟨RX11, "train", "(II)I"⟩
abbrev cX11_place : ByteArray := prog_1_method_8_code
def yX11_place : MethodName := ⟨RX11, "place", "(II)I"⟩
abbrev cX11_ship : ByteArray := prog_1_method_9_code
def yX11_ship : MethodName := ⟨RX11, "ship", "(II)I"⟩
abbrev cX11_sail : ByteArray := prog_1_method_10_code
def yX11_sail : MethodName := ⟨RX11, "sail", "(II)I"⟩
abbrev cX11_fill : ByteArray := prog_1_method_11_code
def yX11_fill : MethodName := ⟨RX11, "fill", "(I)I"⟩
abbrev cX11_fence : ByteArray := prog_1_method_12_code
def yX11_fence : MethodName := ⟨RX11, "fence", "(IZ)Z"⟩
abbrev cX11_dig : ByteArray := prog_1_method_13_code
def yX11_dig : MethodName := ⟨RX11, "dig", "(III)I"⟩
abbrev cX11_undo : ByteArray := prog_1_method_14_code
def yX11_undo : MethodName := ⟨RX11, "undo", "()I"⟩
abbrev cX11_run : ByteArray := prog_1_method_15_code
def yX11_run : MethodName := ⟨RX11, "run", "(II)I"⟩
abbrev cX11_round : ByteArray := prog_1_method_16_code
def yX11_round : MethodName := ⟨RX11, "round", "()I"⟩
abbrev cX11_again : ByteArray := prog_1_method_17_code
def yX11_again : MethodName := ⟨RX11, "again", "(II)I"⟩
abbrev cX11_share : ByteArray := prog_1_method_18_code
def yX11_share : MethodName := ⟨RX11, "share", "(II)I"⟩
abbrev cX11_crest : ByteArray := prog_1_method_19_code
def yX11_crest : MethodName := ⟨RX11, "crest", "(II)I"⟩
abbrev cX11_voyage : ByteArray := prog_1_method_20_code
def yX11_voyage : MethodName := ⟨RX11, "voyage", "(III)I"⟩
abbrev cX11_fences : ByteArray := prog_1_method_21_code
def yX11_fences : MethodName := ⟨RX11, "fences", "(IIII)I"⟩
abbrev cX11_sight : ByteArray := prog_1_method_22_code
def yX11_sight : MethodName := ⟨RX11, "sight", "(IZ)I"⟩
abbrev cX11_wreck : ByteArray := prog_1_method_23_code
def yX11_wreck : MethodName := ⟨RX11, "wreck", "(I)I"⟩
abbrev cX11_masts : ByteArray := prog_1_method_24_code
def yX11_masts : MethodName := ⟨RX11, "masts", "(I)I"⟩
abbrev cX11_shows : ByteArray := prog_1_method_25_code
def yX11_shows : MethodName := ⟨RX11, "shows", "(II)I"⟩
abbrev cX11_told : ByteArray := prog_1_method_26_code
def yX11_told : MethodName := ⟨RX11, "told", "(III)I"⟩
abbrev cX11_winds : ByteArray := prog_1_method_27_code
def yX11_winds : MethodName := ⟨RX11, "winds", "(II)I"⟩
abbrev cX11_rent : ByteArray := prog_1_method_28_code
def yX11_rent : MethodName := ⟨RX11, "rent", "(III)I"⟩
abbrev cX11_fleet : ByteArray := prog_1_method_29_code
def yX11_fleet : MethodName := ⟨RX11, "fleet", "(III)I"⟩
abbrev cX11_order : ByteArray := prog_1_method_30_code
def yX11_order : MethodName := ⟨RX11, "order", "(I)I"⟩
abbrev cX11_storms : ByteArray := prog_1_method_31_code
def yX11_storms : MethodName := ⟨RX11, "storms", "(III)J"⟩
abbrev cX11_seed : ByteArray := prog_1_method_32_code
def yX11_seed : MethodName := ⟨RX11, "seed", "(I)I"⟩
abbrev cX11_drawn : ByteArray := prog_1_method_33_code
def yX11_drawn : MethodName := ⟨RX11, "drawn", "(IIII)I"⟩
abbrev cX11_count : ByteArray := prog_1_method_34_code
def yX11_count : MethodName := ⟨RX11, "count", "(I)I"⟩
abbrev cX11_image : ByteArray := prog_1_method_35_code
def yX11_image : MethodName := ⟨RX11, "image", "(I)I"⟩
abbrev cX11_back : ByteArray := prog_1_method_36_code
def yX11_back : MethodName := ⟨RX11, "back", "(I)I"⟩
abbrev cX11_hasRule : ByteArray := prog_1_method_37_code
def yX11_hasRule : MethodName := ⟨RX11, "hasRule", "(I)Z"⟩
abbrev cX11_within : ByteArray := prog_1_method_38_code
def yX11_within : MethodName := ⟨RX11, "within", "(III)Z"⟩
abbrev cX11_isDay : ByteArray := prog_1_method_39_code
def yX11_isDay : MethodName := ⟨RX11, "isDay", "(I)Z"⟩
abbrev cX11_common : ByteArray := prog_1_method_40_code
def yX11_common : MethodName := ⟨RX11, "common", "(JJ)J"⟩
abbrev cX11_lowest : ByteArray := prog_1_method_41_code
def yX11_lowest : MethodName := ⟨RX11, "lowest", "(JJI)J"⟩
abbrev cX11_power : ByteArray := prog_1_method_42_code
def yX11_power : MethodName := ⟨RX11, "power", "(JI)J"⟩
abbrev cX11_choices : ByteArray := prog_1_method_43_code
def yX11_choices : MethodName := ⟨RX11, "choices", "(II)J"⟩
def RX12 : String := "DuneRoadModel"
def TX12 : u_T := fun k => match k with
  | 0 => ("DuneRoadModel", "thrown", "I", false)
  | 1 => ("DuneRoadModel", "scalar", "[I", true)
  | 2 => ("DuneRoadModel", "ground", "[I", true)
  | 3 => ("DuneRoadModel", "lag", "[I", true)
  | 4 => ("DuneRoadModel", "shift", "[I", true)
  | 5 => ("DuneRoadModel", "period", "[I", true)
  | 6 => ("DuneRoadModel", "heights", "[I", true)
  | 7 => ("DuneRoadModel", "wellCell", "[I", true)
  | 8 => ("DuneRoadModel", "depth", "[I", true)
  | 9 => ("DuneRoadModel", "price", "[I", true)
  | 10 => ("DuneRoadModel", "townCell", "[I", true)
  | 11 => ("DuneRoadModel", "door", "[I", true)
  | 12 => ("DuneRoadModel", "townRent", "[I", true)
  | 13 => ("DuneRoadModel", "shipCell", "[I", true)
  | 14 => ("DuneRoadModel", "water", "[I", true)
  | 15 => ("DuneRoadModel", "tank", "[I", true)
  | 16 => ("DuneRoadModel", "climb", "[I", true)
  | 17 => ("DuneRoadModel", "paid", "[I", true)
  | 18 => ("DuneRoadModel", "dryOn", "[I", true)
  | 19 => ("DuneRoadModel", "goes", "[I", true)
  | 20 => ("DuneRoadModel", "digCell", "[I", true)
  | 21 => ("DuneRoadModel", "digBy", "[I", true)
  | 22 => ("DuneRoadModel", "digFrom", "[I", true)
  | 23 => ("DuneRoadModel", "digTo", "[I", true)
  | 24 => ("DuneRoadModel", "sightDay", "[I", true)
  | 25 => ("DuneRoadModel", "sightIs", "[I", true)
  | 26 => ("DuneRoadModel", "toldCell", "[I", true)
  | 27 => ("DuneRoadModel", "toldDay", "[I", true)
  | 28 => ("DuneRoadModel", "toldHeight", "[I", true)
  | 29 => ("DuneRoadModel", "fleetDays", "[I", true)
  | 30 => ("DuneRoadModel", "fleetDue", "[I", true)
  | 31 => ("DuneRoadModel", "fleetSpoil", "[I", true)
  | 32 => ("DuneRoadModel", "newScalar", "[I", true)
  | 33 => ("DuneRoadModel", "newGround", "[I", true)
  | 34 => ("DuneRoadModel", "newLag", "[I", true)
  | 35 => ("DuneRoadModel", "newShift", "[I", true)
  | 36 => ("DuneRoadModel", "newPeriod", "[I", true)
  | 37 => ("DuneRoadModel", "newHeights", "[I", true)
  | 38 => ("DuneRoadModel", "newWellCell", "[I", true)
  | 39 => ("DuneRoadModel", "newDepth", "[I", true)
  | 40 => ("DuneRoadModel", "newPrice", "[I", true)
  | 41 => ("DuneRoadModel", "newTownCell", "[I", true)
  | 42 => ("DuneRoadModel", "newDoor", "[I", true)
  | 43 => ("DuneRoadModel", "newRent", "[I", true)
  | 44 => ("DuneRoadModel", "newShipCell", "[I", true)
  | 45 => ("DuneRoadModel", "newTank", "[I", true)
  | 46 => ("DuneRoadModel", "newClimb", "[I", true)
  | 47 => ("DuneRoadModel", "taped", "I", false)
  | 48 => ("DuneRoadModel", "p", "I", false)
  | 49 => ("DuneRoadModel", "fault", "I", false)
  | 50 => ("DuneRoadModel", "slot", "I", false)
  | 51 => ("DuneRoadModel", "rules", "I", false)
  | 52 => ("DuneRoadModel", "entries", "I", false)
  | 53 => ("DuneRoadModel", "deep", "I", false)
  | 54 => ("DuneRoadModel", "counted", "I", false)
  | 55 => ("DuneRoadModel", "opened", "I", false)
  | 56 => ("DuneRoadModel", "words", "I", false)
  | 57 => ("DuneRoadModel", "isStormTold", "Z", false)
  | 58 => ("DuneRoadModel", "tape", "[B", true)
  | 59 => ("DuneRoadModel", "sort", "[I", true)
  | 60 => ("DuneRoadModel", "number", "[I", true)
  | 61 => ("DuneRoadModel", "clauses", "[I", true)
  | 62 => ("DuneRoadModel", "sumAt", "[I", true)
  | 63 => ("DuneRoadModel", "testAt", "[I", true)
  | 64 => ("DuneRoadModel", "endAt", "[I", true)
  | 65 => ("DuneRoadModel", "open", "[I", true)
  | 66 => ("DuneRoadModel", "isGo", "[Z", true)
  | 67 => ("DuneRoadModel", "asked", "[J", true)
  | 68 => ("DuneRoadModel", "stack", "[J", true)
  | 69 => ("DuneRoadModel", "past", "[I", true)
  | 70 => ("DuneRoadModel", "ring", "[I", true)
  | 71 => ("DuneRoadModel", "pastMany", "I", false)
  | 72 => ("DuneRoadModel", "at", "I", false)
  | 73 => ("DuneRoadModel", "takesBack", "Z", false)
  | 74 => ("DuneRoadModel", "coins", "[I", true)
  | 75 => ("DuneRoadModel", "nextCoins", "[I", true)
  | 76 => ("DuneRoadModel", "high", "[I", true)
  | 77 => ("DuneRoadModel", "highNext", "[I", true)
  | 78 => ("DuneRoadModel", "wellOf", "[I", true)
  | 79 => ("DuneRoadModel", "foundDay", "I", false)
  | 80 => ("DuneRoadModel", "foundCoins", "I", false)
  | 81 => ("DuneRoadModel", "best", "[I", true)
  | 82 => ("DuneRoadModel", "rowNow", "[I", true)
  | 83 => ("DuneRoadModel", "bestRow", "[I", true)
  | 84 => ("DuneRoadModel", "images", "[I", true)
  | 85 => ("DuneRoadModel", "isMade", "[Z", true)
  | 86 => ("DuneRoadModel", "imageAt", "I", false)
  | _ => ("DuneRoadModel", "goesBack", "Z", false)
def tyX12 : Nat → FieldType := fun k => match k with
  | 0 => .int
  | 1 => .array .int
  | 2 => .array .int
  | 3 => .array .int
  | 4 => .array .int
  | 5 => .array .int
  | 6 => .array .int
  | 7 => .array .int
  | 8 => .array .int
  | 9 => .array .int
  | 10 => .array .int
  | 11 => .array .int
  | 12 => .array .int
  | 13 => .array .int
  | 14 => .array .int
  | 15 => .array .int
  | 16 => .array .int
  | 17 => .array .int
  | 18 => .array .int
  | 19 => .array .int
  | 20 => .array .int
  | 21 => .array .int
  | 22 => .array .int
  | 23 => .array .int
  | 24 => .array .int
  | 25 => .array .int
  | 26 => .array .int
  | 27 => .array .int
  | 28 => .array .int
  | 29 => .array .int
  | 30 => .array .int
  | 31 => .array .int
  | 32 => .array .int
  | 33 => .array .int
  | 34 => .array .int
  | 35 => .array .int
  | 36 => .array .int
  | 37 => .array .int
  | 38 => .array .int
  | 39 => .array .int
  | 40 => .array .int
  | 41 => .array .int
  | 42 => .array .int
  | 43 => .array .int
  | 44 => .array .int
  | 45 => .array .int
  | 46 => .array .int
  | 47 => .int
  | 48 => .int
  | 49 => .int
  | 50 => .int
  | 51 => .int
  | 52 => .int
  | 53 => .int
  | 54 => .int
  | 55 => .int
  | 56 => .int
  | 57 => .boolean
  | 58 => .array .byte
  | 59 => .array .int
  | 60 => .array .int
  | 61 => .array .int
  | 62 => .array .int
  | 63 => .array .int
  | 64 => .array .int
  | 65 => .array .int
  | 66 => .array .boolean
  | 67 => .array .long
  | 68 => .array .long
  | 69 => .array .int
  | 70 => .array .int
  | 71 => .int
  | 72 => .int
  | 73 => .boolean
  | 74 => .array .int
  | 75 => .array .int
  | 76 => .array .int
  | 77 => .array .int
  | 78 => .array .int
  | 79 => .int
  | 80 => .int
  | 81 => .array .int
  | 82 => .array .int
  | 83 => .array .int
  | 84 => .array .int
  | 85 => .array .boolean
  | 86 => .int
  | _ => .boolean
theorem nmX12 : ∀ a, a < 88 → ∀ b, b < 88 → a ≠ b → (TX12 a).2.1 ≠ (TX12 b).2.1 := by decide +kernel
theorem tyX12_ok : ∀ k, k < 88 → parseFieldDescriptor (TX12 k).2.2.1 = some (tyX12 k) := by decide +kernel
abbrev cX12_init : ByteArray := prog_14_method_1_code
def yX12_init : MethodName := ⟨RX12, "<init>", "()V"⟩
abbrev cX12_in : ByteArray := prog_14_method_3_code
def yX12_in : MethodName := ⟨RX12, "in", "(JJJ)Z"⟩
abbrev cX12_bits : ByteArray := prog_14_method_4_code
def yX12_bits : MethodName := ⟨RX12, "bits", "(I)I"⟩
abbrev cX12_divisor : ByteArray := prog_14_method_5_code
def yX12_divisor : MethodName := ⟨RX12, "divisor", "(JJ)J"⟩
abbrev cX12_isSea : ByteArray := prog_14_method_6_code
def yX12_isSea : MethodName := ⟨RX12, "isSea", "()Z"⟩
abbrev cX12_isCell : ByteArray := prog_14_method_7_code
def yX12_isCell : MethodName := ⟨RX12, "isCell", "(I)Z"⟩
abbrev cX12_isTrain : ByteArray := prog_14_method_8_code
def yX12_isTrain : MethodName := ⟨RX12, "isTrain", "(I)Z"⟩
abbrev cX12_isShip : ByteArray := prog_14_method_9_code
def yX12_isShip : MethodName := ⟨RX12, "isShip", "(I)Z"⟩
abbrev cX12_isPlace : ByteArray := prog_14_method_10_code
def yX12_isPlace : MethodName := ⟨RX12, "isPlace", "(I)Z"⟩
abbrev cX12_isDay : ByteArray := prog_14_method_11_code
def yX12_isDay : MethodName := ⟨RX12, "isDay", "(I)Z"⟩
abbrev cX12_feed : ByteArray := prog_14_method_12_code
def yX12_feed : MethodName := ⟨RX12, "feed", "(IIIII)I"⟩
abbrev cX12_put : ByteArray := prog_14_method_13_code
def yX12_put : MethodName := ⟨RX12, "put", "(I)V"⟩
abbrev cX12_end : ByteArray := prog_14_method_14_code
def yX12_end : MethodName := ⟨RX12, "end", "(I)I"⟩
abbrev cX12_wordOf : ByteArray := prog_14_method_15_code
def yX12_wordOf : MethodName := ⟨RX12, "wordOf", "(I)Ljava/lang/String;"⟩
abbrev cX12_fails : ByteArray := prog_14_method_16_code
def yX12_fails : MethodName := ⟨RX12, "fails", "(II)V"⟩
abbrev cX12_sign : ByteArray := prog_14_method_17_code
def yX12_sign : MethodName := ⟨RX12, "sign", "()I"⟩
abbrev cX12_blanks : ByteArray := prog_14_method_18_code
def yX12_blanks : MethodName := ⟨RX12, "blanks", "()V"⟩
abbrev cX12_isDigit : ByteArray := prog_14_method_19_code
def yX12_isDigit : MethodName := ⟨RX12, "isDigit", "()Z"⟩
abbrev cX12_stood : ByteArray := prog_14_method_20_code
def yX12_stood : MethodName := ⟨RX12, "stood", "(Ljava/lang/String;)Z"⟩
abbrev cX12_takes : ByteArray := prog_14_method_21_code
def yX12_takes : MethodName := ⟨RX12, "takes", "(Ljava/lang/String;)Z"⟩
abbrev cX12_entry : ByteArray := prog_14_method_22_code
def yX12_entry : MethodName := ⟨RX12, "entry", "(II)V"⟩
abbrev cX12_isCounted : ByteArray := prog_14_method_23_code
def yX12_isCounted : MethodName := ⟨RX12, "isCounted", "(I)V"⟩
abbrev cX12_digits : ByteArray := prog_14_method_24_code
def yX12_digits : MethodName := ⟨RX12, "digits", "(I)I"⟩
abbrev cX12_value : ByteArray := prog_14_method_25_code
def yX12_value : MethodName := ⟨RX12, "value", "()V"⟩
abbrev cX12_term : ByteArray := prog_14_method_26_code
def yX12_term : MethodName := ⟨RX12, "term", "()V"⟩
abbrev cX12_sum : ByteArray := prog_14_method_27_code
def yX12_sum : MethodName := ⟨RX12, "sum", "()V"⟩
abbrev cX12_compared : ByteArray := prog_14_method_28_code
def yX12_compared : MethodName := ⟨RX12, "compared", "()V"⟩
abbrev cX12_top : ByteArray := prog_14_method_29_code
def yX12_top : MethodName := ⟨RX12, "top", "()I"⟩
abbrev cX12_opens : ByteArray := prog_14_method_30_code
def yX12_opens : MethodName := ⟨RX12, "opens", "(I)V"⟩
abbrev cX12_answers : ByteArray := prog_14_method_31_code
def yX12_answers : MethodName := ⟨RX12, "answers", "(I)V"⟩
abbrev cX12_fact : ByteArray := prog_14_method_32_code
def yX12_fact : MethodName := ⟨RX12, "fact", "()Z"⟩
abbrev cX12_test : ByteArray := prog_14_method_33_code
def yX12_test : MethodName := ⟨RX12, "test", "()V"⟩
abbrev cX12_amount : ByteArray := prog_14_method_34_code
def yX12_amount : MethodName := ⟨RX12, "amount", "(II)I"⟩
abbrev cX12_seaWord : ByteArray := prog_14_method_35_code
def yX12_seaWord : MethodName := ⟨RX12, "seaWord", "(I)Ljava/lang/String;"⟩
abbrev cX12_readsTrain : ByteArray := prog_14_method_36_code
def yX12_readsTrain : MethodName := ⟨RX12, "readsTrain", "()V"⟩
abbrev cX12_cellRead : ByteArray := prog_14_method_37_code
def yX12_cellRead : MethodName := ⟨RX12, "cellRead", "()I"⟩
abbrev cX12_seaPart : ByteArray := prog_14_method_38_code
def yX12_seaPart : MethodName := ⟨RX12, "seaPart", "(I)V"⟩
abbrev cX12_isFull : ByteArray := prog_14_method_39_code
def yX12_isFull : MethodName := ⟨RX12, "isFull", "(II)Z"⟩
abbrev cX12_seaClause : ByteArray := prog_14_method_40_code
def yX12_seaClause : MethodName := ⟨RX12, "seaClause", "(I)V"⟩
abbrev cX12_copies : ByteArray := prog_14_method_41_code
def yX12_copies : MethodName := ⟨RX12, "copies", "([I[I)V"⟩
abbrev cX12_goesOn : ByteArray := prog_14_method_42_code
def yX12_goesOn : MethodName := ⟨RX12, "goesOn", "()Z"⟩
abbrev cX12_starts : ByteArray := prog_14_method_43_code
def yX12_starts : MethodName := ⟨RX12, "starts", "()V"⟩
abbrev cX12_readsAll : ByteArray := prog_14_method_44_code
def yX12_readsAll : MethodName := ⟨RX12, "readsAll", "()V"⟩
abbrev cX12_sea : ByteArray := prog_14_method_45_code
def yX12_sea : MethodName := ⟨RX12, "sea", "()I"⟩
abbrev cX12_ruleClause : ByteArray := prog_14_method_46_code
def yX12_ruleClause : MethodName := ⟨RX12, "ruleClause", "(I)V"⟩
abbrev cX12_rule : ByteArray := prog_14_method_47_code
def yX12_rule : MethodName := ⟨RX12, "rule", "()I"⟩
abbrev cX12_holds : ByteArray := prog_14_method_48_code
def yX12_holds : MethodName := ⟨RX12, "holds", "(II)Z"⟩
abbrev cX12_fillsBy : ByteArray := prog_14_method_49_code
def yX12_fillsBy : MethodName := ⟨RX12, "fillsBy", "(I)Z"⟩
abbrev cX12_goBy : ByteArray := prog_14_method_50_code
def yX12_goBy : MethodName := ⟨RX12, "goBy", "(I)J"⟩
abbrev cX12_truth : ByteArray := prog_14_method_51_code
def yX12_truth : MethodName := ⟨RX12, "truth", "(Z)J"⟩
abbrev cX12_both : ByteArray := prog_14_method_52_code
def yX12_both : MethodName := ⟨RX12, "both", "(IJJ)J"⟩
abbrev cX12_answer : ByteArray := prog_14_method_53_code
def yX12_answer : MethodName := ⟨RX12, "answer", "(III)J"⟩
abbrev cX12_rest : ByteArray := prog_14_method_54_code
def yX12_rest : MethodName := ⟨RX12, "rest", "(II)I"⟩
abbrev cX12_trainAt : ByteArray := prog_14_method_55_code
def yX12_trainAt : MethodName := ⟨RX12, "trainAt", "(IIIII)I"⟩
abbrev cX12_isFenced : ByteArray := prog_14_method_56_code
def yX12_isFenced : MethodName := ⟨RX12, "isFenced", "(II)Z"⟩
abbrev cX12_restOf : ByteArray := prog_14_method_57_code
def yX12_restOf : MethodName := ⟨RX12, "restOf", "(IIIZ)I"⟩
abbrev cX12_heightOf : ByteArray := prog_14_method_58_code
def yX12_heightOf : MethodName := ⟨RX12, "heightOf", "(IIIZ)I"⟩
abbrev cX12_heightNow : ByteArray := prog_14_method_59_code
def yX12_heightNow : MethodName := ⟨RX12, "heightNow", "(II)I"⟩
abbrev cX12_cellOf : ByteArray := prog_14_method_60_code
def yX12_cellOf : MethodName := ⟨RX12, "cellOf", "(I)I"⟩
abbrev cX12_doorOf : ByteArray := prog_14_method_61_code
def yX12_doorOf : MethodName := ⟨RX12, "doorOf", "(I)I"⟩
abbrev cX12_isOpen : ByteArray := prog_14_method_62_code
def yX12_isOpen : MethodName := ⟨RX12, "isOpen", "(IIIZ)Z"⟩
abbrev cX12_wellAt : ByteArray := prog_14_method_63_code
def yX12_wellAt : MethodName := ⟨RX12, "wellAt", "(II)I"⟩
abbrev cX12_height : ByteArray := prog_14_method_64_code
def yX12_height : MethodName := ⟨RX12, "height", "(II)I"⟩
abbrev cX12_greatestOf : ByteArray := prog_14_method_65_code
def yX12_greatestOf : MethodName := ⟨RX12, "greatestOf", "(I)I"⟩
abbrev cX12_train : ByteArray := prog_14_method_66_code
def yX12_train : MethodName := ⟨RX12, "train", "(II)I"⟩
abbrev cX12_place : ByteArray := prog_14_method_67_code
def yX12_place : MethodName := ⟨RX12, "place", "(II)I"⟩
abbrev cX12_ship : ByteArray := prog_14_method_68_code
def yX12_ship : MethodName := ⟨RX12, "ship", "(II)I"⟩
abbrev cX12_moves : ByteArray := prog_14_method_69_code
def yX12_moves : MethodName := ⟨RX12, "moves", "(I)I"⟩
abbrev cX12_movesAll : ByteArray := prog_14_method_70_code
def yX12_movesAll : MethodName := ⟨RX12, "movesAll", "(IZ)V"⟩
abbrev cX12_keepsAct : ByteArray := prog_14_method_71_code
def yX12_keepsAct : MethodName := ⟨RX12, "keepsAct", "()V"⟩
abbrev cX12_undo : ByteArray := prog_14_method_72_code
def yX12_undo : MethodName := ⟨RX12, "undo", "()I"⟩
abbrev cX12_canGo : ByteArray := prog_14_method_73_code
def yX12_canGo : MethodName := ⟨RX12, "canGo", "(II)Z"⟩
abbrev cX12_day : ByteArray := prog_14_method_74_code
def yX12_day : MethodName := ⟨RX12, "day", "()V"⟩
abbrev cX12_sail : ByteArray := prog_14_method_75_code
def yX12_sail : MethodName := ⟨RX12, "sail", "(II)I"⟩
abbrev cX12_fillCost : ByteArray := prog_14_method_76_code
def yX12_fillCost : MethodName := ⟨RX12, "fillCost", "(I)I"⟩
abbrev cX12_fills : ByteArray := prog_14_method_77_code
def yX12_fills : MethodName := ⟨RX12, "fills", "(II)V"⟩
abbrev cX12_fill : ByteArray := prog_14_method_78_code
def yX12_fill : MethodName := ⟨RX12, "fill", "(I)I"⟩
abbrev cX12_fence : ByteArray := prog_14_method_79_code
def yX12_fence : MethodName := ⟨RX12, "fence", "(IZ)Z"⟩
abbrev cX12_lasting : ByteArray := prog_14_method_80_code
def yX12_lasting : MethodName := ⟨RX12, "lasting", "()I"⟩
abbrev cX12_dropsOver : ByteArray := prog_14_method_81_code
def yX12_dropsOver : MethodName := ⟨RX12, "dropsOver", "()V"⟩
abbrev cX12_dig : ByteArray := prog_14_method_82_code
def yX12_dig : MethodName := ⟨RX12, "dig", "(III)I"⟩
abbrev cX12_asks : ByteArray := prog_14_method_83_code
def yX12_asks : MethodName := ⟨RX12, "asks", "(I)V"⟩
abbrev cX12_dayBy : ByteArray := prog_14_method_84_code
def yX12_dayBy : MethodName := ⟨RX12, "dayBy", "(I)V"⟩
abbrev cX12_isRule : ByteArray := prog_14_method_85_code
def yX12_isRule : MethodName := ⟨RX12, "isRule", "(I)Z"⟩
abbrev cX12_run : ByteArray := prog_14_method_86_code
def yX12_run : MethodName := ⟨RX12, "run", "(II)I"⟩
abbrev cX12_roundOf : ByteArray := prog_14_method_87_code
def yX12_roundOf : MethodName := ⟨RX12, "roundOf", "()I"⟩
abbrev cX12_round : ByteArray := prog_14_method_88_code
def yX12_round : MethodName := ⟨RX12, "round", "()I"⟩
abbrev cX12_again : ByteArray := prog_14_method_89_code
def yX12_again : MethodName := ⟨RX12, "again", "(II)I"⟩
abbrev cX12_share : ByteArray := prog_14_method_90_code
def yX12_share : MethodName := ⟨RX12, "share", "(II)I"⟩
abbrev cX12_isCrest : ByteArray := prog_14_method_91_code
def yX12_isCrest : MethodName := ⟨RX12, "isCrest", "(II)Z"⟩
abbrev cX12_crest : ByteArray := prog_14_method_92_code
def yX12_crest : MethodName := ⟨RX12, "crest", "(II)I"⟩
abbrev cX12_laysHeights : ByteArray := prog_14_method_93_code
def yX12_laysHeights : MethodName := ⟨RX12, "laysHeights", "(I)V"⟩
abbrev cX12_comes : ByteArray := prog_14_method_94_code
def yX12_comes : MethodName := ⟨RX12, "comes", "(III)V"⟩
abbrev cX12_leaves : ByteArray := prog_14_method_95_code
def yX12_leaves : MethodName := ⟨RX12, "leaves", "(IIIIII)V"⟩
abbrev cX12_spreads : ByteArray := prog_14_method_96_code
def yX12_spreads : MethodName := ⟨RX12, "spreads", "(IZZII)V"⟩
abbrev cX12_leastAt : ByteArray := prog_14_method_97_code
def yX12_leastAt : MethodName := ⟨RX12, "leastAt", "(I)I"⟩
abbrev cX12_sails : ByteArray := prog_14_method_98_code
def yX12_sails : MethodName := ⟨RX12, "sails", "(IIIZ)V"⟩
abbrev cX12_findsVoyage : ByteArray := prog_14_method_99_code
def yX12_findsVoyage : MethodName := ⟨RX12, "findsVoyage", "(II)V"⟩
abbrev cX12_voyage : ByteArray := prog_14_method_100_code
def yX12_voyage : MethodName := ⟨RX12, "voyage", "(III)I"⟩
abbrev cX12_placesAll : ByteArray := prog_14_method_101_code
def yX12_placesAll : MethodName := ⟨RX12, "placesAll", "()I"⟩
abbrev cX12_areOpen : ByteArray := prog_14_method_102_code
def yX12_areOpen : MethodName := ⟨RX12, "areOpen", "(IIII)Z"⟩
abbrev cX12_openDays : ByteArray := prog_14_method_103_code
def yX12_openDays : MethodName := ⟨RX12, "openDays", "(IIII)I"⟩
abbrev cX12_whose : ByteArray := prog_14_method_104_code
def yX12_whose : MethodName := ⟨RX12, "whose", "(III)I"⟩
abbrev cX12_fences : ByteArray := prog_14_method_105_code
def yX12_fences : MethodName := ⟨RX12, "fences", "(IIII)I"⟩
abbrev cX12_sight : ByteArray := prog_14_method_106_code
def yX12_sight : MethodName := ⟨RX12, "sight", "(IZ)I"⟩
abbrev cX12_areSightsSo : ByteArray := prog_14_method_107_code
def yX12_areSightsSo : MethodName := ⟨RX12, "areSightsSo", "(II)Z"⟩
abbrev cX12_wreckCells : ByteArray := prog_14_method_108_code
def yX12_wreckCells : MethodName := ⟨RX12, "wreckCells", "(I)I"⟩
abbrev cX12_wreck : ByteArray := prog_14_method_109_code
def yX12_wreck : MethodName := ⟨RX12, "wreck", "(I)I"⟩
abbrev cX12_masts : ByteArray := prog_14_method_110_code
def yX12_masts : MethodName := ⟨RX12, "masts", "(I)I"⟩
abbrev cX12_showsIn : ByteArray := prog_14_method_111_code
def yX12_showsIn : MethodName := ⟨RX12, "showsIn", "(III)Z"⟩
abbrev cX12_shows : ByteArray := prog_14_method_112_code
def yX12_shows : MethodName := ⟨RX12, "shows", "(II)I"⟩
abbrev cX12_told : ByteArray := prog_14_method_113_code
def yX12_told : MethodName := ⟨RX12, "told", "(III)I"⟩
abbrev cX12_isWind : ByteArray := prog_14_method_114_code
def yX12_isWind : MethodName := ⟨RX12, "isWind", "(III)Z"⟩
abbrev cX12_winds : ByteArray := prog_14_method_115_code
def yX12_winds : MethodName := ⟨RX12, "winds", "(II)I"⟩
abbrev cX12_rent : ByteArray := prog_14_method_116_code
def yX12_rent : MethodName := ⟨RX12, "rent", "(III)I"⟩
abbrev cX12_fleet : ByteArray := prog_14_method_117_code
def yX12_fleet : MethodName := ⟨RX12, "fleet", "(III)I"⟩
abbrev cX12_duesOf : ByteArray := prog_14_method_118_code
def yX12_duesOf : MethodName := ⟨RX12, "duesOf", "(I)I"⟩
abbrev cX12_order : ByteArray := prog_14_method_119_code
def yX12_order : MethodName := ⟨RX12, "order", "(I)I"⟩
abbrev cX12_powerOf : ByteArray := prog_14_method_120_code
def yX12_powerOf : MethodName := ⟨RX12, "powerOf", "(JI)J"⟩
abbrev cX12_storms : ByteArray := prog_14_method_121_code
def yX12_storms : MethodName := ⟨RX12, "storms", "(III)J"⟩
abbrev cX12_seed : ByteArray := prog_14_method_122_code
def yX12_seed : MethodName := ⟨RX12, "seed", "(I)I"⟩
abbrev cX12_draws : ByteArray := prog_14_method_123_code
def yX12_draws : MethodName := ⟨RX12, "draws", "(I)I"⟩
abbrev cX12_paidAll : ByteArray := prog_14_method_124_code
def yX12_paidAll : MethodName := ⟨RX12, "paidAll", "()I"⟩
abbrev cX12_dryAll : ByteArray := prog_14_method_125_code
def yX12_dryAll : MethodName := ⟨RX12, "dryAll", "()I"⟩
abbrev cX12_drawnDays : ByteArray := prog_14_method_126_code
def yX12_drawnDays : MethodName := ⟨RX12, "drawnDays", "(II)I"⟩
abbrev cX12_drawn : ByteArray := prog_14_method_127_code
def yX12_drawn : MethodName := ⟨RX12, "drawn", "(IIII)I"⟩
abbrev cX12_count : ByteArray := prog_14_method_128_code
def yX12_count : MethodName := ⟨RX12, "count", "(I)I"⟩
abbrev cX12_carry : ByteArray := prog_14_method_129_code
def yX12_carry : MethodName := ⟨RX12, "carry", "([I)V"⟩
abbrev cX12_carriesAll : ByteArray := prog_14_method_130_code
def yX12_carriesAll : MethodName := ⟨RX12, "carriesAll", "(IZ)V"⟩
abbrev cX12_image : ByteArray := prog_14_method_131_code
def yX12_image : MethodName := ⟨RX12, "image", "(I)I"⟩
abbrev cX12_back : ByteArray := prog_14_method_132_code
def yX12_back : MethodName := ⟨RX12, "back", "(I)I"⟩
def RJ6 : String := "java/lang/Integer"
abbrev cJ6_bitCount_0f7a4 : ByteArray := prog_15_method_49_code
def yJ6_bitCount_0f7a4 : MethodName := ⟨RJ6, "bitCount", "(I)I"⟩
def RJ9 : String := "java/lang/Math"
abbrev cJ9_max_7cf53 : ByteArray := prog_16_method_65_code
def yJ9_max_7cf53 : MethodName := ⟨RJ9, "max", "(II)I"⟩
abbrev cJ9_min_7cf53 : ByteArray := prog_16_method_69_code
def yJ9_min_7cf53 : MethodName := ⟨RJ9, "min", "(II)I"⟩
def RJ0 : String := "java/lang/String"
abbrev cJ0_length_8abf5 : ByteArray := prog_17_method_54_code
def yJ0_length_8abf5 : MethodName := ⟨RJ0, "length", "()I"⟩
abbrev cJ0_charAt_5068e : ByteArray := prog_17_method_56_code
def yJ0_charAt_5068e : MethodName := ⟨RJ0, "charAt", "(I)C"⟩
abbrev cJ0_coder_7d493 : ByteArray := prog_17_method_152_code
def yJ0_coder_7d493 : MethodName := ⟨RJ0, "coder", "()B"⟩
abbrev cJ0_isLatin1_aae02 : ByteArray := prog_17_method_154_code
def yJ0_isLatin1_aae02 : MethodName := ⟨RJ0, "isLatin1", "()Z"⟩
abbrev cJ0_checkIndex_df160 : ByteArray := prog_17_method_155_code
def yJ0_checkIndex_df160 : MethodName := ⟨RJ0, "checkIndex", "(II)V"⟩
def RJ1 : String := "java/lang/StringLatin1"
abbrev cJ1_charAt_3b067 : ByteArray := prog_18_method_2_code
def yJ1_charAt_3b067 : MethodName := ⟨RJ1, "charAt", "([BI)C"⟩
def RJ2 : String := "java/lang/StringUTF16"
abbrev cJ2_getChar_3b067 : ByteArray := prog_19_method_5_code
def yJ2_getChar_3b067 : MethodName := ⟨RJ2, "getChar", "([BI)C"⟩
abbrev cJ2_length_9d52b : ByteArray := prog_19_method_6_code
def yJ2_length_9d52b : MethodName := ⟨RJ2, "length", "([B)I"⟩
abbrev cJ2_charAt_3b067 : ByteArray := prog_19_method_83_code
def yJ2_charAt_3b067 : MethodName := ⟨RJ2, "charAt", "([BI)C"⟩
abbrev cJ2_checkIndex_2214a : ByteArray := prog_19_method_91_code
def yJ2_checkIndex_2214a : MethodName := ⟨RJ2, "checkIndex", "(I[B)V"⟩
def RJ10 : String := "java/lang/System"
def RJ7 : String := "java/util/Arrays"
abbrev cJ7_fill_53178 : ByteArray := prog_21_method_103_code
def yJ7_fill_53178 : MethodName := ⟨RJ7, "fill", "([II)V"⟩
def RJ3 : String := "jdk/internal/util/Preconditions"
abbrev cJ3_checkIndex_8e157 : ByteArray := prog_22_method_11_code
def yJ3_checkIndex_8e157 : MethodName := ⟨RJ3, "checkIndex", "(IILjava/util/function/BiFunction;)I"⟩
