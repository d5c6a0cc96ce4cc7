section
-- ===== PART A: goes FIRST, ahead of the names: the tables' words, and 'selects' of the private methods out of them =====
/-- a private method of a class that the tables say can be made, by its rows of tables_1 -/
def lw_okq (q : MethodName × Nat) : Prop := (q.1.cls ≠ "java/lang/invoke/MethodHandle" ∧ q.1.cls ≠ "java/lang/invoke/VarHandle") ∧ Cond.instantiable q.1.cls q.2 ∈ tables_1 ∧ Cond.privateMethod q.1 ∈ tables_1 ∧ Cond.instanceMethod q.1 ∈ tables_1
theorem lw_p0 : lw_okq (⟨"ShipsThatMeet", "refusalOfBytes", "(I)I"⟩, 8) := ⟨⟨by decide +kernel, by decide +kernel⟩, List.mem_of_getElem? (i := 22) (by decide +kernel), List.mem_of_getElem? (i := 162) (by decide +kernel), List.mem_of_getElem? (i := 163) (by decide +kernel)⟩
theorem lw_p1 : lw_okq (⟨"ShipsThatMeet", "refusalOfRow", "(I)I"⟩, 8) := ⟨⟨by decide +kernel, by decide +kernel⟩, List.mem_of_getElem? (i := 22) (by decide +kernel), List.mem_of_getElem? (i := 166) (by decide +kernel), List.mem_of_getElem? (i := 167) (by decide +kernel)⟩
theorem lw_p2 : lw_okq (⟨"ShipsThatMeet", "refusalOfCaptain", "(I)I"⟩, 8) := ⟨⟨by decide +kernel, by decide +kernel⟩, List.mem_of_getElem? (i := 22) (by decide +kernel), List.mem_of_getElem? (i := 392) (by decide +kernel), List.mem_of_getElem? (i := 393) (by decide +kernel)⟩
theorem lw_p3 : lw_okq (⟨"ShipsThatMeet", "refusalOfManAndMeetings", "(II)I"⟩, 8) := ⟨⟨by decide +kernel, by decide +kernel⟩, List.mem_of_getElem? (i := 22) (by decide +kernel), List.mem_of_getElem? (i := 406) (by decide +kernel), List.mem_of_getElem? (i := 407) (by decide +kernel)⟩
theorem lw_p4 : lw_okq (⟨"ShipsThatMeet", "refusalOfMeetings", "(I)I"⟩, 8) := ⟨⟨by decide +kernel, by decide +kernel⟩, List.mem_of_getElem? (i := 22) (by decide +kernel), List.mem_of_getElem? (i := 410) (by decide +kernel), List.mem_of_getElem? (i := 411) (by decide +kernel)⟩
theorem lw_p5 : lw_okq (⟨"ShipsThatMeet", "choicesBehind", "(III)I"⟩, 8) := ⟨⟨by decide +kernel, by decide +kernel⟩, List.mem_of_getElem? (i := 22) (by decide +kernel), List.mem_of_getElem? (i := 438) (by decide +kernel), List.mem_of_getElem? (i := 439) (by decide +kernel)⟩
theorem lw_p6 : lw_okq (⟨"ShipsThatMeet", "fillChances", "(ILShipsThatMeet$Shelf;)J"⟩, 8) := ⟨⟨by decide +kernel, by decide +kernel⟩, List.mem_of_getElem? (i := 22) (by decide +kernel), List.mem_of_getElem? (i := 458) (by decide +kernel), List.mem_of_getElem? (i := 459) (by decide +kernel)⟩
theorem lw_p7 : lw_okq (⟨"ShipsThatMeet", "spreadChances", "(II)J"⟩, 8) := ⟨⟨by decide +kernel, by decide +kernel⟩, List.mem_of_getElem? (i := 22) (by decide +kernel), List.mem_of_getElem? (i := 462) (by decide +kernel), List.mem_of_getElem? (i := 463) (by decide +kernel)⟩
theorem lw_p8 : lw_okq (⟨"ShipsThatMeet", "fewestMeetings", "(I)I"⟩, 8) := ⟨⟨by decide +kernel, by decide +kernel⟩, List.mem_of_getElem? (i := 22) (by decide +kernel), List.mem_of_getElem? (i := 473) (by decide +kernel), List.mem_of_getElem? (i := 474) (by decide +kernel)⟩
theorem lw_p9 : lw_okq (⟨"ShipsThatMeet", "tellsOfEachMan", "(LShipsThatMeet$Shelf;)Z"⟩, 8) := ⟨⟨by decide +kernel, by decide +kernel⟩, List.mem_of_getElem? (i := 22) (by decide +kernel), List.mem_of_getElem? (i := 521) (by decide +kernel), List.mem_of_getElem? (i := 522) (by decide +kernel)⟩
theorem lw_p10 : lw_okq (⟨"java/lang/Throwable", "fillInStackTrace", "(I)Ljava/lang/Throwable;"⟩, 6) := ⟨⟨by decide +kernel, by decide +kernel⟩, List.mem_of_getElem? (i := 754) (by decide +kernel), List.mem_of_getElem? (i := 752) (by decide +kernel), List.mem_of_getElem? (i := 753) (by decide +kernel)⟩
theorem lw_p11 : lw_okq (⟨"ShipsThatMeetModel", "wrongRow", "(II)I"⟩, 24) := ⟨⟨by decide +kernel, by decide +kernel⟩, List.mem_of_getElem? (i := 832) (by decide +kernel), List.mem_of_getElem? (i := 918) (by decide +kernel), List.mem_of_getElem? (i := 919) (by decide +kernel)⟩
theorem lw_p12 : lw_okq (⟨"ShipsThatMeetModel", "readsStatement", "()Z"⟩, 24) := ⟨⟨by decide +kernel, by decide +kernel⟩, List.mem_of_getElem? (i := 832) (by decide +kernel), List.mem_of_getElem? (i := 929) (by decide +kernel), List.mem_of_getElem? (i := 930) (by decide +kernel)⟩
theorem lw_p13 : lw_okq (⟨"ShipsThatMeetModel", "here", "()I"⟩, 24) := ⟨⟨by decide +kernel, by decide +kernel⟩, List.mem_of_getElem? (i := 832) (by decide +kernel), List.mem_of_getElem? (i := 933) (by decide +kernel), List.mem_of_getElem? (i := 934) (by decide +kernel)⟩
theorem lw_p14 : lw_okq (⟨"ShipsThatMeetModel", "readsDigits", "(I)Z"⟩, 24) := ⟨⟨by decide +kernel, by decide +kernel⟩, List.mem_of_getElem? (i := 832) (by decide +kernel), List.mem_of_getElem? (i := 937) (by decide +kernel), List.mem_of_getElem? (i := 938) (by decide +kernel)⟩
theorem lw_p15 : lw_okq (⟨"ShipsThatMeetModel", "comes", "(I)Z"⟩, 24) := ⟨⟨by decide +kernel, by decide +kernel⟩, List.mem_of_getElem? (i := 832) (by decide +kernel), List.mem_of_getElem? (i := 946) (by decide +kernel), List.mem_of_getElem? (i := 947) (by decide +kernel)⟩
def lw_privs_1 : List (MethodName × Nat) := [(⟨"ShipsThatMeet", "refusalOfBytes", "(I)I"⟩, 8), (⟨"ShipsThatMeet", "refusalOfRow", "(I)I"⟩, 8), (⟨"ShipsThatMeet", "refusalOfCaptain", "(I)I"⟩, 8), (⟨"ShipsThatMeet", "refusalOfManAndMeetings", "(II)I"⟩, 8), (⟨"ShipsThatMeet", "refusalOfMeetings", "(I)I"⟩, 8), (⟨"ShipsThatMeet", "choicesBehind", "(III)I"⟩, 8), (⟨"ShipsThatMeet", "fillChances", "(ILShipsThatMeet$Shelf;)J"⟩, 8), (⟨"ShipsThatMeet", "spreadChances", "(II)J"⟩, 8), (⟨"ShipsThatMeet", "fewestMeetings", "(I)I"⟩, 8), (⟨"ShipsThatMeet", "tellsOfEachMan", "(LShipsThatMeet$Shelf;)Z"⟩, 8), (⟨"java/lang/Throwable", "fillInStackTrace", "(I)Ljava/lang/Throwable;"⟩, 6), (⟨"ShipsThatMeetModel", "wrongRow", "(II)I"⟩, 24), (⟨"ShipsThatMeetModel", "readsStatement", "()Z"⟩, 24), (⟨"ShipsThatMeetModel", "here", "()I"⟩, 24), (⟨"ShipsThatMeetModel", "readsDigits", "(I)Z"⟩, 24), (⟨"ShipsThatMeetModel", "comes", "(I)Z"⟩, 24)]
theorem lw_r1 : ∀ q ∈ lw_privs_1, lw_okq q := List.forall_mem_cons.mpr ⟨lw_p0, List.forall_mem_cons.mpr ⟨lw_p1, List.forall_mem_cons.mpr ⟨lw_p2, List.forall_mem_cons.mpr ⟨lw_p3, List.forall_mem_cons.mpr ⟨lw_p4, List.forall_mem_cons.mpr ⟨lw_p5, List.forall_mem_cons.mpr ⟨lw_p6, List.forall_mem_cons.mpr ⟨lw_p7, List.forall_mem_cons.mpr ⟨lw_p8, List.forall_mem_cons.mpr ⟨lw_p9, List.forall_mem_cons.mpr ⟨lw_p10, List.forall_mem_cons.mpr ⟨lw_p11, List.forall_mem_cons.mpr ⟨lw_p12, List.forall_mem_cons.mpr ⟨lw_p13, List.forall_mem_cons.mpr ⟨lw_p14, List.forall_mem_cons.mpr ⟨lw_p15, fun _ h => absurd h List.not_mem_nil⟩⟩⟩⟩⟩⟩⟩⟩⟩⟩⟩⟩⟩⟩⟩⟩
theorem lw_p16 : lw_okq (⟨"ShipsThatMeetModel", "isShip", "(I)Z"⟩, 24) := ⟨⟨by decide +kernel, by decide +kernel⟩, List.mem_of_getElem? (i := 832) (by decide +kernel), List.mem_of_getElem? (i := 950) (by decide +kernel), List.mem_of_getElem? (i := 951) (by decide +kernel)⟩
theorem lw_p17 : lw_okq (⟨"ShipsThatMeetModel", "puts", "(III)V"⟩, 24) := ⟨⟨by decide +kernel, by decide +kernel⟩, List.mem_of_getElem? (i := 832) (by decide +kernel), List.mem_of_getElem? (i := 954) (by decide +kernel), List.mem_of_getElem? (i := 955) (by decide +kernel)⟩
theorem lw_p18 : lw_okq (⟨"ShipsThatMeetModel", "sails", "(I)V"⟩, 24) := ⟨⟨by decide +kernel, by decide +kernel⟩, List.mem_of_getElem? (i := 832) (by decide +kernel), List.mem_of_getElem? (i := 958) (by decide +kernel), List.mem_of_getElem? (i := 959) (by decide +kernel)⟩
theorem lw_p19 : lw_okq (⟨"ShipsThatMeetModel", "aboard", "(I)I"⟩, 24) := ⟨⟨by decide +kernel, by decide +kernel⟩, List.mem_of_getElem? (i := 832) (by decide +kernel), List.mem_of_getElem? (i := 962) (by decide +kernel), List.mem_of_getElem? (i := 963) (by decide +kernel)⟩
theorem lw_p20 : lw_okq (⟨"ShipsThatMeetModel", "get", "(II)I"⟩, 24) := ⟨⟨by decide +kernel, by decide +kernel⟩, List.mem_of_getElem? (i := 832) (by decide +kernel), List.mem_of_getElem? (i := 966) (by decide +kernel), List.mem_of_getElem? (i := 967) (by decide +kernel)⟩
theorem lw_p21 : lw_okq (⟨"ShipsThatMeetModel", "mayMeet", "(II)Z"⟩, 24) := ⟨⟨by decide +kernel, by decide +kernel⟩, List.mem_of_getElem? (i := 832) (by decide +kernel), List.mem_of_getElem? (i := 970) (by decide +kernel), List.mem_of_getElem? (i := 971) (by decide +kernel)⟩
theorem lw_p22 : lw_okq (⟨"ShipsThatMeetModel", "meets", "(II)V"⟩, 24) := ⟨⟨by decide +kernel, by decide +kernel⟩, List.mem_of_getElem? (i := 832) (by decide +kernel), List.mem_of_getElem? (i := 974) (by decide +kernel), List.mem_of_getElem? (i := 975) (by decide +kernel)⟩
theorem lw_p23 : lw_okq (⟨"ShipsThatMeetModel", "gives", "(I)I"⟩, 24) := ⟨⟨by decide +kernel, by decide +kernel⟩, List.mem_of_getElem? (i := 832) (by decide +kernel), List.mem_of_getElem? (i := 978) (by decide +kernel), List.mem_of_getElem? (i := 979) (by decide +kernel)⟩
theorem lw_p24 : lw_okq (⟨"ShipsThatMeetModel", "figure", "(I)I"⟩, 24) := ⟨⟨by decide +kernel, by decide +kernel⟩, List.mem_of_getElem? (i := 832) (by decide +kernel), List.mem_of_getElem? (i := 982) (by decide +kernel), List.mem_of_getElem? (i := 983) (by decide +kernel)⟩
theorem lw_p25 : lw_okq (⟨"ShipsThatMeetModel", "kind", "(I)I"⟩, 24) := ⟨⟨by decide +kernel, by decide +kernel⟩, List.mem_of_getElem? (i := 832) (by decide +kernel), List.mem_of_getElem? (i := 986) (by decide +kernel), List.mem_of_getElem? (i := 987) (by decide +kernel)⟩
theorem lw_p26 : lw_okq (⟨"ShipsThatMeetModel", "bySince", "(IZ)I"⟩, 24) := ⟨⟨by decide +kernel, by decide +kernel⟩, List.mem_of_getElem? (i := 832) (by decide +kernel), List.mem_of_getElem? (i := 996) (by decide +kernel), List.mem_of_getElem? (i := 997) (by decide +kernel)⟩
theorem lw_p27 : lw_okq (⟨"ShipsThatMeetModel", "notOf", "(II)I"⟩, 24) := ⟨⟨by decide +kernel, by decide +kernel⟩, List.mem_of_getElem? (i := 832) (by decide +kernel), List.mem_of_getElem? (i := 1000) (by decide +kernel), List.mem_of_getElem? (i := 1001) (by decide +kernel)⟩
theorem lw_p28 : lw_okq (⟨"ShipsThatMeetModel", "bestOf", "(II)I"⟩, 24) := ⟨⟨by decide +kernel, by decide +kernel⟩, List.mem_of_getElem? (i := 832) (by decide +kernel), List.mem_of_getElem? (i := 1004) (by decide +kernel), List.mem_of_getElem? (i := 1005) (by decide +kernel)⟩
theorem lw_p29 : lw_okq (⟨"ShipsThatMeetModel", "likeTongue", "(II)I"⟩, 24) := ⟨⟨by decide +kernel, by decide +kernel⟩, List.mem_of_getElem? (i := 832) (by decide +kernel), List.mem_of_getElem? (i := 1008) (by decide +kernel), List.mem_of_getElem? (i := 1009) (by decide +kernel)⟩
theorem lw_p30 : lw_okq (⟨"ShipsThatMeetModel", "isMan", "(I)Z"⟩, 24) := ⟨⟨by decide +kernel, by decide +kernel⟩, List.mem_of_getElem? (i := 832) (by decide +kernel), List.mem_of_getElem? (i := 1020) (by decide +kernel), List.mem_of_getElem? (i := 1021) (by decide +kernel)⟩
theorem lw_p31 : lw_okq (⟨"ShipsThatMeetModel", "wrongKept", "(I)I"⟩, 24) := ⟨⟨by decide +kernel, by decide +kernel⟩, List.mem_of_getElem? (i := 832) (by decide +kernel), List.mem_of_getElem? (i := 1029) (by decide +kernel), List.mem_of_getElem? (i := 1030) (by decide +kernel)⟩
def lw_privs_2 : List (MethodName × Nat) := [(⟨"ShipsThatMeetModel", "isShip", "(I)Z"⟩, 24), (⟨"ShipsThatMeetModel", "puts", "(III)V"⟩, 24), (⟨"ShipsThatMeetModel", "sails", "(I)V"⟩, 24), (⟨"ShipsThatMeetModel", "aboard", "(I)I"⟩, 24), (⟨"ShipsThatMeetModel", "get", "(II)I"⟩, 24), (⟨"ShipsThatMeetModel", "mayMeet", "(II)Z"⟩, 24), (⟨"ShipsThatMeetModel", "meets", "(II)V"⟩, 24), (⟨"ShipsThatMeetModel", "gives", "(I)I"⟩, 24), (⟨"ShipsThatMeetModel", "figure", "(I)I"⟩, 24), (⟨"ShipsThatMeetModel", "kind", "(I)I"⟩, 24), (⟨"ShipsThatMeetModel", "bySince", "(IZ)I"⟩, 24), (⟨"ShipsThatMeetModel", "notOf", "(II)I"⟩, 24), (⟨"ShipsThatMeetModel", "bestOf", "(II)I"⟩, 24), (⟨"ShipsThatMeetModel", "likeTongue", "(II)I"⟩, 24), (⟨"ShipsThatMeetModel", "isMan", "(I)Z"⟩, 24), (⟨"ShipsThatMeetModel", "wrongKept", "(I)I"⟩, 24)]
theorem lw_r2 : ∀ q ∈ lw_privs_2, lw_okq q := List.forall_mem_cons.mpr ⟨lw_p16, List.forall_mem_cons.mpr ⟨lw_p17, List.forall_mem_cons.mpr ⟨lw_p18, List.forall_mem_cons.mpr ⟨lw_p19, List.forall_mem_cons.mpr ⟨lw_p20, List.forall_mem_cons.mpr ⟨lw_p21, List.forall_mem_cons.mpr ⟨lw_p22, List.forall_mem_cons.mpr ⟨lw_p23, List.forall_mem_cons.mpr ⟨lw_p24, List.forall_mem_cons.mpr ⟨lw_p25, List.forall_mem_cons.mpr ⟨lw_p26, List.forall_mem_cons.mpr ⟨lw_p27, List.forall_mem_cons.mpr ⟨lw_p28, List.forall_mem_cons.mpr ⟨lw_p29, List.forall_mem_cons.mpr ⟨lw_p30, List.forall_mem_cons.mpr ⟨lw_p31, fun _ h => absurd h List.not_mem_nil⟩⟩⟩⟩⟩⟩⟩⟩⟩⟩⟩⟩⟩⟩⟩⟩
theorem lw_p32 : lw_okq (⟨"ShipsThatMeetModel", "wrongMeetings", "(I)I"⟩, 24) := ⟨⟨by decide +kernel, by decide +kernel⟩, List.mem_of_getElem? (i := 832) (by decide +kernel), List.mem_of_getElem? (i := 1041) (by decide +kernel), List.mem_of_getElem? (i := 1042) (by decide +kernel)⟩
theorem lw_p33 : lw_okq (⟨"ShipsThatMeetModel", "begins", "()V"⟩, 24) := ⟨⟨by decide +kernel, by decide +kernel⟩, List.mem_of_getElem? (i := 832) (by decide +kernel), List.mem_of_getElem? (i := 1045) (by decide +kernel), List.mem_of_getElem? (i := 1046) (by decide +kernel)⟩
theorem lw_p34 : lw_okq (⟨"ShipsThatMeetModel", "meetings", "(I)I"⟩, 24) := ⟨⟨by decide +kernel, by decide +kernel⟩, List.mem_of_getElem? (i := 832) (by decide +kernel), List.mem_of_getElem? (i := 1049) (by decide +kernel), List.mem_of_getElem? (i := 1050) (by decide +kernel)⟩
theorem lw_p35 : lw_okq (⟨"ShipsThatMeetModel", "meetsTold", "(II)Z"⟩, 24) := ⟨⟨by decide +kernel, by decide +kernel⟩, List.mem_of_getElem? (i := 832) (by decide +kernel), List.mem_of_getElem? (i := 1053) (by decide +kernel), List.mem_of_getElem? (i := 1054) (by decide +kernel)⟩
theorem lw_p36 : lw_okq (⟨"ShipsThatMeetModel", "first", "(II)I"⟩, 24) := ⟨⟨by decide +kernel, by decide +kernel⟩, List.mem_of_getElem? (i := 832) (by decide +kernel), List.mem_of_getElem? (i := 1057) (by decide +kernel), List.mem_of_getElem? (i := 1058) (by decide +kernel)⟩
theorem lw_p37 : lw_okq (⟨"ShipsThatMeetModel", "second", "(II)I"⟩, 24) := ⟨⟨by decide +kernel, by decide +kernel⟩, List.mem_of_getElem? (i := 832) (by decide +kernel), List.mem_of_getElem? (i := 1061) (by decide +kernel), List.mem_of_getElem? (i := 1062) (by decide +kernel)⟩
theorem lw_p38 : lw_okq (⟨"ShipsThatMeetModel", "ends", "()V"⟩, 24) := ⟨⟨by decide +kernel, by decide +kernel⟩, List.mem_of_getElem? (i := 832) (by decide +kernel), List.mem_of_getElem? (i := 1065) (by decide +kernel), List.mem_of_getElem? (i := 1066) (by decide +kernel)⟩
theorem lw_p39 : lw_okq (⟨"ShipsThatMeetModel", "mayBe", "(III)I"⟩, 24) := ⟨⟨by decide +kernel, by decide +kernel⟩, List.mem_of_getElem? (i := 832) (by decide +kernel), List.mem_of_getElem? (i := 1073) (by decide +kernel), List.mem_of_getElem? (i := 1074) (by decide +kernel)⟩
theorem lw_p40 : lw_okq (⟨"ShipsThatMeetModel", "fewestBy", "(I)I"⟩, 24) := ⟨⟨by decide +kernel, by decide +kernel⟩, List.mem_of_getElem? (i := 832) (by decide +kernel), List.mem_of_getElem? (i := 1093) (by decide +kernel), List.mem_of_getElem? (i := 1094) (by decide +kernel)⟩
theorem lw_p41 : lw_okq (⟨"ShipsThatMeetModel", "comesBy", "(II)Z"⟩, 24) := ⟨⟨by decide +kernel, by decide +kernel⟩, List.mem_of_getElem? (i := 832) (by decide +kernel), List.mem_of_getElem? (i := 1097) (by decide +kernel), List.mem_of_getElem? (i := 1098) (by decide +kernel)⟩
theorem lw_p42 : lw_okq (⟨"ShipsThatMeetModel", "isWanted", "()Z"⟩, 24) := ⟨⟨by decide +kernel, by decide +kernel⟩, List.mem_of_getElem? (i := 832) (by decide +kernel), List.mem_of_getElem? (i := 1101) (by decide +kernel), List.mem_of_getElem? (i := 1102) (by decide +kernel)⟩
theorem lw_p43 : lw_okq (⟨"ShipsThatMeetModel", "keeps", "(I)V"⟩, 24) := ⟨⟨by decide +kernel, by decide +kernel⟩, List.mem_of_getElem? (i := 832) (by decide +kernel), List.mem_of_getElem? (i := 1105) (by decide +kernel), List.mem_of_getElem? (i := 1106) (by decide +kernel)⟩
theorem lw_p44 : lw_okq (⟨"ShipsThatMeetModel", "back", "(I)V"⟩, 24) := ⟨⟨by decide +kernel, by decide +kernel⟩, List.mem_of_getElem? (i := 832) (by decide +kernel), List.mem_of_getElem? (i := 1109) (by decide +kernel), List.mem_of_getElem? (i := 1110) (by decide +kernel)⟩
theorem lw_p45 : lw_okq (⟨"ShipsThatMeetModel", "mixedNow", "()I"⟩, 24) := ⟨⟨by decide +kernel, by decide +kernel⟩, List.mem_of_getElem? (i := 832) (by decide +kernel), List.mem_of_getElem? (i := 1129) (by decide +kernel), List.mem_of_getElem? (i := 1130) (by decide +kernel)⟩
theorem lw_p46 : lw_okq (⟨"ShipsThatMeetModel", "spreads", "(I)I"⟩, 24) := ⟨⟨by decide +kernel, by decide +kernel⟩, List.mem_of_getElem? (i := 832) (by decide +kernel), List.mem_of_getElem? (i := 1145) (by decide +kernel), List.mem_of_getElem? (i := 1146) (by decide +kernel)⟩
theorem lw_p47 : lw_okq (⟨"ShipsThatMeetModel", "drawn", "(I)I"⟩, 24) := ⟨⟨by decide +kernel, by decide +kernel⟩, List.mem_of_getElem? (i := 832) (by decide +kernel), List.mem_of_getElem? (i := 1167) (by decide +kernel), List.mem_of_getElem? (i := 1168) (by decide +kernel)⟩
def lw_privs_3 : List (MethodName × Nat) := [(⟨"ShipsThatMeetModel", "wrongMeetings", "(I)I"⟩, 24), (⟨"ShipsThatMeetModel", "begins", "()V"⟩, 24), (⟨"ShipsThatMeetModel", "meetings", "(I)I"⟩, 24), (⟨"ShipsThatMeetModel", "meetsTold", "(II)Z"⟩, 24), (⟨"ShipsThatMeetModel", "first", "(II)I"⟩, 24), (⟨"ShipsThatMeetModel", "second", "(II)I"⟩, 24), (⟨"ShipsThatMeetModel", "ends", "()V"⟩, 24), (⟨"ShipsThatMeetModel", "mayBe", "(III)I"⟩, 24), (⟨"ShipsThatMeetModel", "fewestBy", "(I)I"⟩, 24), (⟨"ShipsThatMeetModel", "comesBy", "(II)Z"⟩, 24), (⟨"ShipsThatMeetModel", "isWanted", "()Z"⟩, 24), (⟨"ShipsThatMeetModel", "keeps", "(I)V"⟩, 24), (⟨"ShipsThatMeetModel", "back", "(I)V"⟩, 24), (⟨"ShipsThatMeetModel", "mixedNow", "()I"⟩, 24), (⟨"ShipsThatMeetModel", "spreads", "(I)I"⟩, 24), (⟨"ShipsThatMeetModel", "drawn", "(I)I"⟩, 24)]
theorem lw_r3 : ∀ q ∈ lw_privs_3, lw_okq q := List.forall_mem_cons.mpr ⟨lw_p32, List.forall_mem_cons.mpr ⟨lw_p33, List.forall_mem_cons.mpr ⟨lw_p34, List.forall_mem_cons.mpr ⟨lw_p35, List.forall_mem_cons.mpr ⟨lw_p36, List.forall_mem_cons.mpr ⟨lw_p37, List.forall_mem_cons.mpr ⟨lw_p38, List.forall_mem_cons.mpr ⟨lw_p39, List.forall_mem_cons.mpr ⟨lw_p40, List.forall_mem_cons.mpr ⟨lw_p41, List.forall_mem_cons.mpr ⟨lw_p42, List.forall_mem_cons.mpr ⟨lw_p43, List.forall_mem_cons.mpr ⟨lw_p44, List.forall_mem_cons.mpr ⟨lw_p45, List.forall_mem_cons.mpr ⟨lw_p46, List.forall_mem_cons.mpr ⟨lw_p47, fun _ h => absurd h List.not_mem_nil⟩⟩⟩⟩⟩⟩⟩⟩⟩⟩⟩⟩⟩⟩⟩⟩
theorem lw_p48 : lw_okq (⟨"ShipsThatMeetModel", "wrongFour", "(II)I"⟩, 24) := ⟨⟨by decide +kernel, by decide +kernel⟩, List.mem_of_getElem? (i := 832) (by decide +kernel), List.mem_of_getElem? (i := 1178) (by decide +kernel), List.mem_of_getElem? (i := 1179) (by decide +kernel)⟩
def lw_privs_4 : List (MethodName × Nat) := [(⟨"ShipsThatMeetModel", "wrongFour", "(II)I"⟩, 24)]
theorem lw_r4 : ∀ q ∈ lw_privs_4, lw_okq q := List.forall_mem_cons.mpr ⟨lw_p48, fun _ h => absurd h List.not_mem_nil⟩
def lw_privs : List (MethodName × Nat) := lw_privs_1 ++ (lw_privs_2 ++ (lw_privs_3 ++ (lw_privs_4)))
def lw_tbl : List Cond := k2_sels lw_privs ++ tables_1
theorem lw_privs_ok : ∀ q ∈ lw_privs, lw_okq q := by
  show ∀ q ∈ lw_privs_1 ++ (lw_privs_2 ++ (lw_privs_3 ++ (lw_privs_4))), lw_okq q
  exact List.forall_mem_append.mpr ⟨lw_r1, List.forall_mem_append.mpr ⟨lw_r2, List.forall_mem_append.mpr ⟨lw_r3, lw_r4⟩⟩⟩
end
section
/-! ===== BEGIN words of one list among another's, by their places ===== -/
theorem goodIn_r {big : List Cond} (ws : List Cond) (ps : List Nat) (hp : ws = ps.filterMap (fun i => big[i]?)) (h : ws.all goodWord = true) : GoodIn big ws := by
  intro w hw
  have h1 := List.all_eq_true.mp h w hw
  rw [hp] at hw
  obtain ⟨i, -, hi⟩ := List.mem_filterMap.mp hw
  have hm : w ∈ big := by first | exact List.mem_of_getElem? hi | exact List.getElem?_mem hi
  exact ⟨hm, good_of_word h1⟩
theorem goodIn_app {big a b : List Cond} (ha : GoodIn big a) (hb : GoodIn big b) : GoodIn big (a ++ b) := fun w h => (List.mem_append.mp h).elim (ha w) (hb w)
theorem goodIn_ca {big a b : List Cond} {c : Cond} (ha : GoodIn big (c :: a)) (hb : GoodIn big b) : GoodIn big (c :: (a ++ b)) := fun w h => (List.mem_cons.mp h).elim (fun e => ha w (List.mem_cons.mpr (Or.inl e))) (fun h => (List.mem_append.mp h).elim (fun h => ha w (List.mem_cons.mpr (Or.inr h))) (hb w))
theorem goodIn_sub {big ws : List Cond} (hm : ∀ w ∈ ws, w ∈ big) (h : ws.all goodWord = true) : GoodIn big ws := fun w hw => ⟨hm w hw, good_of_word (List.all_eq_true.mp h w hw)⟩
/-! ===== END ===== -/


/-! ===== BEGIN exceptions that leave a method, and their catching by the caller (launches without stack traces) ===== -/
section VXA
/-! The laws vx_back, vx_callV, vx_callS, vx_callSW, vx_throw0, vx_throwS follow proofs of the library, with one case more: JvmDerived/Free/Laws.lean (Back.of_free), Shelf42/LK1.lean (callV, callS), Shelf/KitTraced.lean (throwNew0V, throwNewS). -/
/-- where a method has thrown q: the class by its name, the cell, what was written, the world -/
def vx_T (XC : String → State → State → Prop) (st : State) (q : Addr) (t : State) (mc ms : Nat) (free : Addr → Prop) : Prop :=
  ∃ (E : String) (ce : Cell) (L : List Loc), XC E st t ∧ t.heap[q]? = some ce ∧ ce.vm = .none ∧ st.vm.findClass E = some ce.cls ∧ st.WarmedH t.vm ∧ st.sameButNew ({ t with vm := st.vm } : State) L mc ms ∧ ∀ z ∈ L, free z.base
def vx_Q (Qc : Array Value → State → Outcome → State → Prop) (XC : String → State → State → Prop) (mc ms : Nat) (free : Addr → Prop) : Array Value → State → Outcome → State → Prop := fun a st o t =>
  (Qc a st o t ∧ ∃ L, FrameEnd st o t L mc ms ∧ ∀ q ∈ L, free q.base) ∨ ∃ q, o = .threw q ∧ vx_T XC st q t mc ms free
/-- a callee that returns or throws -/
def vx_Met (l : Launch) (y : MethodName) (ws : List Cond) (rm : Room) (Pc : Array Value → State → Prop) (Qc : Array Value → State → Outcome → State → Prop) (XC : String → State → State → Prop) (mc ms : Nat) (free : Addr → Prop) : Prop :=
  MetFree l y (headSpec ws rm) Pc (fun _ _ _ _ _ => True) (vx_Q Qc XC mc ms free)
def vx_Post (XC : String → State → State → Prop) (mc ms : Nat) (free : Addr → Prop) : Pt → Array Value → Addr → Pt → Prop := fun A a q B =>
  ∃ (g : JFrame) (mk : MethodId) (t : State) (L : List Loc) (E : String) (ce : Cell), B.U.heap = t.heap ∧ B.U.vm = t.vm ∧ XC E (A.U.calling g mk a) t ∧ t.heap[q]? = some ce ∧ ce.vm = .none ∧ A.U.vm.findClass E = some ce.cls ∧ B.locs = A.locs ++ L ∧ (∀ z ∈ L, free z.base) ∧ B.cells = A.cells + mc ∧ B.slots = A.slots + ms
def vx_Back (l : Launch) (R : Room) (p : Program) (e : Env) (below : List Frame) (s : State) (sargs : Array Value) (y : MethodName) (len W9 : Nat)
    (Pre : Pt → Array Value → Prop) (Post : Pt → Array Value → Option Value → Pt → Prop) (PostX : Pt → Array Value → Addr → Pt → Prop) : Prop :=
  ∀ (m : MethodId) (meth : Method) (c : Code) (A : Pt) (g : JFrame) (ig : Instr) (mk : MethodId) (a : Array Value),
    Stand p l e R s m sargs below meth c A.U A.locs A.cells A.slots → g.method = m → g.locals.size = c.maxLocals → decode c.code g.pc = .ok (ig, len) →
    2 * g.monitorRoom + (g.stack.map fun v => v.category).sum ≤ W9 → A.U.methodNamed? y = some mk → Pre A a →
    (∃ (v : Option Value) (B : Pt), Stand p l e R s m sargs below meth c B.U B.locs B.cells B.slots ∧ Post A a v B ∧
      Steps p.tables e below (doInvoke e (A.U.setTop g) [] mk a).1 (B.U.setTop { g with pc := g.pc + len, stack := v.toList ++ g.stack })) ∨
    (∃ (q : Addr) (B : Pt), Stand p l e R s m sargs below meth c B.U B.locs B.cells B.slots ∧ PostX A a q B ∧
      Steps p.tables e below (doInvoke e (A.U.setTop g) [] mk a).1 ((B.U.setTop g).pushFrame (.throwing q)))
section Payer
variable {l : Launch} {R : Room} {p : Program} {e : Env} {below : List Frame} {s : State} {sargs : Array Value} {y : MethodName} {len W9 : Nat}
theorem vx_back {ws : List Cond} {rm : Room} {Pc : Array Value → State → Prop} {Qc : Array Value → State → Outcome → State → Prop} {XC : String → State → State → Prop} {mc ms : Nat} {free : Addr → Prop} {bytes : ByteArray} {maxL : Nat} {ret : Option FieldType}
    (hM : vx_Met l y ws rm Pc Qc XC mc ms free) (hblind : FrameBlind Pc) (hrc : rm.cells = mc) (hrs : rm.slots = ms)
    (hframes : rm.frames + 1 ≤ R.frames) (hlocals : W9 + (maxL + 11) + rm.locals ≤ R.locals)
    (hws : ∀ w ∈ ws, ∀ a' U, s.WarmedH U.vm → w.before a' U = true) (hcode : Cond.code y bytes maxL ret ∈ ws) (hinit : ∀ a' U, s.WarmedH U.vm → (Cond.initialized y.cls).before a' U = true) :
    vx_Back l R p e below s sargs y len W9 (PreOf R mc ms Pc) (PostOf Qc mc ms free) (vx_Post XC mc ms free) := by
  intro m meth c A g ig mk a X hg hsize hdg hW hn hp
  have h1 : (headSpec ws rm).pre.before a A.U = true := atoms_intro fun w hw => hws w hw _ _ X.warmed
  have h2 : (Cond.code y bytes maxL ret).before a A.U = true := hws _ hcode _ _ X.warmed
  have h3 : (Cond.initialized y.cls).before a A.U = true := hinit _ _ X.warmed
  have h4 : A.cells + (headSpec ws rm).room.cells ≤ R.cells := by rw [show (headSpec ws rm).room.cells = mc from hrc]; exact hp.1
  have h5 : A.slots + (headSpec ws rm).room.slots ≤ R.slots := by rw [show (headSpec ws rm).room.slots = ms from hrs]; exact hp.2.1
  have hPc : Pc a (A.U.calling g mk a) := hblind _ _ _ _ hp.2.2
  obtain ⟨U, Ls, c0, s0⟩ := A
  dsimp only [Pt.U, Pt.locs, Pt.cells, Pt.slots] at h1 h2 h3 h4 h5 X hn hPc ⊢
  obtain ⟨methY, cY, hmY, hcY, -, hlY, -, -, -, -⟩ := Cond.code_spec hn h2
  obtain ⟨kY, hkY, -⟩ := className_of_methodNamed hn
  have hinitY : kY.init = .initialized := Cond.initialized_spec (findClass_of_methodNamed hn) hkY h3
  have h : At U g.method c below := by rw [hg]; exact X.here
  have hlocals9 : W9 + (maxL + 11) + (headSpec ws rm).room.locals ≤ R.locals := hlocals
  have happ : (headSpec ws rm).appliesLoose y e.platform (U.calling g mk a) = true :=
    Spec.appliesLoose_calling (g := g) h hdg hn hkY hinitY
      (X.room_calling (g := g) (R' := (headSpec ws rm).room) hsize hmY hcY hframes (by rw [hlY]; omega) h4 h5) h1
  obtain ⟨mid, hmid⟩ := h.above
  have hfr : (U.setTop g).frames = (.java g :: mid) ++ below := by rw [State.frames_setTop' g h.top, hmid]; rfl
  obtain ⟨o, s₂, hsteps, -, hend, hq⟩ := Steps.callFree hM p X.admits X.cas X.clock (acts := []) hfr happ hPc trivial
  have hq' : vx_Q Qc XC mc ms free a (U.calling g mk a) o s₂ := hq
  rw [State.frames_setTop' g h.top] at hend
  obtain ⟨g₀, hg0⟩ := Option.isSome_iff_exists.mp h.top
  obtain ⟨r, hr⟩ := State.topJava?_eq_some.mp hg0
  have hr' : (({ U with heap := s₂.heap, slotsUsed := s₂.slotsUsed } : State).setVm s₂.vm).frames = .java g₀ :: r := hr
  rcases hq' with ⟨hqc, L, hfe, hL⟩ | ⟨q, rfl, E, ce, L, hx, hce, hcv, hcl, hW₂, hsm, hL⟩
  · obtain ⟨⟨v, rfl⟩, hW₂, e2, q2, q3, q4, q5, q6⟩ := id hfe
    have e3 : s₂ = ({ (U.calling g mk a).setFrames s₂.frames with heap := s₂.heap, slotsUsed := s₂.slotsUsed } : State).setVm s₂.vm := by
      have : s₂ = ({ s₂ with vm := (U.calling g mk a).vm } : State).setVm s₂.vm := rfl
      rw [e2] at this
      exact this
    obtain ⟨c₂, i₂, len₂, hc₂, hd₂, hf₂⟩ := hend
    have hW' : U.WarmedH s₂.vm := hW₂
    have hcc : c₂ = c := by
      have h1 : s₂.code? g.method = U.code? g.method := by
        rw [State.code?_eq, State.code?_eq, hW'.alike.method?]
      exact Option.some.inj (hc₂.symm.trans (h1.trans h.code))
    subst hcc
    have hlen : len₂ = len := by rw [hdg] at hd₂; cases hd₂; rfl
    subst hlen
    have hs₂ : s₂ = (({ U with heap := s₂.heap, slotsUsed := s₂.slotsUsed } : State).setVm s₂.vm).setTop { g with pc := g.pc + len₂, stack := v.toList ++ g.stack } := by
      refine e3.trans ?_
      rw [hf₂, State.calling_eq h.top, State.setFrames_setFrames, State.setTop_of_frames _ hr', hr]
      rfl
    have hsame : U.sameButNew ({ U with heap := s₂.heap, slotsUsed := s₂.slotsUsed } : State) L mc ms := by
      refine ⟨?_, q2, q3, q4, q5, q6⟩
      obtain ⟨t, ht, -⟩ := State.frames_cons hr
      show ({ U with heap := s₂.heap, slotsUsed := s₂.slotsUsed } : State) = { U.setFrames U.frames with heap := s₂.heap, slotsUsed := s₂.slotsUsed }
      rw [State.setFrames_self ht]
    subst hg
    refine Or.inl ⟨v, ⟨(({ U with heap := s₂.heap, slotsUsed := s₂.slotsUsed } : State).setVm s₂.vm), Ls ++ L, c0 + mc, s0 + ms⟩,
      ⟨X.admits, X.cas, X.clock, X.frames, X.room, X.hears, X.method, X.code, (X.here.setHeapUsed s₂.heap s₂.slotsUsed).setVm hW'.alike, X.tail, State.WarmedH.trans X.warmed hW', X.limits, X.bytes, X.same.trans (hsame.setVm s.vm)⟩,
      ⟨g, mk, s₂, L, rfl, rfl, hqc, rfl, hL, rfl, rfl⟩, ?_⟩
    show Steps p.tables e below _ ((({ U with heap := s₂.heap, slotsUsed := s₂.slotsUsed } : State).setVm s₂.vm).setTop { g with pc := g.pc + len₂, stack := v.toList ++ g.stack })
    rw [← hs₂]
    exact hsteps
  · obtain ⟨e2, q2, q3, q4, q5, q6⟩ := id hsm
    have e3 : s₂ = ({ (U.calling g mk a).setFrames s₂.frames with heap := s₂.heap, slotsUsed := s₂.slotsUsed } : State).setVm s₂.vm := by
      have : s₂ = ({ s₂ with vm := (U.calling g mk a).vm } : State).setVm s₂.vm := rfl
      rw [e2] at this
      exact this
    have hf₂ : s₂.frames = .throwing q :: .java g :: U.frames.tail := hend
    have hW' : U.WarmedH s₂.vm := hW₂
    have hs₂ : s₂ = ((({ U with heap := s₂.heap, slotsUsed := s₂.slotsUsed } : State).setVm s₂.vm).setTop g).pushFrame (.throwing q) := by
      refine e3.trans ?_
      rw [hf₂, State.calling_eq h.top, State.setFrames_setFrames, State.pushFrame, State.frames_setTop _ hr', State.setTop_of_frames _ hr', State.setFrames_setFrames, hr]
      rfl
    have hsame : U.sameButNew ({ U with heap := s₂.heap, slotsUsed := s₂.slotsUsed } : State) L mc ms := by
      refine ⟨?_, q2, q3, q4, q5, q6⟩
      obtain ⟨t, ht, -⟩ := State.frames_cons hr
      show ({ U with heap := s₂.heap, slotsUsed := s₂.slotsUsed } : State) = { U.setFrames U.frames with heap := s₂.heap, slotsUsed := s₂.slotsUsed }
      rw [State.setFrames_self ht]
    subst hg
    refine Or.inr ⟨q, ⟨(({ U with heap := s₂.heap, slotsUsed := s₂.slotsUsed } : State).setVm s₂.vm), Ls ++ L, c0 + mc, s0 + ms⟩,
      ⟨X.admits, X.cas, X.clock, X.frames, X.room, X.hears, X.method, X.code, (X.here.setHeapUsed s₂.heap s₂.slotsUsed).setVm hW'.alike, X.tail, State.WarmedH.trans X.warmed hW', X.limits, X.bytes, X.same.trans (hsame.setVm s.vm)⟩,
      ⟨g, mk, s₂, L, E, ce, rfl, rfl, hx, hce, hcv, hcl, rfl, hL, rfl, rfl⟩, ?_⟩
    show Steps p.tables e below _ (((({ U with heap := s₂.heap, slotsUsed := s₂.slotsUsed } : State).setVm s₂.vm).setTop g).pushFrame (.throwing q))
    rw [← hs₂]
    exact hsteps
end Payer
section Calls
variable {p : Program} {l : Launch} {e : Env} {R : Room} {s : State} {m : MethodId} {args : Array Value} {below : List Frame} {meth : Method} {c : Code} {T : State} {locs : List Loc} {cells slots : Nat}
theorem vx_callV (X : Stand p l e R s m args below meth c T locs cells slots) (hexec : p.tables.exec = Jvm.exec) {own C : String} {index : Nat} {y : MethodName} {bytes : ByteArray} {maxL : Nat} {ret : Option FieldType}
    (hown : s.vm.findClass own = some m.cls) (hlink : (Cond.methodLink own index y).before args s = true) (hinst : (Cond.instanceMethod y).before args s = true) (hsel : (Cond.selects C y y).before args s = true)
    (hcode : (Cond.code y bytes maxL ret).before args s = true) (hy : y.cls ≠ "java/lang/invoke/MethodHandle" ∧ y.cls ≠ "java/lang/invoke/VarHandle")
    {W9 : Nat} {Pre : Pt → Array Value → Prop} {Post : Pt → Array Value → Option Value → Pt → Prop} {PostX : Pt → Array Value → Addr → Pt → Prop} (hK : vx_Back l R p e below s args y 3 W9 Pre Post PostX)
    {b : Addr} {cellB : Cell} (hcell : T.heap[b]? = some cellB) (hobj : cellB.vm.isStatics = false) (hcls : s.vm.findClass C = some cellB.cls)
    {g : JFrame} (hg : g.method = m) (hsize : g.locals.size = c.maxLocals) {argsL rest : List Value} (hlen : ∀ sig, parseMethodDescriptor y.desc = some sig → argsL.length = sig.parameters.length)
    (hstack : g.stack = argsL.reverse ++ .ref b :: rest) (hW : 2 * g.monitorRoom + (rest.map fun v => v.category).sum ≤ W9) (hdg : decode c.code g.pc = .ok (.invokevirtual index, 3))
    (hpre : ∀ vm₁, s.WarmedH vm₁ → Pre ⟨T.setVm vm₁, locs, cells, slots⟩ (Value.ref b :: argsL).toArray) :
    (∃ (v : Option Value) (vm₁ : Vm) (B : Pt), s.WarmedH vm₁ ∧ Stand p l e R s m args below meth c B.U B.locs B.cells B.slots ∧ Post ⟨T.setVm vm₁, locs, cells, slots⟩ (Value.ref b :: argsL).toArray v B ∧
      ∀ target, Steps p.tables e below (B.U.setTop { g with pc := g.pc + 3, stack := v.toList ++ rest }) target → Steps p.tables e below (T.setTop g) target) ∨
    (∃ (q : Addr) (vm₁ : Vm) (B : Pt), s.WarmedH vm₁ ∧ Stand p l e R s m args below meth c B.U B.locs B.cells B.slots ∧ PostX ⟨T.setVm vm₁, locs, cells, slots⟩ (Value.ref b :: argsL).toArray q B ∧
      Steps p.tables e below (T.setTop g) ((B.U.setTop { g with stack := rest }).pushFrame (.throwing q))) := by
  obtain ⟨mk, methM, hnamed, hmethM, hstM, habM⟩ := Cond.instanceMethod_spec hinst
  obtain ⟨methM', cM, hmethM', -, -, -, -, -, -, hsigM⟩ := Cond.code_spec hnamed hcode
  cases hmethM.symm.trans hmethM'
  obtain ⟨c2, r2, m2, q1, q2, q3, q4, kP, hkP, hkPi⟩ := Cond.selects_spec hsel
  cases hcls.symm.trans q1
  cases (State.methodFound?_of_named hnamed hy).symm.trans q2
  cases hnamed.symm.trans q3
  have hselP : selectMethod e.platform s.vm cellB.cls mk = .method mk := by rw [Launch.admits_selectMethod X.admits]; exact q4
  obtain ⟨vm₁, X₁, hstep₁⟩ := X.invokevirtual hexec hown hlink hnamed hmethM hstM hkP hkPi hy (a := b) (cell := cellB) hcell
    (fun z h => by rw [h] at hobj; cases hobj) hselP hmethM habM hkP hkPi (g := g) hg (argsL := argsL) (rest := rest) (hlen _ hsigM) hstack hdg
  rcases hK m meth c ⟨T.setVm vm₁, locs, cells, slots⟩ { g with stack := rest } (.invokevirtual index) mk (Value.ref b :: argsL).toArray X₁ hg hsize hdg hW (X₁.named hnamed) (hpre vm₁ X₁.warmed) with ⟨v, B, X', hpost, hsteps⟩ | ⟨q, B, X', hpost, hsteps⟩
  · exact Or.inl ⟨v, vm₁, B, X₁.warmed, X', hpost, fun target h => hstep₁ _ fun acts => by rw [doInvoke_state]; exact hsteps.trans h⟩
  · exact Or.inr ⟨q, vm₁, B, X₁.warmed, X', hpost, hstep₁ _ fun acts => by rw [doInvoke_state]; exact hsteps⟩
theorem vx_callS (X : Stand p l e R s m args below meth c T locs cells slots) (hexec : p.tables.exec = Jvm.exec) {own : String} {index : Nat} {y : MethodName} {bytes : ByteArray} {maxL : Nat} {ret : Option FieldType}
    (hown : s.vm.findClass own = some m.cls) (hlink : (Cond.methodLink own index y).before args s = true) (hstat : (Cond.static y).before args s = true) (hinit : (Cond.initialized y.cls).before args s = true)
    (hcode : (Cond.code y bytes maxL ret).before args s = true) (hy : y.cls ≠ "java/lang/invoke/MethodHandle" ∧ y.cls ≠ "java/lang/invoke/VarHandle")
    {W9 : Nat} {Pre : Pt → Array Value → Prop} {Post : Pt → Array Value → Option Value → Pt → Prop} {PostX : Pt → Array Value → Addr → Pt → Prop} (hK : vx_Back l R p e below s args y 3 W9 Pre Post PostX)
    {g : JFrame} (hg : g.method = m) (hsize : g.locals.size = c.maxLocals) {argsL rest : List Value} (hlen : ∀ sig, parseMethodDescriptor y.desc = some sig → argsL.length = sig.parameters.length)
    (hstack : g.stack = argsL.reverse ++ rest) (hW : 2 * g.monitorRoom + (rest.map fun v => v.category).sum ≤ W9) (hdg : decode c.code g.pc = .ok (.invokestatic index, 3))
    (hpre : ∀ vm₁, s.WarmedH vm₁ → Pre ⟨T.setVm vm₁, locs, cells, slots⟩ argsL.toArray) :
    (∃ (v : Option Value) (vm₁ : Vm) (B : Pt), s.WarmedH vm₁ ∧ Stand p l e R s m args below meth c B.U B.locs B.cells B.slots ∧ Post ⟨T.setVm vm₁, locs, cells, slots⟩ argsL.toArray v B ∧
      ∀ target, Steps p.tables e below (B.U.setTop { g with pc := g.pc + 3, stack := v.toList ++ rest }) target → Steps p.tables e below (T.setTop g) target) ∨
    (∃ (q : Addr) (vm₁ : Vm) (B : Pt), s.WarmedH vm₁ ∧ Stand p l e R s m args below meth c B.U B.locs B.cells B.slots ∧ PostX ⟨T.setVm vm₁, locs, cells, slots⟩ argsL.toArray q B ∧
      Steps p.tables e below (T.setTop g) ((B.U.setTop { g with stack := rest }).pushFrame (.throwing q))) := by
  obtain ⟨mk, hnamed⟩ := Cond.code_named hcode
  obtain ⟨methM, cM, hmethM, -, -, -, -, -, -, hsigM⟩ := Cond.code_spec hnamed hcode
  have hstatic : methM.isStatic = true := Cond.static_spec hnamed hmethM hstat
  obtain ⟨kP, hkP, -⟩ := className_of_methodNamed hnamed
  have hinitP : kP.init = .initialized := Cond.initialized_spec (findClass_of_methodNamed hnamed) hkP hinit
  obtain ⟨vm₁, X₁, hstep₁⟩ := X.invokestatic hexec hown hlink hnamed hmethM hstatic hkP hinitP hy (g := g) hg (argsL := argsL) (rest := rest) (hlen _ hsigM) hstack hdg
  rcases hK m meth c ⟨T.setVm vm₁, locs, cells, slots⟩ { g with stack := rest } (.invokestatic index) mk argsL.toArray X₁ hg hsize hdg hW (X₁.named hnamed) (hpre vm₁ X₁.warmed) with ⟨v, B, X', hpost, hsteps⟩ | ⟨q, B, X', hpost, hsteps⟩
  · exact Or.inl ⟨v, vm₁, B, X₁.warmed, X', hpost, fun target h => hstep₁ _ fun acts => by rw [doInvoke_state]; exact hsteps.trans h⟩
  · exact Or.inr ⟨q, vm₁, B, X₁.warmed, X', hpost, hstep₁ _ fun acts => by rw [doInvoke_state]; exact hsteps⟩
end Calls
theorem vx_cls {s : State} {T : State} {vm₁ : Vm} {E : String} {k : ClassId} (hW : s.WarmedH vm₁) (h : (T.setVm vm₁).vm.findClass E = some k) : s.vm.findClass E = some k := by
  have h1 : vm₁.findClass E = some k := h
  rw [hW.alike.findClass] at h1
  exact h1
/-- the method's frame g, with q thrown over it -/
def vx_W (p : Program) (l : Launch) (e : Env) (R : Room) (s : State) (m : MethodId) (args : Array Value) (below : List Frame) (meth : Method) (c : Code) (H : Heap) (locs : List Loc) (cells slots : Nat) (Q : State → Prop) (g : JFrame) (q : Addr) : Prop :=
  ∀ T : State, T.heap = H → Stand p l e R s m args below meth c T locs cells slots → ∃ t, Steps p.tables e below ((T.setTop g).pushFrame (.throwing q)) t ∧ Q t
def vx_Run (p : Program) (l : Launch) (e : Env) (R : Room) (s : State) (m : MethodId) (args : Array Value) (below : List Frame) (meth : Method) (c : Code) (H : Heap) (locs : List Loc) (cells slots mc ms : Nat) (g : JFrame) (rest : List Value) (Qa : State → Outcome → State → Prop) (XC : String → State → State → Prop) (free : Addr → Prop) : Prop :=
  ∀ T : State, T.heap = H → Stand p l e R s m args below meth c T locs cells slots →
    (∃ (v : Option Value) (st₀ t T' : State) (L : List Loc), st₀.heap = H ∧ Stand p l e R s m args below meth c T' (locs ++ L) (cells + mc) (slots + ms) ∧ (∀ q ∈ L, free q.base) ∧ T'.heap = t.heap ∧ T'.vm = t.vm ∧ Qa st₀ (.returned v) t ∧
      Goes p e below T g T' { g with pc := g.pc + 3, stack := v.toList ++ rest }) ∨
    (∃ (q : Addr) (st₀ t T' : State) (L : List Loc) (E : String) (ce : Cell), st₀.heap = H ∧ Stand p l e R s m args below meth c T' (locs ++ L) (cells + mc) (slots + ms) ∧ (∀ z ∈ L, free z.base) ∧ T'.heap = t.heap ∧ T'.vm = t.vm ∧ XC E st₀ t ∧ t.heap[q]? = some ce ∧ ce.vm = .none ∧ s.vm.findClass E = some ce.cls ∧
      Steps p.tables e below (T.setTop g) ((T'.setTop { g with stack := rest }).pushFrame (.throwing q)))
def vx_X {S : Type} (px : S → Prop) (B : String → S → State → Prop) (A : Nat → Prop) : String → State → State → Prop := fun E st t => ∃ u : S, px u ∧ B E u t ∧ va_F A st t
section Runs
variable {p : Program} {l : Launch} {e : Env} {R : Room} {s : State} {m : MethodId} {args : Array Value} {below : List Frame} {meth : Method} {c : Code} {H : Heap} {locs : List Loc} {cells slots : Nat}
variable {y : MethodName} {bytes cc : ByteArray} {maxL nL mc ms n index : Nat} {ret : Option FieldType} {ws : List Cond} {rm : Room} {Pc : Array Value → State → Prop} {Qc : Array Value → State → Outcome → State → Prop} {XC : String → State → State → Prop} {free : Addr → Prop} {Ts : List Cond} {own C : String} {b : Addr} {As rest : List Value} {g : JFrame}
theorem vx_callBack (cb : CallB R s args own index y bytes maxL ret ws rm mc ms n) (hM : vx_Met l y ws rm Pc Qc XC mc ms free) (hbl : FrameBlind Pc) : vx_Back l R p e below s args y 3 8 (PreOf R mc ms Pc) (PostOf Qc mc ms free) (vx_Post XC mc ms free) := by
  obtain ⟨hrc, hrs, hfr, hlo, hws, hcw, -, hini, -⟩ := cb
  exact vx_back (bytes := bytes) (maxL := maxL) (ret := ret) hM hbl hrc hrs hfr hlo hws hcw (fun a' U hW => word_at hW (Or.inl (by first | rfl | simp [Cond.onTables, Cond.keeps, Cond.steady])) hini)
theorem vx_runV (S : CallFix p m c cc nL s args Ts own) (hM : vx_Met l y ws rm Pc Qc XC mc ms free) (cw : CallW R s args own C index y bytes maxL ret ws rm mc ms n) (hp : PreV s H C b Pc As)
    (hg : g.method = m) (hn : As.length = n) (hsize : g.locals.size = nL) (hstack : g.stack = As.reverse ++ .ref b :: rest) (hW : 2 * g.monitorRoom + (rest.map fun v => v.category).sum ≤ 8) (hdg : decode cc g.pc = .ok (.invokevirtual index, 3)) (hf : cells + mc ≤ R.cells ∧ slots + ms ≤ R.slots) :
    vx_Run p l e R s m args below meth c H locs cells slots mc ms g rest (Qc (Value.ref b :: As).toArray) XC free := by
  have hK : vx_Back l R p e below s args y 3 8 (PreOf R mc ms Pc) (PostOf Qc mc ms free) (vx_Post XC mc ms free) := vx_callBack cw.1 hM hp.1
  obtain ⟨⟨-, -, -, -, -, -, hcode, -, hy, hlen, hl⟩, hin, hse⟩ := cw
  obtain ⟨hx, hb, hml, ho, -⟩ := S
  obtain ⟨-, ⟨cellB, hcB, hoB, hclB⟩, hPc⟩ := hp
  intro T hT X
  rcases vx_callV X hx (C := C) (bytes := bytes) (maxL := maxL) (ret := ret) ho hl hin hse hcode hy hK (by rw [hT]; exact hcB) hoB hclB hg (hsize.trans hml.symm) (argsL := As) (rest := rest) (fun sig h => hn.trans (hlen sig h)) hstack hW (by rw [hb]; exact hdg)
    (fun vm₁ hW₁ => ⟨hf.1, hf.2, hPc (T.setVm vm₁) hT hW₁⟩) with ⟨v, vm₁, ⟨U', l2, c2, s2⟩, hW₁, X', ⟨g', mk, t, L, e1, e2, hq, h1, hL, h2, h3⟩, st⟩ | ⟨q, vm₁, ⟨U', l2, c2, s2⟩, hW₁, X', ⟨g', mk, t, L, E, ce, e1, e2, hq, hce, hcv, hcl, h1, hL, h2, h3⟩, st⟩
  · dsimp only [Pt.U, Pt.locs, Pt.cells, Pt.slots] at X' e1 e2 h1 h2 h3 st
    subst h1; subst h2; subst h3
    exact Or.inl ⟨v, (T.setVm vm₁).calling g' mk (Value.ref b :: As).toArray, t, U', L, hT, X', hL, e1, e2, hq, st⟩
  · dsimp only [Pt.U, Pt.locs, Pt.cells, Pt.slots] at X' e1 e2 h1 h2 h3 st hcl
    subst h1; subst h2; subst h3
    exact Or.inr ⟨q, (T.setVm vm₁).calling g' mk (Value.ref b :: As).toArray, t, U', L, E, ce, hT, X', hL, e1, e2, hq, hce, hcv, vx_cls hW₁ hcl, st⟩
theorem vx_runS (S : CallFix p m c cc nL s args Ts own) (hM : vx_Met l y ws rm Pc Qc XC mc ms free) (cw : CallB R s args own index y bytes maxL ret ws rm mc ms n ∧ (Cond.static y).before args s = true) (hp : PreS s H Pc As)
    (hg : g.method = m) (hn : As.length = n) (hsize : g.locals.size = nL) (hstack : g.stack = As.reverse ++ rest) (hW : 2 * g.monitorRoom + (rest.map fun v => v.category).sum ≤ 8) (hdg : decode cc g.pc = .ok (.invokestatic index, 3)) (hf : cells + mc ≤ R.cells ∧ slots + ms ≤ R.slots) :
    vx_Run p l e R s m args below meth c H locs cells slots mc ms g rest (Qc As.toArray) XC free := by
  have hK : vx_Back l R p e below s args y 3 8 (PreOf R mc ms Pc) (PostOf Qc mc ms free) (vx_Post XC mc ms free) := vx_callBack cw.1 hM hp.1
  obtain ⟨⟨-, -, -, -, -, -, hcode, hini, hy, hlen, hl⟩, hstt⟩ := cw
  obtain ⟨hx, hb, hml, ho, -⟩ := S
  intro T hT X
  rcases vx_callS X hx (bytes := bytes) (maxL := maxL) (ret := ret) ho hl hstt hini hcode hy hK hg (hsize.trans hml.symm) (argsL := As) (rest := rest) (fun sig h => hn.trans (hlen sig h)) hstack hW (by rw [hb]; exact hdg)
    (fun vm₁ hW₁ => ⟨hf.1, hf.2, hp.2 (T.setVm vm₁) hT hW₁⟩) with ⟨v, vm₁, ⟨U', l2, c2, s2⟩, hW₁, X', ⟨g', mk, t, L, e1, e2, hq, h1, hL, h2, h3⟩, st⟩ | ⟨q, vm₁, ⟨U', l2, c2, s2⟩, hW₁, X', ⟨g', mk, t, L, E, ce, e1, e2, hq, hce, hcv, hcl, h1, hL, h2, h3⟩, st⟩
  · dsimp only [Pt.U, Pt.locs, Pt.cells, Pt.slots] at X' e1 e2 h1 h2 h3 st
    subst h1; subst h2; subst h3
    exact Or.inl ⟨v, (T.setVm vm₁).calling g' mk As.toArray, t, U', L, hT, X', hL, e1, e2, hq, st⟩
  · dsimp only [Pt.U, Pt.locs, Pt.cells, Pt.slots] at X' e1 e2 h1 h2 h3 st hcl
    subst h1; subst h2; subst h3
    exact Or.inr ⟨q, (T.setVm vm₁).calling g' mk As.toArray, t, U', L, E, ce, hT, X', hL, e1, e2, hq, hce, hcv, vx_cls hW₁ hcl, st⟩
end Runs
section Rows
variable {p : Program} {l : Launch} {e : Env} {R : Room} {s : State} {m : MethodId} {args : Array Value} {below : List Frame} {meth : Method} {c : Code} {H : Heap} {locs : List Loc} {cells slots : Nat} {Q : State → Prop}
variable {mc ms : Nat} {free : Addr → Prop} {A0 A1 : Nat → Prop} {H0 : Heap} {a : Array Value} {pc : Nat} {ls : Array Slot} {st0 rest : List Value}
theorem vx_keep {st₀ t T' : State} {L : List Loc} (h0 : st₀.heap = H) (e1 : T'.heap = t.heap) (hS : va_S A0 H0 H locs) (hA : ∀ q, q < H.size → A1 q → A0 q) (hf : ∀ q, free q → A0 q) (hL : ∀ q ∈ L, free q.base) (hF : va_F A1 st₀ t) :
    H.size ≤ T'.heap.size ∧ (∀ q : Nat, q < H.size → ¬ A1 q → T'.heap[q]? = H[q]?) ∧ va_S A0 H0 T'.heap (locs ++ L) := by
  obtain ⟨hz, hk⟩ := hF
  rw [h0] at hz hk
  exact ⟨by rw [e1]; exact hz, fun q h1 h2 => by rw [e1]; exact hk q h1 h2,
    ⟨Nat.le_trans hS.1 (by rw [e1]; exact hz), fun q h1 h2 => by rw [e1, hk q (Nat.lt_of_lt_of_le h1 hS.1) (fun z => h2 (hA q (Nat.lt_of_lt_of_le h1 hS.1) z))]; exact hS.2.1 q h1 h2, fun q hq => by
      rcases List.mem_append.mp hq with h | h
      · exact hS.2.2 q h
      · exact hf _ (hL q h)⟩⟩
theorem vx_calli {S SX : Type} {post : Int32 → S → Prop} {px : SX → Prop} {B : S → State → Prop} {BX : String → SX → State → Prop} {AX : Nat → Prop} (hr : vx_Run p l e R s m args below meth c H locs cells slots mc ms (F0 m pc ls st0) rest (va_Qi post B A1 a) (vx_X px BX AX) free) (hS : va_S A0 H0 H locs) (hA : ∀ q, q < H.size → A1 q → A0 q) (hf : ∀ q, free q → A0 q) (hAX : ∀ q, q < H.size → AX q → A0 q)
    (kx : ∀ (E : String) (ce : Cell) (q9 : Addr) (u : SX) (t : State) (H1 : Heap) (locs1 : List Loc), t.heap = H1 → s.vm.Alike t.vm → px u → BX E u t → H.size ≤ H1.size → (∀ q : Nat, q < H.size → ¬ AX q → H1[q]? = H[q]?) → va_S A0 H0 H1 locs1 → H1[q9]? = some ce → ce.vm = .none → s.vm.findClass E = some ce.cls → vx_W p l e R s m args below meth c H1 locs1 (cells + mc) (slots + ms) Q (F0 m pc ls rest) q9)
    (kk : ∀ (r : Int32) (u : S) (t : State) (H1 : Heap) (locs1 : List Loc), t.heap = H1 → s.vm.Alike t.vm → post r u → B u t → H.size ≤ H1.size → (∀ q : Nat, q < H.size → ¬ A1 q → H1[q]? = H[q]?) → va_S A0 H0 H1 locs1 → W p l e R s m args below meth c H1 locs1 (cells + mc) (slots + ms) Q (F0 m (pc + 3) ls (.int r :: rest))) : W p l e R s m args below meth c H locs cells slots Q (F0 m pc ls st0) := by
  intro T hT X
  rcases hr T hT X with ⟨v, st₀, t, T', L, h0, X', hL, e1, e2, ⟨⟨r, u, hv, hp, hb⟩, hF⟩, st⟩ | ⟨q, st₀, t, T', L, E, ce, h0, X', hL, e1, e2, ⟨u, hp, hb, hF⟩, hce, hcv, hcl, st⟩
  · cases hv
    obtain ⟨k1, k2, k3⟩ := vx_keep h0 e1 hS hA hf hL hF
    obtain ⟨t2, a1, b1⟩ := kk r u t T'.heap (locs ++ L) e1.symm (by rw [← e2]; exact X'.warmed.alike) hp hb k1 k2 k3 T' rfl X'
    exact ⟨t2, st t2 a1, b1⟩
  · obtain ⟨k1, k2, k3⟩ := vx_keep h0 e1 hS hAX hf hL hF
    obtain ⟨t2, a1, b1⟩ := kx E ce q u t T'.heap (locs ++ L) e1.symm (by rw [← e2]; exact X'.warmed.alike) hp hb k1 k2 k3 (by rw [e1]; exact hce) hcv hcl T' rfl X'
    exact ⟨t2, st.trans a1, b1⟩
theorem vx_calll {S SX : Type} {post : Int64 → S → Prop} {px : SX → Prop} {B : S → State → Prop} {BX : String → SX → State → Prop} {AX : Nat → Prop} (hr : vx_Run p l e R s m args below meth c H locs cells slots mc ms (F0 m pc ls st0) rest (va_Ql post B A1 a) (vx_X px BX AX) free) (hS : va_S A0 H0 H locs) (hA : ∀ q, q < H.size → A1 q → A0 q) (hf : ∀ q, free q → A0 q) (hAX : ∀ q, q < H.size → AX q → A0 q)
    (kx : ∀ (E : String) (ce : Cell) (q9 : Addr) (u : SX) (t : State) (H1 : Heap) (locs1 : List Loc), t.heap = H1 → s.vm.Alike t.vm → px u → BX E u t → H.size ≤ H1.size → (∀ q : Nat, q < H.size → ¬ AX q → H1[q]? = H[q]?) → va_S A0 H0 H1 locs1 → H1[q9]? = some ce → ce.vm = .none → s.vm.findClass E = some ce.cls → vx_W p l e R s m args below meth c H1 locs1 (cells + mc) (slots + ms) Q (F0 m pc ls rest) q9)
    (kk : ∀ (r : Int64) (u : S) (t : State) (H1 : Heap) (locs1 : List Loc), t.heap = H1 → s.vm.Alike t.vm → post r u → B u t → H.size ≤ H1.size → (∀ q : Nat, q < H.size → ¬ A1 q → H1[q]? = H[q]?) → va_S A0 H0 H1 locs1 → W p l e R s m args below meth c H1 locs1 (cells + mc) (slots + ms) Q (F0 m (pc + 3) ls (.long r :: rest))) : W p l e R s m args below meth c H locs cells slots Q (F0 m pc ls st0) := by
  intro T hT X
  rcases hr T hT X with ⟨v, st₀, t, T', L, h0, X', hL, e1, e2, ⟨⟨r, u, hv, hp, hb⟩, hF⟩, st⟩ | ⟨q, st₀, t, T', L, E, ce, h0, X', hL, e1, e2, ⟨u, hp, hb, hF⟩, hce, hcv, hcl, st⟩
  · cases hv
    obtain ⟨k1, k2, k3⟩ := vx_keep h0 e1 hS hA hf hL hF
    obtain ⟨t2, a1, b1⟩ := kk r u t T'.heap (locs ++ L) e1.symm (by rw [← e2]; exact X'.warmed.alike) hp hb k1 k2 k3 T' rfl X'
    exact ⟨t2, st t2 a1, b1⟩
  · obtain ⟨k1, k2, k3⟩ := vx_keep h0 e1 hS hAX hf hL hF
    obtain ⟨t2, a1, b1⟩ := kx E ce q u t T'.heap (locs ++ L) e1.symm (by rw [← e2]; exact X'.warmed.alike) hp hb k1 k2 k3 (by rw [e1]; exact hce) hcv hcl T' rfl X'
    exact ⟨t2, st.trans a1, b1⟩
theorem vx_callf {S SX : Type} {post : UInt32 → S → Prop} {px : SX → Prop} {B : S → State → Prop} {BX : String → SX → State → Prop} {AX : Nat → Prop} (hr : vx_Run p l e R s m args below meth c H locs cells slots mc ms (F0 m pc ls st0) rest (va_Qf post B A1 a) (vx_X px BX AX) free) (hS : va_S A0 H0 H locs) (hA : ∀ q, q < H.size → A1 q → A0 q) (hf : ∀ q, free q → A0 q) (hAX : ∀ q, q < H.size → AX q → A0 q)
    (kx : ∀ (E : String) (ce : Cell) (q9 : Addr) (u : SX) (t : State) (H1 : Heap) (locs1 : List Loc), t.heap = H1 → s.vm.Alike t.vm → px u → BX E u t → H.size ≤ H1.size → (∀ q : Nat, q < H.size → ¬ AX q → H1[q]? = H[q]?) → va_S A0 H0 H1 locs1 → H1[q9]? = some ce → ce.vm = .none → s.vm.findClass E = some ce.cls → vx_W p l e R s m args below meth c H1 locs1 (cells + mc) (slots + ms) Q (F0 m pc ls rest) q9)
    (kk : ∀ (r : UInt32) (u : S) (t : State) (H1 : Heap) (locs1 : List Loc), t.heap = H1 → s.vm.Alike t.vm → post r u → B u t → H.size ≤ H1.size → (∀ q : Nat, q < H.size → ¬ A1 q → H1[q]? = H[q]?) → va_S A0 H0 H1 locs1 → W p l e R s m args below meth c H1 locs1 (cells + mc) (slots + ms) Q (F0 m (pc + 3) ls (.float r :: rest))) : W p l e R s m args below meth c H locs cells slots Q (F0 m pc ls st0) := by
  intro T hT X
  rcases hr T hT X with ⟨v, st₀, t, T', L, h0, X', hL, e1, e2, ⟨⟨r, u, hv, hp, hb⟩, hF⟩, st⟩ | ⟨q, st₀, t, T', L, E, ce, h0, X', hL, e1, e2, ⟨u, hp, hb, hF⟩, hce, hcv, hcl, st⟩
  · cases hv
    obtain ⟨k1, k2, k3⟩ := vx_keep h0 e1 hS hA hf hL hF
    obtain ⟨t2, a1, b1⟩ := kk r u t T'.heap (locs ++ L) e1.symm (by rw [← e2]; exact X'.warmed.alike) hp hb k1 k2 k3 T' rfl X'
    exact ⟨t2, st t2 a1, b1⟩
  · obtain ⟨k1, k2, k3⟩ := vx_keep h0 e1 hS hAX hf hL hF
    obtain ⟨t2, a1, b1⟩ := kx E ce q u t T'.heap (locs ++ L) e1.symm (by rw [← e2]; exact X'.warmed.alike) hp hb k1 k2 k3 (by rw [e1]; exact hce) hcv hcl T' rfl X'
    exact ⟨t2, st.trans a1, b1⟩
theorem vx_calld {S SX : Type} {post : UInt64 → S → Prop} {px : SX → Prop} {B : S → State → Prop} {BX : String → SX → State → Prop} {AX : Nat → Prop} (hr : vx_Run p l e R s m args below meth c H locs cells slots mc ms (F0 m pc ls st0) rest (va_Qd post B A1 a) (vx_X px BX AX) free) (hS : va_S A0 H0 H locs) (hA : ∀ q, q < H.size → A1 q → A0 q) (hf : ∀ q, free q → A0 q) (hAX : ∀ q, q < H.size → AX q → A0 q)
    (kx : ∀ (E : String) (ce : Cell) (q9 : Addr) (u : SX) (t : State) (H1 : Heap) (locs1 : List Loc), t.heap = H1 → s.vm.Alike t.vm → px u → BX E u t → H.size ≤ H1.size → (∀ q : Nat, q < H.size → ¬ AX q → H1[q]? = H[q]?) → va_S A0 H0 H1 locs1 → H1[q9]? = some ce → ce.vm = .none → s.vm.findClass E = some ce.cls → vx_W p l e R s m args below meth c H1 locs1 (cells + mc) (slots + ms) Q (F0 m pc ls rest) q9)
    (kk : ∀ (r : UInt64) (u : S) (t : State) (H1 : Heap) (locs1 : List Loc), t.heap = H1 → s.vm.Alike t.vm → post r u → B u t → H.size ≤ H1.size → (∀ q : Nat, q < H.size → ¬ A1 q → H1[q]? = H[q]?) → va_S A0 H0 H1 locs1 → W p l e R s m args below meth c H1 locs1 (cells + mc) (slots + ms) Q (F0 m (pc + 3) ls (.double r :: rest))) : W p l e R s m args below meth c H locs cells slots Q (F0 m pc ls st0) := by
  intro T hT X
  rcases hr T hT X with ⟨v, st₀, t, T', L, h0, X', hL, e1, e2, ⟨⟨r, u, hv, hp, hb⟩, hF⟩, st⟩ | ⟨q, st₀, t, T', L, E, ce, h0, X', hL, e1, e2, ⟨u, hp, hb, hF⟩, hce, hcv, hcl, st⟩
  · cases hv
    obtain ⟨k1, k2, k3⟩ := vx_keep h0 e1 hS hA hf hL hF
    obtain ⟨t2, a1, b1⟩ := kk r u t T'.heap (locs ++ L) e1.symm (by rw [← e2]; exact X'.warmed.alike) hp hb k1 k2 k3 T' rfl X'
    exact ⟨t2, st t2 a1, b1⟩
  · obtain ⟨k1, k2, k3⟩ := vx_keep h0 e1 hS hAX hf hL hF
    obtain ⟨t2, a1, b1⟩ := kx E ce q u t T'.heap (locs ++ L) e1.symm (by rw [← e2]; exact X'.warmed.alike) hp hb k1 k2 k3 (by rw [e1]; exact hce) hcv hcl T' rfl X'
    exact ⟨t2, st.trans a1, b1⟩
theorem vx_callv {S SX : Type} {post : S → Prop} {px : SX → Prop} {B : S → State → Prop} {BX : String → SX → State → Prop} {AX : Nat → Prop} (hr : vx_Run p l e R s m args below meth c H locs cells slots mc ms (F0 m pc ls st0) rest (va_Qv post B A1 a) (vx_X px BX AX) free) (hS : va_S A0 H0 H locs) (hA : ∀ q, q < H.size → A1 q → A0 q) (hf : ∀ q, free q → A0 q) (hAX : ∀ q, q < H.size → AX q → A0 q)
    (kx : ∀ (E : String) (ce : Cell) (q9 : Addr) (u : SX) (t : State) (H1 : Heap) (locs1 : List Loc), t.heap = H1 → s.vm.Alike t.vm → px u → BX E u t → H.size ≤ H1.size → (∀ q : Nat, q < H.size → ¬ AX q → H1[q]? = H[q]?) → va_S A0 H0 H1 locs1 → H1[q9]? = some ce → ce.vm = .none → s.vm.findClass E = some ce.cls → vx_W p l e R s m args below meth c H1 locs1 (cells + mc) (slots + ms) Q (F0 m pc ls rest) q9)
    (kk : ∀ (u : S) (t : State) (H1 : Heap) (locs1 : List Loc), t.heap = H1 → s.vm.Alike t.vm → post u → B u t → H.size ≤ H1.size → (∀ q : Nat, q < H.size → ¬ A1 q → H1[q]? = H[q]?) → va_S A0 H0 H1 locs1 → W p l e R s m args below meth c H1 locs1 (cells + mc) (slots + ms) Q (F0 m (pc + 3) ls (rest))) : W p l e R s m args below meth c H locs cells slots Q (F0 m pc ls st0) := by
  intro T hT X
  rcases hr T hT X with ⟨v, st₀, t, T', L, h0, X', hL, e1, e2, ⟨⟨u, hv, hp, hb⟩, hF⟩, st⟩ | ⟨q, st₀, t, T', L, E, ce, h0, X', hL, e1, e2, ⟨u, hp, hb, hF⟩, hce, hcv, hcl, st⟩
  · cases hv
    obtain ⟨k1, k2, k3⟩ := vx_keep h0 e1 hS hA hf hL hF
    obtain ⟨t2, a1, b1⟩ := kk u t T'.heap (locs ++ L) e1.symm (by rw [← e2]; exact X'.warmed.alike) hp hb k1 k2 k3 T' rfl X'
    exact ⟨t2, st t2 a1, b1⟩
  · obtain ⟨k1, k2, k3⟩ := vx_keep h0 e1 hS hAX hf hL hF
    obtain ⟨t2, a1, b1⟩ := kx E ce q u t T'.heap (locs ++ L) e1.symm (by rw [← e2]; exact X'.warmed.alike) hp hb k1 k2 k3 (by rw [e1]; exact hce) hcv hcl T' rfl X'
    exact ⟨t2, st.trans a1, b1⟩
/-- caught by the row x of this method's table; the rows ahead don't take it -/
theorem vx_catch {own name : String} {E : String} {ce : Cell} {q : Addr} (hown : s.vm.findClass own = some m.cls) (pre : List ExceptionTableEntry) (x : ExceptionTableEntry) (suf : List ExceptionTableEntry) (hsplit : c.exceptionTable.toList = pre ++ x :: suf)
    (hpass : ∀ z ∈ pre, covers z pc = false ∨ (z.catchType ≠ 0 ∧ ∃ nm : String, (Cond.classLink own z.catchType nm).before args s = true ∧ va_Nc E nm s)) (hx : covers x pc = true) (h0 : x.catchType ≠ 0)
    (hlink : (Cond.classLink own x.catchType name).before args s = true) (hcast : (Cond.castable E name).before args s = true) (hcell : H[q]? = some ce) (hv : ce.vm = .none) (hcl : s.vm.findClass E = some ce.cls)
    (kk : W p l e R s m args below meth c H locs cells slots Q (F0 m x.handlerPc ls [.ref q])) : vx_W p l e R s m args below meth c H locs cells slots Q (F0 m pc ls rest) q := by
  intro T hT X
  have hpl : e.platform.magicAccessors = ({} : Platform).magicAccessors := by rw [X.admits.platform]
  obtain ⟨c3, c4, hc3, hc4, hasg⟩ := Cond.castable_spec hcast
  cases Option.some.inj (hc3.symm.trans hcl)
  obtain ⟨c5, hc5, hcl5⟩ := Cond.classLink_spec hown hlink e.platform hpl
  cases Option.some.inj (hc4.symm.trans hc5)
  obtain ⟨vm', X', st⟩ := X.thenCaughtThrough q (g := F0 m pc ls rest) rfl (Steps.refl _) (by rw [hT]; exact hcell) (by rw [hv]; rfl) (by obtain ⟨k9, h9, -⟩ := Vm.findClass_spec hcl; exact ⟨k9, h9⟩) pre x suf hsplit
    (fun z hz => by
      rcases hpass z hz with h | ⟨hz0, nm, hl1, hn1⟩
      · exact Or.inl h
      · obtain ⟨c6, hc6, hcl6⟩ := Cond.classLink_spec hown hl1 e.platform hpl
        obtain ⟨a8, b8, h1, h2, h3⟩ := hn1
        cases Option.some.inj (h1.symm.trans hcl)
        cases Option.some.inj (h2.symm.trans hc6)
        exact Or.inr ⟨hz0, _, hcl6, h3⟩) hx (Or.inr ⟨h0, c4, hcl5, hasg⟩)
  obtain ⟨t, a1, b1⟩ := kk (T.setVm vm') hT X'
  exact ⟨t, st.trans a1, b1⟩
end Rows
section Ends
variable {p : Program} {l : Launch} {e : Env} {R : Room} {s : State} {m : MethodId} {args : Array Value} {below : List Frame} {meth : Method} {c : Code} {H : Heap} {locs : List Loc} {cells slots : Nat} {Q : State → Prop}
variable {mc ms : Nat} {free : Addr → Prop} {A0 A1 : Nat → Prop} {H0 : Heap} {a : Array Value} {ls : Array Slot} {st0 rest : List Value}
variable {Qc : Array Value → State → Outcome → State → Prop} {XC : String → State → State → Prop}
/-- what a body that may throw owes at its end -/
def vx_MQ (below : List Frame) (Qc : Array Value → State → Outcome → State → Prop) (XC : String → State → State → Prop) (a : Array Value) (s : State) (mc ms : Nat) (free : Addr → Prop) : State → Prop := fun t =>
  ∃ o, t.status = .running ∧ Ended t below o ∧ vx_Q Qc XC mc ms free a s o t
theorem vx_ret {g : JFrame} {mc ms : Nat} (k : W p l e R s m args below meth c H locs cells slots (MQ below Qc args s mc ms free) g) : W p l e R s m args below meth c H locs cells slots (vx_MQ below Qc XC args s mc ms free) g := by
  intro T hT X
  obtain ⟨t, a1, o, b1, b2, b3, b4⟩ := k T hT X
  exact ⟨t, a1, o, b1, b2, Or.inl ⟨b3, b4⟩⟩
/-- not caught here: it goes on to the caller -/
theorem vx_widen {g : JFrame} {q : Addr} {k n : Nat} (h1 : cells ≤ k) (h2 : slots ≤ n) (kk : vx_W p l e R s m args below meth c H locs k n Q g q) : vx_W p l e R s m args below meth c H locs cells slots Q g q := fun T hT X => kk T hT (stand_widen X h1 h2)
theorem vx_out {pc : Nat} {E : String} {ce : Cell} {q : Addr} {mc ms : Nat} (hout : ∀ x ∈ c.exceptionTable.toList, covers x pc = false) (hlocks : meth.locks = false) (hcell : H[q]? = some ce) (hv : ce.vm = .none) (hcl : s.vm.findClass E = some ce.cls)
    (hx : ∀ t : State, t.heap = H → s.vm.Alike t.vm → XC E s t) (hf : ∀ z ∈ locs, free z.base) (hc : cells ≤ mc) (hs : slots ≤ ms) :
    vx_W p l e R s m args below meth c H locs cells slots (vx_MQ below Qc XC args s mc ms free) (F0 m pc ls rest) q := by
  intro T hT X
  obtain ⟨st1, hrun, hend, hW, hsm⟩ := X.leaveThrown q (g := F0 m pc ls rest) rfl rfl rfl hout hlocks
  have hcell9 : (T.setFrames (.throwing q :: below)).heap[q]? = some ce := by
    show T.heap[q]? = some ce
    rw [hT]; exact hcell
  exact ⟨_, st1, .threw q, hrun, hend, Or.inr ⟨q, rfl, E, ce, locs, hx _ hT hW.alike, hcell9, hv, hcl, hW, hsm.mono hc hs, hf⟩⟩
theorem vx_frame {U : State} {k n : Nat} (h : s.sameButNew ({ U with vm := s.vm } : State) locs k n) : s.heap.size ≤ U.heap.size ∧ ∀ q : Nat, q < s.heap.size → (∀ z ∈ locs, z.base ≠ q) → U.heap[q]? = s.heap[q]? := by
  obtain ⟨-, h2, -, -, -, h6⟩ := h
  refine ⟨h2, fun q hq hz => ?_⟩
  obtain ⟨c9, e1, e2, e3, e4⟩ := h6 q _ (Array.getElem?_eq_getElem hq)
  have hs : c9.slots = (s.heap[q]).slots := Array.ext_getElem? fun i => e4 i fun hm => hz _ hm rfl
  have h9 : c9 = s.heap[q] := by
    rw [hs] at e2
    exact e2
  have e5 : U.heap[q]? = some c9 := e1
  rw [e5, h9, Array.getElem?_eq_getElem hq]
/-- the words of a throw but the four that speak of the heap -/
def vx_no (w : Cond) : Bool := decide (w ≠ .isRef (.static Bundle.tN "UNASSIGNED_STACK" Bundle.steD)) && decide (w ≠ .isRef (.static Bundle.tN "SUPPRESSED_SENTINEL" Bundle.listD)) && decide (w ≠ .laysStatic Bundle.tN "UNASSIGNED_STACK" Bundle.steD) && decide (w ≠ .laysStatic Bundle.tN "SUPPRESSED_SENTINEL" Bundle.listD)
def vx_at0 (own : String) (ic : Nat) (X : String) (names : List String) : List Cond := (Bundle.ownAtoms0 own ic X names).filter vx_no
def vx_atS (own : String) (ic : Nat) (X : String) (names : List String) : List Cond := (Bundle.ownAtoms own ic X names).filter vx_no
/-- a word that the tables alone decide, or a good one -/
def vx_ot (w : Cond) : Bool := w.onTables || goodWord w
theorem vx_ot_at {args a' : Array Value} {s U : State} {w : Cond} (hW : s.WarmedH U.vm) (hvm : s.vm = U.vm) (hg : vx_ot w = true) (h : w.before args s = true) : w.before a' U = true := by
  simp only [vx_ot, Bool.or_eq_true] at hg
  rcases hg with hg | hg
  · exact va_tabs hg hvm h
  · exact word_at hW (good_of_word hg) h
/-- a list's words: the good ones out of the method's own list, the others by premises of their own -/
theorem vx_hat {args : Array Value} {s : State} {L B : List Cond} (h1 : ∀ w ∈ L.filter goodWord, w.before args s = true) (h2 : ∀ w ∈ L.filter (fun w => !goodWord w), w ∈ B) (h3 : ∀ w ∈ B, w.before args s = true) : ∀ w ∈ L, w.before args s = true := by
  intro w hw
  by_cases g : goodWord w = true
  · exact h1 w (List.mem_filter.mpr ⟨hw, g⟩)
  · refine h3 w (h2 w (List.mem_filter.mpr ⟨hw, ?_⟩))
    show (!goodWord w) = true
    cases hgw : goodWord w
    · rfl
    · exact absurd hgw g
theorem vx_c {args : Array Value} {s : State} {w : Cond} {B : List Cond} (h : w.before args s = true) (t : ∀ w ∈ B, w.before args s = true) : ∀ w' ∈ w :: B, w'.before args s = true := fun w' h' => (List.mem_cons.mp h').elim (fun e => by rw [e]; exact h) (t w')
theorem vx_n {args : Array Value} {s : State} : ∀ w ∈ ([] : List Cond), w.before args s = true := fun _ h => nomatch h
theorem vx_own {args : Array Value} {s : State} {L : List Cond} (h1 : ∀ w ∈ L.filter vx_no, w.before args s = true)
    (hU : (Cond.isRef (.static Bundle.tN "UNASSIGNED_STACK" Bundle.steD)).before args s = true) (hN : (Cond.isRef (.static Bundle.tN "SUPPRESSED_SENTINEL" Bundle.listD)).before args s = true)
    (lU : (Cond.laysStatic Bundle.tN "UNASSIGNED_STACK" Bundle.steD).before args s = true) (lN : (Cond.laysStatic Bundle.tN "SUPPRESSED_SENTINEL" Bundle.listD).before args s = true) : ∀ w ∈ L, w.before args s = true := by
  intro w hw
  by_cases e1 : w = .isRef (.static Bundle.tN "UNASSIGNED_STACK" Bundle.steD)
  · rw [e1]; exact hU
  · by_cases e2 : w = .isRef (.static Bundle.tN "SUPPRESSED_SENTINEL" Bundle.listD)
    · rw [e2]; exact hN
    · by_cases e3 : w = .laysStatic Bundle.tN "UNASSIGNED_STACK" Bundle.steD
      · rw [e3]; exact lU
      · by_cases e4 : w = .laysStatic Bundle.tN "SUPPRESSED_SENTINEL" Bundle.listD
        · rw [e4]; exact lN
        · exact h1 w (List.mem_filter.mpr ⟨hw, by unfold vx_no; rw [decide_eq_true e1, decide_eq_true e2, decide_eq_true e3, decide_eq_true e4]; rfl⟩)
/-- where a static field lies, its class's statics cell in H -/
def vx_L (C n d : String) (A : Nat → Prop) (U : State) (H : Heap) : Prop := ∃ (c : ClassId) (k : Class) (i : Nat) (f : Field) (a : Nat) (cell : Cell), U.vm.findClass C = some c ∧ U.fieldFound? C n d = some (c, k, i, f) ∧ f.isStatic = true ∧ k.statics = some a ∧ H[a]? = some cell ∧ cell.vm.isStatics = true ∧ cell.cls = c ∧ f.slot < cell.slots.size ∧ k.staticTypes[f.slot]? = some f.type ∧ ¬ A a
theorem vx_L.moved {C n d : String} {A : Nat → Prop} {u U : State} {H : Heap} (hvm : u.vm.Alike U.vm) (h : vx_L C n d A u H) : vx_L C n d A U H := by
  obtain ⟨c, k, i, f, a, cell, h1, h2, h3, h4, h5, h6, h7, h8, h9, h10⟩ := h
  obtain ⟨k', hi', he⟩ := State.fieldFound?_setVm hvm h2
  exact ⟨c, k', i, f, a, cell, by rw [hvm.findClass]; exact h1, hi', h3, by rw [he]; exact h4, h5, h6, h7, h8, by rw [he]; exact h9, h10⟩
theorem vx_L.kept {C n d : String} {A : Nat → Prop} {U : State} {H H1 : Heap} (h : vx_L C n d A U H) (hq : ∀ a : Nat, a < H.size → ¬ A a → H1[a]? = H[a]?) : vx_L C n d A U H1 := by
  obtain ⟨c, k, i, f, a, cell, h1, h2, h3, h4, h5, h6, h7, h8, h9, h10⟩ := h
  exact ⟨c, k, i, f, a, cell, h1, h2, h3, h4, by rw [hq a (Array.getElem?_eq_some_iff.mp h5).1 h10]; exact h5, h6, h7, h8, h9, h10⟩
theorem vx_L.narrow {C n d : String} {A B : Nat → Prop} {U : State} {H : Heap} (h : vx_L C n d A U H) (hAB : ∀ q, B q → A q) : vx_L C n d B U H := by
  obtain ⟨c, k, i, f, a, cell, h1, h2, h3, h4, h5, h6, h7, h8, h9, h10⟩ := h
  exact ⟨c, k, i, f, a, cell, h1, h2, h3, h4, h5, h6, h7, h8, h9, fun z => h10 (hAB _ z)⟩
theorem vx_L.word {C n d : String} {A : Nat → Prop} {s : State} {args : Array Value} (h : vx_L C n d A s s.heap) : (Cond.laysStatic C n d).before args s = true := by
  obtain ⟨c, k, i, f, a, cell, h1, h2, h3, h4, h5, h6, h7, h8, h9, -⟩ := h
  show (Cond.laysStatic C n d).holds args s none s [] = true
  exact Cond.laysStatic_of h1 h2 h3 h4 h5 h6 h7 h8 h9
/-- .. and what it holds: null or some reference -/
def vx_Zq (C n d : String) (A : Nat → Prop) (U : State) (H : Heap) : Prop := va_Zq C n d A U H ∧ vx_L C n d A U H
theorem vx_Zq.moved {C n d : String} {A : Nat → Prop} {u U : State} {H : Heap} (hvm : u.vm.Alike U.vm) (h : vx_Zq C n d A u H) : vx_Zq C n d A U H := ⟨va_Zq.moved hvm h.1, vx_L.moved hvm h.2⟩
theorem vx_Zq.kept {C n d : String} {A : Nat → Prop} {U : State} {H H1 : Heap} (h : vx_Zq C n d A U H) (hq : ∀ a : Nat, a < H.size → ¬ A a → H1[a]? = H[a]?) : vx_Zq C n d A U H1 := ⟨va_Zq.kept h.1 hq, vx_L.kept h.2 hq⟩
theorem vx_Zq.narrow {C n d : String} {A B : Nat → Prop} {U : State} {H : Heap} (h : vx_Zq C n d A U H) (hAB : ∀ q, B q → A q) : vx_Zq C n d B U H := ⟨va_Zq.narrow h.1 hAB, vx_L.narrow h.2 hAB⟩
theorem vx_Zqof {args : Array Value} {s : State} {C n d : String} {A : Nat → Prop} (hl : (Cond.laysStatic C n d).before args s = true) (hini : (Cond.initialized C).before args s = true) (h : (Cond.isRef (.static C n d)).before args s = true) (hA : ∀ a : Nat, a < s.heap.size → ¬ A a) : vx_Zq C n d A s s.heap := by
  refine ⟨va_Zqof hl hini h hA, ?_⟩
  obtain ⟨c, k, i, f, a, cell, h1, h2, h3, h4, h5, h6, h7, h8, h9⟩ := Cond.laysStatic_spec hl
  exact ⟨c, k, i, f, a, cell, h1, h2, h3, h4, h5, h6, h7, h8, h9, hA a (Array.getElem?_eq_some_iff.mp h5).1⟩
theorem vx_isRef {C n d : String} {v : Value} {A : Nat → Prop} {s : State} {args : Array Value} (h : va_Z C n d v A s s.heap) (hv : v.isRef = true) : (Cond.isRef (.static C n d)).before args s = true := by
  obtain ⟨cf, kf, fi, f, a, cell, h1, h2, h3, h4, h5, h6, h7, -⟩ := h
  have he : (Term.static C n d).eval args s none [] s = some v := by
    simp [Term.eval, State.fieldNamed?, h1, h2, h4, h5, h6, h7]
  simp only [Cond.before, Cond.holds, Cond.value, he]
  cases v <;> simp_all [Value.isRef]
theorem vx_isRefq {C n d : String} {A : Nat → Prop} {s : State} {args : Array Value} (h : va_Zq C n d A s s.heap) : (Cond.isRef (.static C n d)).before args s = true := by
  rcases h with h | ⟨t, h⟩
  · exact vx_isRef h rfl
  · exact vx_isRef h rfl
/-- the same frame, seen from here: as if the method were called anew in this heap -/
theorem vx_rebase {T : State} (X : Stand p l e R s m args below meth c T locs cells slots) {R' : Room} (hf : R'.frames ≤ R.frames) (hl : R'.locals ≤ R.locals) (hc : cells + R'.cells ≤ R.cells) (hs : slots + R'.slots ≤ R.slots) :
    Stand p l e R' ((T.setVm s.vm).setFrames (.invoking m args :: below)) m args below meth c T [] 0 0 := by
  have htop : (T.setVm s.vm).topJava?.isSome := X.here.top
  have hF : ((T.setVm s.vm).setFrames (.invoking m args :: below)).frames = .invoking m args :: below := State.frames_setFrames _ (State.cur_lt_of_top htop)
  obtain ⟨g₀, hg0⟩ := Option.isSome_iff_exists.mp htop
  obtain ⟨r, hr⟩ := State.topJava?_eq_some.mp hg0
  have hl9 : e.platform.stackLimits (T.setVm s.vm).me = e.platform.stackLimits s.me := X.limits
  have hb9 : (T.setVm s.vm).me.stackBytes = s.me.stackBytes := X.bytes
  refine ⟨X.admits, X.cas, X.clock, hF, ?_, X.hears, X.method, X.code, X.here, X.tail, X.warmed, ?_, ?_, ?_⟩
  · have h := X.room
    have hU : ((T.setVm s.vm).setFrames (.invoking m args :: below)).localsInUse = s.localsInUse := by
      rw [State.localsInUse_invoking hF (meth := meth) (c := c) X.method X.code, State.localsInUse_invoking X.frames X.method X.code]
    simp only [State.hasRoom, Bool.and_eq_true, decide_eq_true_eq] at h ⊢
    obtain ⟨⟨⟨⟨h1, h2, h3, h4, h5, h6⟩, h7⟩, h8⟩, h9⟩ := h
    rw [X.frames, List.length_cons] at h2 h3
    have q1 := X.heapSize
    have q2 := X.used
    simp only [hF, hU, List.length_cons, State.stackLimits_setFrames, State.stackBytes_setFrames, hl9, hb9]
    refine ⟨⟨⟨⟨by omega, by omega, by omega, by omega, by omega, h6⟩, ?_⟩, ?_⟩, X.book⟩
    · show T.heap.size + R'.cells ≤ e.platform.maxCells
      omega
    · show T.slotsUsed + R'.slots ≤ e.platform.maxSlots
      omega
  · rw [State.stackLimits_setFrames]; rfl
  · rw [State.stackBytes_setFrames]; rfl
  · refine ⟨?_, Nat.le_refl _, Nat.le_refl _, ?_, ?_, fun a c9 h9 => ⟨c9, h9, rfl, rfl, fun _ _ => rfl⟩⟩
    · obtain ⟨t, ht, -⟩ := State.frames_cons hr
      show T.setVm s.vm = { ((T.setVm s.vm).setFrames (.invoking m args :: below)).setFrames (T.setVm s.vm).frames with heap := T.heap, slotsUsed := T.slotsUsed }
      rw [State.setFrames_setFrames, State.setFrames_self ht]
      rfl
    · show T.slotsUsed = T.slotsUsed + ((T.heap.toList.drop T.heap.size).map (·.slots.size)).sum
      rw [List.drop_eq_nil_of_le (Nat.le_of_eq Array.length_toList)]
      rfl
    · show ((T.heap.toList.drop T.heap.size).map (·.slots.size)).sum ≤ 0
      rw [List.drop_eq_nil_of_le (Nat.le_of_eq Array.length_toList)]
      exact Nat.le_refl _
/-- 'throw new E()': new; dup; invokespecial; athrow -/
theorem vx_throw0 {cc : ByteArray} {pc : Nat} (hexec : p.tables.exec = Jvm.exec) (hb : c.code = cc) (hl : l.stackTraces = false) {own cls : String} {names : List String} {ik ic mc ms : Nat} {A : Nat → Prop}
    (hown : s.vm.findClass own = some m.cls) (hcls : Bundle.fit cls = true) (hnames : ∀ n ∈ names, Bundle.fit n = true)
    (hk : (Cond.classLink own ik cls).before args s = true) (hini : (Cond.initialized cls).before args s = true) (hat : ∀ w ∈ vx_at0 own ic cls names, w.before args s = true)
    (hgood : ∀ w ∈ Cond.classLink own ik cls :: Cond.initialized cls :: vx_at0 own ic cls names, vx_ot w = true)
    (hU : vx_Zq Bundle.tN "UNASSIGNED_STACK" Bundle.steD A s s.heap) (hN : vx_Zq Bundle.tN "SUPPRESSED_SENTINEL" Bundle.listD A s s.heap) (hS : va_S A s.heap H locs) (hsize : ls.size = c.maxLocals)
    (d0 : decode cc pc = .ok (.new ik, 3)) (d3 : decode cc (pc + 3) = .ok (.dup, 1)) (d4 : decode cc (pc + 4) = .ok (.invokespecial ic, 3)) (d7 : decode cc (pc + 7) = .ok (.athrow, 1))
    (hout : ∀ x ∈ c.exceptionTable.toList, covers x (pc + 7) = false)
    (hRframes : names.length + 3 < R.frames) (hRlocals : (rest.map fun v => v.category).sum + (13 * (names.length + 1) + 42) ≤ R.locals) (hRcells : cells + 1 ≤ R.cells) (hRslots : slots + 6 ≤ R.slots) (hlocks : meth.locks = false)
    (hx : ∀ t : State, s.vm.Alike t.vm → H.size ≤ t.heap.size → (∀ q : Nat, q < H.size → t.heap[q]? = H[q]?) → XC cls s t)
    (hf : ∀ z ∈ locs, free z.base) (hc : cells + 1 ≤ mc) (hs : slots + 6 ≤ ms) :
    W p l e R s m args below meth c H locs cells slots (vx_MQ below Qc XC args s mc ms free) (F0 m pc ls rest) := by
  intro T hT X
  have htr : e.platform.stackTraces = false := (show e.platform.stackTraces = l.stackTraces by rw [X.admits.platform]).trans hl
  have Y := vx_rebase X (R' := { frames := R.frames, locals := R.locals, cells := 1, slots := 6 }) (Nat.le_refl _) (Nat.le_refl _) hRcells hRslots
  obtain ⟨s', hA⟩ : ∃ z, z = (T.setVm s.vm).setFrames (.invoking m args :: below) := ⟨_, rfl⟩
  rw [← hA] at Y
  have hvm : s'.vm = s.vm := by rw [hA]; rfl
  have hhp : s'.heap = H := by rw [hA]; exact hT
  have hW0 : s.WarmedH s'.vm := by rw [hvm]; exact State.WarmedH.refl s
  have hat' : ∀ w ∈ vx_at0 own ic cls names, w.before args s' = true := fun w hw => vx_ot_at hW0 hvm.symm (hgood w (List.mem_cons_of_mem _ (List.mem_cons_of_mem _ hw))) (hat w hw)
  have hk' : (Cond.classLink own ik cls).before args s' = true := vx_ot_at hW0 hvm.symm (hgood _ List.mem_cons_self) hk
  have hini' : (Cond.initialized cls).before args s' = true := vx_ot_at hW0 hvm.symm (hgood _ (List.mem_cons_of_mem _ List.mem_cons_self)) hini
  have hU' : vx_Zq Bundle.tN "UNASSIGNED_STACK" Bundle.steD A s' s'.heap := by rw [hhp]; exact vx_Zq.moved hW0.alike (hU.kept hS.2.1)
  have hN' : vx_Zq Bundle.tN "SUPPRESSED_SENTINEL" Bundle.listD A s' s'.heap := by rw [hhp]; exact vx_Zq.moved hW0.alike (hN.kept hS.2.1)
  have h : ∀ w ∈ Bundle.ownAtoms0 own ic cls names, w.before args s' = true := vx_own hat' (vx_isRefq hU'.1) (vx_isRefq hN'.1) hU'.2.word hN'.2.word
  have hown' : s'.vm.findClass own = some m.cls := by rw [hvm]; exact hown
  have hins : (Cond.instantiable cls 6).before args s' = true := h _ (by simp [Bundle.ownAtoms0])
  obtain ⟨vm₁, cX, kX, hfX, hkX, -, -, X₁, st1⟩ := Y.newCold hexec (own := own) (C := cls) (index := ik) (n := 6) hown' hk' hins hini'
    (g := F0 m pc ls rest) rfl (by rw [hb]; exact d0) (Nat.le_refl _) (Nat.le_refl _)
  generalize hT1 : (T.setVm vm₁).pushCell { cls := cX, slots := kX.instanceTypes.map defaultValue, vm := .none } = T1 at X₁ st1
  have hcat : (Value.ref T.heap.size).category = 1 := rfl
  have hcellA : T1.heap[T.heap.size]? = some (freshCell cX kX) := by rw [← hT1]; exact State.heap_pushCell_size _ _
  have d3' : decode c.code (pc + 3) = .ok (.dup, 1) := by rw [hb]; exact d3
  obtain ⟨U, hsteps, hrun, hend, hW, hsame, ce, hce, hO⟩ := X₁.ctorThrow0 hexec htr (own := own) (cls := cls) (names := names) (ic := ic) hown' hcls hnames h (fun x hx => nomatch hx) hfX hkX hcellA (by rw [hhp, hT]; exact Nat.le_refl _)
    (g := { method := m, pc := pc + 4, locals := ls, stack := .ref T.heap.size :: .ref T.heap.size :: rest, locked := none }) rfl hsize rfl rfl (rest := rest) rfl
    (by rw [hb]; exact d4) (by rw [hb]; exact d7) hout hRframes (by simp only [List.map_cons, List.sum_cons, hcat]; omega) hlocks
  obtain ⟨f1, f2⟩ := vx_frame hsame
  rw [hhp] at f1 f2
  have hWs : s.WarmedH U.vm := State.WarmedH.trans hW0 hW
  have hcl : s.vm.findClass cls = some ce.cls := by
    have h9 := hO.cls
    rw [hvm] at h9
    exact h9
  have hall : s.sameButNew ({ U with vm := s.vm } : State) locs mc ms := by
    subst hA
    obtain ⟨e1, e2⟩ := hsame
    rw [State.setFrames_setFrames] at e1
    have h2 : (T.setVm s.vm).sameButNew ({ U with vm := s.vm } : State) [] (0 + 1) (0 + 6) := ⟨e1, e2⟩
    have h3 := X.same.trans h2
    rw [List.append_nil] at h3
    exact h3.mono hc hs
  refine ⟨U, ?_, .threw T.heap.size, hrun, hend, Or.inr ⟨T.heap.size, rfl, cls, ce, locs, hx U hWs.alike f1 (fun q hq => f2 q hq (fun z hz => nomatch hz)), hce, hO.vm, hcl, hWs, hall, hf⟩⟩
  refine st1 _ ?_
  show Steps p.tables e below (T1.setTop { method := m, pc := pc + 3, locals := ls, stack := .ref T.heap.size :: rest, locked := none }) _
  jvm_step X₁.here [X₁.here.top, hexec, d3', Value.category]
  exact hsteps
/-- 'throw new E("text")': new; dup; ldc; invokespecial; athrow -/
theorem vx_throwS {cc : ByteArray} {pc : Nat} (hexec : p.tables.exec = Jvm.exec) (hb : c.code = cc) (hl : l.stackTraces = false) {own cls text : String} {names : List String} {ik is ic mc ms sa : Nat} {A : Nat → Prop}
    (hown : s.vm.findClass own = some m.cls) (hcls : Bundle.fit cls = true) (hnames : ∀ n ∈ names, Bundle.fit n = true)
    (hk : (Cond.classLink own ik cls).before args s = true) (hini : (Cond.initialized cls).before args s = true) (hstr : vk_R own is text sa s) (hat : ∀ w ∈ vx_atS own ic cls names, w.before args s = true)
    (hgood : ∀ w ∈ Cond.classLink own ik cls :: Cond.initialized cls :: vx_atS own ic cls names, vx_ot w = true)
    (hU : vx_Zq Bundle.tN "UNASSIGNED_STACK" Bundle.steD A s s.heap) (hN : vx_Zq Bundle.tN "SUPPRESSED_SENTINEL" Bundle.listD A s s.heap) (hS : va_S A s.heap H locs) (hsize : ls.size = c.maxLocals)
    (d0 : decode cc pc = .ok (.new ik, 3)) (d3 : decode cc (pc + 3) = .ok (.dup, 1)) (d4 : decode cc (pc + 4) = .ok (.ldc is, 2)) (d6 : decode cc (pc + 6) = .ok (.invokespecial ic, 3)) (d9 : decode cc (pc + 9) = .ok (.athrow, 1))
    (hout : ∀ x ∈ c.exceptionTable.toList, covers x (pc + 9) = false)
    (hRframes : names.length + 3 < R.frames) (hRlocals : (rest.map fun v => v.category).sum + (13 * (names.length + 1) + 43) ≤ R.locals) (hRcells : cells + 1 ≤ R.cells) (hRslots : slots + 6 ≤ R.slots) (hlocks : meth.locks = false)
    (hx : ∀ t : State, s.vm.Alike t.vm → H.size ≤ t.heap.size → (∀ q : Nat, q < H.size → t.heap[q]? = H[q]?) → XC cls s t)
    (hf : ∀ z ∈ locs, free z.base) (hc : cells + 1 ≤ mc) (hs : slots + 6 ≤ ms) :
    W p l e R s m args below meth c H locs cells slots (vx_MQ below Qc XC args s mc ms free) (F0 m pc ls rest) := by
  intro T hT X
  have htr : e.platform.stackTraces = false := (show e.platform.stackTraces = l.stackTraces by rw [X.admits.platform]).trans hl
  have Y := vx_rebase X (R' := { frames := R.frames, locals := R.locals, cells := 1, slots := 6 }) (Nat.le_refl _) (Nat.le_refl _) hRcells hRslots
  obtain ⟨s', hA⟩ : ∃ z, z = (T.setVm s.vm).setFrames (.invoking m args :: below) := ⟨_, rfl⟩
  rw [← hA] at Y
  have hvm : s'.vm = s.vm := by rw [hA]; rfl
  have hhp : s'.heap = H := by rw [hA]; exact hT
  have hW0 : s.WarmedH s'.vm := by rw [hvm]; exact State.WarmedH.refl s
  have hat' : ∀ w ∈ vx_atS own ic cls names, w.before args s' = true := fun w hw => vx_ot_at hW0 hvm.symm (hgood w (List.mem_cons_of_mem _ (List.mem_cons_of_mem _ hw))) (hat w hw)
  have hk' : (Cond.classLink own ik cls).before args s' = true := vx_ot_at hW0 hvm.symm (hgood _ List.mem_cons_self) hk
  have hini' : (Cond.initialized cls).before args s' = true := vx_ot_at hW0 hvm.symm (hgood _ (List.mem_cons_of_mem _ List.mem_cons_self)) hini
  have hU' : vx_Zq Bundle.tN "UNASSIGNED_STACK" Bundle.steD A s' s'.heap := by rw [hhp]; exact vx_Zq.moved hW0.alike (hU.kept hS.2.1)
  have hN' : vx_Zq Bundle.tN "SUPPRESSED_SENTINEL" Bundle.listD A s' s'.heap := by rw [hhp]; exact vx_Zq.moved hW0.alike (hN.kept hS.2.1)
  have h : ∀ w ∈ Bundle.ownAtoms own ic cls names, w.before args s' = true := vx_own hat' (vx_isRefq hU'.1) (vx_isRefq hN'.1) hU'.2.word hN'.2.word
  have hown' : s'.vm.findClass own = some m.cls := by rw [hvm]; exact hown
  have hins : (Cond.instantiable cls 6).before args s' = true := h _ (by simp [Bundle.ownAtoms])
  obtain ⟨vm₁, cX, kX, hfX, hkX, -, -, X₁, st1⟩ := Y.newCold hexec (own := own) (C := cls) (index := ik) (n := 6) hown' hk' hins hini'
    (g := F0 m pc ls rest) rfl (by rw [hb]; exact d0) (Nat.le_refl _) (Nat.le_refl _)
  generalize hT1 : (T.setVm vm₁).pushCell { cls := cX, slots := kX.instanceTypes.map defaultValue, vm := .none } = T1 at X₁ st1
  have hcat : (Value.ref T.heap.size).category = 1 := rfl
  have hcellA : T1.heap[T.heap.size]? = some (freshCell cX kX) := by rw [← hT1]; exact State.heap_pushCell_size _ _
  have d3' : decode c.code (pc + 3) = .ok (.dup, 1) := by rw [hb]; exact d3
  have d4' : decode c.code (pc + 4) = .ok (.ldc is, 2) := by rw [hb]; exact d4
  have hstr' : vk_R own is text sa s' := vk_R.warm hW0 hstr
  obtain ⟨U, hsteps, hrun, hend, hW, hsame, ce, hce, hO⟩ := X₁.ctorThrowS hexec htr (own := own) (cls := cls) (names := names) (ic := ic) hown' hcls hnames h (fun x hx => nomatch hx) hfX hkX hcellA (by rw [hhp, hT]; exact Nat.le_refl _) (msg := .ref sa) rfl
    (g := { method := m, pc := pc + 6, locals := ls, stack := .ref sa :: .ref T.heap.size :: .ref T.heap.size :: rest, locked := none }) rfl hsize rfl rfl (rest := rest) rfl
    (by rw [hb]; exact d6) (by rw [hb]; exact d9) hout hRframes (by simp only [List.map_cons, List.sum_cons, hcat]; omega) hlocks
  obtain ⟨f1, f2⟩ := vx_frame hsame
  rw [hhp] at f1 f2
  have hWs : s.WarmedH U.vm := State.WarmedH.trans hW0 hW
  have hcl : s.vm.findClass cls = some ce.cls := by
    have h9 := hO.cls
    rw [hvm] at h9
    exact h9
  have hall : s.sameButNew ({ U with vm := s.vm } : State) locs mc ms := by
    subst hA
    obtain ⟨e1, e2⟩ := hsame
    rw [State.setFrames_setFrames] at e1
    have h2 : (T.setVm s.vm).sameButNew ({ U with vm := s.vm } : State) [] (0 + 1) (0 + 6) := ⟨e1, e2⟩
    have h3 := X.same.trans h2
    rw [List.append_nil] at h3
    exact h3.mono hc hs
  refine ⟨U, ?_, .threw T.heap.size, hrun, hend, Or.inr ⟨T.heap.size, rfl, cls, ce, locs, hx U hWs.alike f1 (fun q hq => f2 q hq (fun z hz => nomatch hz)), hce, hO.vm, hcl, hWs, hall, hf⟩⟩
  refine st1 _ ?_
  show Steps p.tables e below (T1.setTop { method := m, pc := pc + 3, locals := ls, stack := .ref T.heap.size :: rest, locked := none }) _
  jvm_step X₁.here [X₁.here.top, hexec, d3', Value.category]
  exact X₁.ldcString hexec (own := own) (text := text) (index := is) (a := sa) hown' hstr'.1 hstr'.2
    (g := { method := m, pc := pc + 4, locals := ls, stack := .ref T.heap.size :: .ref T.heap.size :: rest, locked := none }) rfl d4' _ hsteps
/-- 'throw new E("text")', the text by a wide index -/
theorem vx_throwSW {cc : ByteArray} {pc : Nat} (hexec : p.tables.exec = Jvm.exec) (hb : c.code = cc) (hl : l.stackTraces = false) {own cls text : String} {names : List String} {ik is ic mc ms sa : Nat} {A : Nat → Prop}
    (hown : s.vm.findClass own = some m.cls) (hcls : Bundle.fit cls = true) (hnames : ∀ n ∈ names, Bundle.fit n = true)
    (hk : (Cond.classLink own ik cls).before args s = true) (hini : (Cond.initialized cls).before args s = true) (hstr : vk_R own is text sa s) (hat : ∀ w ∈ vx_atS own ic cls names, w.before args s = true)
    (hgood : ∀ w ∈ Cond.classLink own ik cls :: Cond.initialized cls :: vx_atS own ic cls names, vx_ot w = true)
    (hU : vx_Zq Bundle.tN "UNASSIGNED_STACK" Bundle.steD A s s.heap) (hN : vx_Zq Bundle.tN "SUPPRESSED_SENTINEL" Bundle.listD A s s.heap) (hS : va_S A s.heap H locs) (hsize : ls.size = c.maxLocals)
    (d0 : decode cc pc = .ok (.new ik, 3)) (d3 : decode cc (pc + 3) = .ok (.dup, 1)) (d4 : decode cc (pc + 4) = .ok (.ldc_w is, 3)) (d7 : decode cc (pc + 7) = .ok (.invokespecial ic, 3)) (d10 : decode cc (pc + 10) = .ok (.athrow, 1))
    (hout : ∀ x ∈ c.exceptionTable.toList, covers x (pc + 10) = false)
    (hRframes : names.length + 3 < R.frames) (hRlocals : (rest.map fun v => v.category).sum + (13 * (names.length + 1) + 43) ≤ R.locals) (hRcells : cells + 1 ≤ R.cells) (hRslots : slots + 6 ≤ R.slots) (hlocks : meth.locks = false)
    (hx : ∀ t : State, s.vm.Alike t.vm → H.size ≤ t.heap.size → (∀ q : Nat, q < H.size → t.heap[q]? = H[q]?) → XC cls s t)
    (hf : ∀ z ∈ locs, free z.base) (hc : cells + 1 ≤ mc) (hs : slots + 6 ≤ ms) :
    W p l e R s m args below meth c H locs cells slots (vx_MQ below Qc XC args s mc ms free) (F0 m pc ls rest) := by
  intro T hT X
  have htr : e.platform.stackTraces = false := (show e.platform.stackTraces = l.stackTraces by rw [X.admits.platform]).trans hl
  have Y := vx_rebase X (R' := { frames := R.frames, locals := R.locals, cells := 1, slots := 6 }) (Nat.le_refl _) (Nat.le_refl _) hRcells hRslots
  obtain ⟨s', hA⟩ : ∃ z, z = (T.setVm s.vm).setFrames (.invoking m args :: below) := ⟨_, rfl⟩
  rw [← hA] at Y
  have hvm : s'.vm = s.vm := by rw [hA]; rfl
  have hhp : s'.heap = H := by rw [hA]; exact hT
  have hW0 : s.WarmedH s'.vm := by rw [hvm]; exact State.WarmedH.refl s
  have hat' : ∀ w ∈ vx_atS own ic cls names, w.before args s' = true := fun w hw => vx_ot_at hW0 hvm.symm (hgood w (List.mem_cons_of_mem _ (List.mem_cons_of_mem _ hw))) (hat w hw)
  have hk' : (Cond.classLink own ik cls).before args s' = true := vx_ot_at hW0 hvm.symm (hgood _ List.mem_cons_self) hk
  have hini' : (Cond.initialized cls).before args s' = true := vx_ot_at hW0 hvm.symm (hgood _ (List.mem_cons_of_mem _ List.mem_cons_self)) hini
  have hU' : vx_Zq Bundle.tN "UNASSIGNED_STACK" Bundle.steD A s' s'.heap := by rw [hhp]; exact vx_Zq.moved hW0.alike (hU.kept hS.2.1)
  have hN' : vx_Zq Bundle.tN "SUPPRESSED_SENTINEL" Bundle.listD A s' s'.heap := by rw [hhp]; exact vx_Zq.moved hW0.alike (hN.kept hS.2.1)
  have h : ∀ w ∈ Bundle.ownAtoms own ic cls names, w.before args s' = true := vx_own hat' (vx_isRefq hU'.1) (vx_isRefq hN'.1) hU'.2.word hN'.2.word
  have hown' : s'.vm.findClass own = some m.cls := by rw [hvm]; exact hown
  have hins : (Cond.instantiable cls 6).before args s' = true := h _ (by simp [Bundle.ownAtoms])
  obtain ⟨vm₁, cX, kX, hfX, hkX, -, -, X₁, st1⟩ := Y.newCold hexec (own := own) (C := cls) (index := ik) (n := 6) hown' hk' hins hini'
    (g := F0 m pc ls rest) rfl (by rw [hb]; exact d0) (Nat.le_refl _) (Nat.le_refl _)
  generalize hT1 : (T.setVm vm₁).pushCell { cls := cX, slots := kX.instanceTypes.map defaultValue, vm := .none } = T1 at X₁ st1
  have hcat : (Value.ref T.heap.size).category = 1 := rfl
  have hcellA : T1.heap[T.heap.size]? = some (freshCell cX kX) := by rw [← hT1]; exact State.heap_pushCell_size _ _
  have d3' : decode c.code (pc + 3) = .ok (.dup, 1) := by rw [hb]; exact d3
  have d4' : decode c.code (pc + 4) = .ok (.ldc_w is, 3) := by rw [hb]; exact d4
  have hstr' : vk_R own is text sa s' := vk_R.warm hW0 hstr
  obtain ⟨U, hsteps, hrun, hend, hW, hsame, ce, hce, hO⟩ := X₁.ctorThrowS hexec htr (own := own) (cls := cls) (names := names) (ic := ic) hown' hcls hnames h (fun x hx => nomatch hx) hfX hkX hcellA (by rw [hhp, hT]; exact Nat.le_refl _) (msg := .ref sa) rfl
    (g := { method := m, pc := pc + 7, locals := ls, stack := .ref sa :: .ref T.heap.size :: .ref T.heap.size :: rest, locked := none }) rfl hsize rfl rfl (rest := rest) rfl
    (by rw [hb]; exact d7) (by rw [hb]; exact d10) hout hRframes (by simp only [List.map_cons, List.sum_cons, hcat]; omega) hlocks
  obtain ⟨f1, f2⟩ := vx_frame hsame
  rw [hhp] at f1 f2
  have hWs : s.WarmedH U.vm := State.WarmedH.trans hW0 hW
  have hcl : s.vm.findClass cls = some ce.cls := by
    have h9 := hO.cls
    rw [hvm] at h9
    exact h9
  have hall : s.sameButNew ({ U with vm := s.vm } : State) locs mc ms := by
    subst hA
    obtain ⟨e1, e2⟩ := hsame
    rw [State.setFrames_setFrames] at e1
    have h2 : (T.setVm s.vm).sameButNew ({ U with vm := s.vm } : State) [] (0 + 1) (0 + 6) := ⟨e1, e2⟩
    have h3 := X.same.trans h2
    rw [List.append_nil] at h3
    exact h3.mono hc hs
  refine ⟨U, ?_, .threw T.heap.size, hrun, hend, Or.inr ⟨T.heap.size, rfl, cls, ce, locs, hx U hWs.alike f1 (fun q hq => f2 q hq (fun z hz => nomatch hz)), hce, hO.vm, hcl, hWs, hall, hf⟩⟩
  refine st1 _ ?_
  show Steps p.tables e below (T1.setTop { method := m, pc := pc + 3, locals := ls, stack := .ref T.heap.size :: rest, locked := none }) _
  jvm_step X₁.here [X₁.here.top, hexec, d3', Value.category]
  exact X₁.ldcStringW hexec (own := own) (text := text) (index := is) (a := sa) hown' hstr'.1 hstr'.2
    (g := { method := m, pc := pc + 4, locals := ls, stack := .ref T.heap.size :: .ref T.heap.size :: rest, locked := none }) rfl d4' _ hsteps
end Ends
section Bodies
variable {l : Launch}
theorem vx_ofW {y : MethodName} {ws ws' : List Cond} {rm : Room} {Pc : Array Value → State → Prop} {Qc : Array Value → State → Outcome → State → Prop} {XC : String → State → State → Prop} {mc ms : Nat} {free : Addr → Prop} {cc : ByteArray} {maxL : Nat} {ret : Option FieldType}
    (hy : plainName y.cls = true) (hw : ws = Cond.code y cc maxL ret :: ws')
    (body : ∀ p e s m args below meth c s₁, BodyLoose p l y (headSpec ws rm) cc maxL ret e s m args below meth c s₁ → c.maxLocals = maxL → (∀ x ∈ c.exceptionTable.toList, False) → Pc args s →
      W p l e (headSpec ws rm).room s m args below meth c s.heap [] 0 0 (vx_MQ below Qc XC args s mc ms free) (entryFrame m args maxL)) : vx_Met l y ws rm Pc Qc XC mc ms free := by
  refine MetFree.of_bodyS (code := cc) (maxLocals := maxL) (ret := ret) hy ?_ ?_
  · intro args s m h hn
    obtain ⟨meth, c, h1, h2, h3, h4, h5, h6, -, -⟩ := Cond.code_spec hn (atoms_spec (ws := ws) h _ (by rw [hw]; exact List.mem_cons_self))
    exact ⟨meth, c, h1, h2, h3, h4, h5, h6⟩
  · intro p e s m args below meth c s₁ B hml hP _
    have hh0 : s₁.heap = s.heap := by rw [B.state]; rfl
    have ht : ∀ x ∈ c.exceptionTable.toList, False := by
      obtain ⟨meth9, c9, h1, h2, -, -, -, -, h7, -⟩ := Cond.code_spec B.named (atoms_spec (ws := ws) B.pre _ (by rw [hw]; exact List.mem_cons_self))
      cases Option.some.inj (h1.symm.trans B.method)
      cases Option.some.inj (h2.symm.trans (Stand.of_body B).code)
      intro x hx
      rw [Array.isEmpty_iff.mp h7] at hx
      cases hx
    obtain ⟨t, a1, o, b1, b2, b3⟩ := body p e s m args below meth c s₁ B hml ht hP s₁ hh0 (Stand.of_body B)
    exact ⟨t, o, a1, b1, b2, b3⟩
/-- the table of a body with handlers -/
theorem vx_table {p : Program} {x y : MethodName} {S : Spec} {cc bytes : ByteArray} {maxL maxL' : Nat} {ret ret' : Option FieldType} {e : Env} {s s₁ : State} {m : MethodId} {args : Array Value} {below : List Frame} {meth : Method} {c : Code} {hh : List (Nat × Nat × Nat × Nat)}
    (B : BodyLoose p l y S cc maxL ret e s m args below meth c s₁) (h : (Cond.codeWith y bytes maxL' ret' hh).before args s = true) : c.exceptionTable.toList = tableOf hh := by
  obtain ⟨m9, meth9, c9, hn9, h1, h2, -, -, h6, -⟩ := Cond.codeWith_spec h
  cases Option.some.inj (hn9.symm.trans B.named)
  cases Option.some.inj (h1.symm.trans B.method)
  cases Option.some.inj (h2.symm.trans (Stand.of_body B).code)
  rw [← h6, table_eq]
end Bodies
end VXA
/-! ===== END ===== -/
/-! ===== BEGIN a static call of a method with an exception table ===== -/
section VXS
variable {p : Program} {l : Launch} {e : Env} {R : Room} {s : State} {m : MethodId} {args : Array Value} {below : List Frame} {meth : Method} {c : Code} {T : State} {H : Heap} {locs : List Loc} {cells slots : Nat}
abbrev vx_CSW (R : Room) (s : State) (args : Array Value) (own : String) (index : Nat) (y : MethodName) (bytes : ByteArray) (maxL : Nat) (ret : Option FieldType) (hh : List (Nat × Nat × Nat × Nat)) (ws : List Cond) (rm : Room) (mc ms n : Nat) : Prop :=
  (rm.cells = mc ∧ rm.slots = ms ∧ rm.frames + 1 ≤ R.frames ∧ 8 + (maxL + 11) + rm.locals ≤ R.locals ∧ (∀ w ∈ ws, ∀ (a' : Array Value) (U : State), s.WarmedH U.vm → w.before a' U = true) ∧ Cond.codeWith y bytes maxL ret hh ∈ ws) ∧
  (Cond.codeWith y bytes maxL ret hh).before args s = true ∧ (Cond.initialized y.cls).before args s = true ∧ (y.cls ≠ "java/lang/invoke/MethodHandle" ∧ y.cls ≠ "java/lang/invoke/VarHandle") ∧
  (∀ sig, parseMethodDescriptor y.desc = some sig → n = sig.parameters.length) ∧ (Cond.methodLink own index y).before args s = true ∧ (Cond.static y).before args s = true
theorem vx_cwSW {own : String} {index maxL mc ms : Nat} {y : MethodName} {bytes : ByteArray} {ret : Option FieldType} {hh : List (Nat × Nat × Nat × Nat)} {Ts ws ws' : List Cond} {rm : Room} (n : Nat) (ht : ∀ w ∈ Ts, w.before args s = true) (hT : GoodIn Ts (va_wsS own index y ws)) (hw : ws = Cond.codeWith y bytes maxL ret hh :: ws') (hrc : rm.cells = mc) (hrs : rm.slots = ms)
    (hd : y.cls ≠ "java/lang/invoke/MethodHandle" ∧ y.cls ≠ "java/lang/invoke/VarHandle" ∧ (parseMethodDescriptor y.desc).map (fun d => d.parameters.length) = some n) (hR : rm.frames + 1 ≤ R.frames ∧ 8 + (maxL + 11) + rm.locals ≤ R.locals) :
    vx_CSW R s args own index y bytes maxL ret hh ws rm mc ms n := by
  have ok : ∀ w ∈ va_wsS own index y ws, w.before args s = true := fun w h => ht w (hT w h).1
  have hG : GoodIn Ts ws := fun w h => hT w (by unfold va_wsS; exact List.mem_append_right _ h)
  have hc : Cond.codeWith y bytes maxL ret hh ∈ ws := by rw [hw]; exact List.mem_cons_self
  refine ⟨⟨hrc, hrs, hR.1, hR.2, pay_in ht hG, hc⟩, ht _ (hG _ hc).1, ok _ (by simp [va_wsS]), ⟨hd.1, hd.2.1⟩, fun sig h => ?_, ok _ (by simp [va_wsS]), ok _ (by simp [va_wsS])⟩
  have h2 := hd.2.2
  rw [h] at h2
  exact (Option.some.inj h2).symm
theorem vx_callSW (X : Stand p l e R s m args below meth c T locs cells slots) (hexec : p.tables.exec = Jvm.exec) {own : String} {index : Nat} {y : MethodName} {bytes : ByteArray} {maxL : Nat} {ret : Option FieldType} {hh : List (Nat × Nat × Nat × Nat)}
    (hown : s.vm.findClass own = some m.cls) (hlink : (Cond.methodLink own index y).before args s = true) (hstat : (Cond.static y).before args s = true) (hinit : (Cond.initialized y.cls).before args s = true)
    (hcode : (Cond.codeWith y bytes maxL ret hh).before args s = true) (hy : y.cls ≠ "java/lang/invoke/MethodHandle" ∧ y.cls ≠ "java/lang/invoke/VarHandle")
    {W9 : Nat} {Pre : Pt → Array Value → Prop} {Post : Pt → Array Value → Option Value → Pt → Prop} (hK : Back l R p e below s args y 3 W9 Pre Post)
    {g : JFrame} (hg : g.method = m) (hsize : g.locals.size = c.maxLocals) {argsL rest : List Value} (hlen : ∀ sig, parseMethodDescriptor y.desc = some sig → argsL.length = sig.parameters.length)
    (hstack : g.stack = argsL.reverse ++ rest) (hW : 2 * g.monitorRoom + (rest.map fun v => v.category).sum ≤ W9) (hdg : decode c.code g.pc = .ok (.invokestatic index, 3))
    (hpre : ∀ vm₁, s.WarmedH vm₁ → Pre ⟨T.setVm vm₁, locs, cells, slots⟩ argsL.toArray) :
    ∃ (v : Option Value) (vm₁ : Vm) (B : Pt), s.WarmedH vm₁ ∧ Stand p l e R s m args below meth c B.U B.locs B.cells B.slots ∧ Post ⟨T.setVm vm₁, locs, cells, slots⟩ argsL.toArray v B ∧
      ∀ target, Steps p.tables e below (B.U.setTop { g with pc := g.pc + 3, stack := v.toList ++ rest }) target → Steps p.tables e below (T.setTop g) target := by
  obtain ⟨mk, methM, cM, hnamed, hmethM, -, -, -, -, -, -, hsigM⟩ := Cond.codeWith_spec hcode
  have hstatic : methM.isStatic = true := Cond.static_spec hnamed hmethM hstat
  obtain ⟨kP, hkP, -⟩ := className_of_methodNamed hnamed
  have hinitP : kP.init = .initialized := Cond.initialized_spec (findClass_of_methodNamed hnamed) hkP hinit
  obtain ⟨vm₁, X₁, hstep₁⟩ := X.invokestatic hexec hown hlink hnamed hmethM hstatic hkP hinitP hy (g := g) hg (argsL := argsL) (rest := rest) (hlen _ hsigM) hstack hdg
  obtain ⟨v, B, X', hpost, hsteps⟩ := hK m meth c ⟨T.setVm vm₁, locs, cells, slots⟩ { g with stack := rest } (.invokestatic index) mk argsL.toArray X₁ hg hsize hdg hW (X₁.named hnamed) (hpre vm₁ X₁.warmed)
  exact ⟨v, vm₁, B, X₁.warmed, X', hpost, fun target h => hstep₁ _ fun acts => by rw [doInvoke_state]; exact hsteps.trans h⟩
theorem vx_runSW {y : MethodName} {bytes cc : ByteArray} {maxL nL mc ms n index : Nat} {ret : Option FieldType} {hh : List (Nat × Nat × Nat × Nat)} {ws : List Cond} {rm : Room} {Pc : Array Value → State → Prop} {Qc : Array Value → State → Outcome → State → Prop} {free : Addr → Prop} {Ts : List Cond} {own : String} {As rest : List Value} {g : JFrame}
    (S : CallFix p m c cc nL s args Ts own) (hM : Met l y ws rm Pc Qc mc ms free) (cw : vx_CSW R s args own index y bytes maxL ret hh ws rm mc ms n) (hp : PreS s H Pc As)
    (hg : g.method = m) (hn : As.length = n) (hsize : g.locals.size = nL) (hstack : g.stack = As.reverse ++ rest) (hW : 2 * g.monitorRoom + (rest.map fun v => v.category).sum ≤ 8) (hdg : decode cc g.pc = .ok (.invokestatic index, 3)) (hf : cells + mc ≤ R.cells ∧ slots + ms ≤ R.slots) :
    va_Run p l e R s m args below meth c H locs cells slots mc ms g rest (Qc As.toArray) (free) := by
  obtain ⟨⟨hrc, hrs, hfr, hlo, hws, hcw⟩, hcode, hini, hy, hlen, hl, hstt⟩ := cw
  have hK : Back l R p e below s args y 3 8 (PreOf R mc ms Pc) (PostOf Qc mc ms free) := va_backW (hh := hh) (bytes := bytes) (maxL := maxL) (ret := ret) hM hp.1 hrc hrs hfr hlo hws hcw (fun a' U hW => word_at hW (Or.inl (by first | rfl | simp [Cond.onTables, Cond.keeps, Cond.steady])) hini)
  obtain ⟨hx, hb, hml, ho, -⟩ := S
  intro T hT X
  obtain ⟨v, vm₁, ⟨U', l2, c2, s2⟩, hW₁, X', ⟨g', mk, t, L, e1, e2, hq, h1, hL, h2, h3⟩, st⟩ := vx_callSW X hx (hh := hh) (bytes := bytes) (maxL := maxL) (ret := ret) ho hl hstt hini hcode hy hK hg (hsize.trans hml.symm) (argsL := As) (rest := rest) (fun sig h => hn.trans (hlen sig h)) hstack hW (by rw [hb]; exact hdg)
    (fun vm₁ hW₁ => ⟨hf.1, hf.2, hp.2 (T.setVm vm₁) hT hW₁⟩)
  dsimp only [Pt.U, Pt.locs, Pt.cells, Pt.slots] at X' e1 e2 h1 h2 h3 st
  subst h1; subst h2; subst h3
  exact ⟨v, (T.setVm vm₁).calling g' mk As.toArray, t, U', L, hT, X', hL, e1, e2, hq, st⟩
/-- not caught here, past rows that name other classes: it goes on to the caller -/
theorem vx_outP {p : Program} {l : Launch} {e : Env} {R : Room} {s : State} {m : MethodId} {args : Array Value} {below : List Frame} {meth : Method} {c : Code} {H : Heap} {locs : List Loc} {cells slots : Nat} {free : Addr → Prop} {ls : Array Slot} {rest : List Value} {Qc : Array Value → State → Outcome → State → Prop} {XC : String → State → State → Prop}
    {pc : Nat} {own E : String} {ce : Cell} {q : Addr} {mc ms : Nat} (hown : s.vm.findClass own = some m.cls) (hlocks : meth.locks = false)
    (hpass : ∀ z ∈ c.exceptionTable.toList, covers z pc = false ∨ (z.catchType ≠ 0 ∧ ∃ nm : String, (Cond.classLink own z.catchType nm).before args s = true ∧ va_Nc E nm s)) (hcell : H[q]? = some ce) (hv : ce.vm = .none) (hcl : s.vm.findClass E = some ce.cls)
    (hx : ∀ t : State, t.heap = H → s.vm.Alike t.vm → XC E s t) (hf : ∀ z ∈ locs, free z.base) (hc : cells ≤ mc) (hs : slots ≤ ms) :
    vx_W p l e R s m args below meth c H locs cells slots (vx_MQ below Qc XC args s mc ms free) (F0 m pc ls rest) q := by
  intro T hT X
  have hpl : e.platform.magicAccessors = ({} : Platform).magicAccessors := by rw [X.admits.platform]
  obtain ⟨vm', hW', X', st⟩ := X.outThrough hlocks q (g := F0 m pc ls rest) rfl rfl rfl (cell := ce) (by rw [hT]; exact hcell) (by rw [hv]; rfl)
    (by obtain ⟨k9, h9, -⟩ := Vm.findClass_spec hcl; exact ⟨k9, h9⟩) (fun z hz => by
      rcases hpass z hz with h | ⟨hz0, nm, hl1, hn1⟩
      · exact Or.inl h
      · obtain ⟨c6, hc6, hcl6⟩ := Cond.classLink_spec hown hl1 e.platform hpl
        obtain ⟨a8, b8, h1, h2, h3⟩ := hn1
        cases Option.some.inj (h1.symm.trans hcl)
        cases Option.some.inj (h2.symm.trans hc6)
        exact Or.inr ⟨hz0, _, hcl6, h3⟩)
  obtain ⟨g₀, hfr⟩ := X'.frames_eq
  have hcell9 : ((T.setVm vm').setFrames (.throwing q :: below)).heap[q]? = some ce := by
    show T.heap[q]? = some ce
    rw [hT]; exact hcell
  have hend : Ended ((T.setVm vm').setFrames (.throwing q :: below)) below (.threw q) := State.frames_setFrames _ (State.cur_lt_of_frames hfr)
  refine ⟨(T.setVm vm').setFrames (.throwing q :: below), ?_, .threw q, X'.here.running, hend, Or.inr ⟨q, rfl, E, ce, locs, hx _ hT (X'.ends _).1.alike, hcell9, hv, hcl, (X'.ends _).1, (X'.ends _).2.mono hc hs, hf⟩⟩
  rw [X.pushThrowing_eq]
  exact st
/-- a thing of a world lies in the heap -/
theorem vx_lt {D : va_G} {cl : List vw_C} {ws : va_W} {H1 : Heap} (h : va_P D cl ws H1) {k : Nat} {q : Nat × va_E} (hk : ws[k]? = some q) : q.1 < H1.size := (h k q hk).lt
end VXS
/-! ===== END ===== -/
/-! ===== BEGIN methods with a table of their own: called by a name, returning or throwing ===== -/
section VXH
/-! vx_backW, vx_callVX, vx_callSX, vx_callVW, vx_runVW, vx_runVX, vx_runSX, vx_ofWH follow the same proofs as their sisters above (Free/Laws.lean, Shelf42/LK1.lean); vx_outP calls Shelf42/NT130.lean (outThrough). -/
section
variable {l : Launch} {R : Room} {p : Program} {e : Env} {below : List Frame} {s : State} {sargs : Array Value} {y : MethodName} {len W9 : Nat}
theorem vx_backW {ws : List Cond} {rm : Room} {Pc : Array Value → State → Prop} {Qc : Array Value → State → Outcome → State → Prop} {XC : String → State → State → Prop} {mc ms : Nat} {free : Addr → Prop} {bytes : ByteArray} {maxL : Nat} {ret : Option FieldType} {hh : List (Nat × Nat × Nat × Nat)}
    (hM : vx_Met l y ws rm Pc Qc XC mc ms free) (hblind : FrameBlind Pc) (hrc : rm.cells = mc) (hrs : rm.slots = ms)
    (hframes : rm.frames + 1 ≤ R.frames) (hlocals : W9 + (maxL + 11) + rm.locals ≤ R.locals)
    (hws : ∀ w ∈ ws, ∀ a' U, s.WarmedH U.vm → w.before a' U = true) (hcode : Cond.codeWith y bytes maxL ret hh ∈ ws) (hinit : ∀ a' U, s.WarmedH U.vm → (Cond.initialized y.cls).before a' U = true) :
    vx_Back l R p e below s sargs y len W9 (PreOf R mc ms Pc) (PostOf Qc mc ms free) (vx_Post XC mc ms free) := by
  intro m meth c A g ig mk a X hg hsize hdg hW hn hp
  have h1 : (headSpec ws rm).pre.before a A.U = true := atoms_intro fun w hw => hws w hw _ _ X.warmed
  have h2 : (Cond.codeWith y bytes maxL ret hh).before a A.U = true := hws _ hcode _ _ X.warmed
  have h3 : (Cond.initialized y.cls).before a A.U = true := hinit _ _ X.warmed
  have h4 : A.cells + (headSpec ws rm).room.cells ≤ R.cells := by rw [show (headSpec ws rm).room.cells = mc from hrc]; exact hp.1
  have h5 : A.slots + (headSpec ws rm).room.slots ≤ R.slots := by rw [show (headSpec ws rm).room.slots = ms from hrs]; exact hp.2.1
  have hPc : Pc a (A.U.calling g mk a) := hblind _ _ _ _ hp.2.2
  obtain ⟨U, Ls, c0, s0⟩ := A
  dsimp only [Pt.U, Pt.locs, Pt.cells, Pt.slots] at h1 h2 h3 h4 h5 X hn hPc ⊢
  obtain ⟨m9, methY, cY, hn9, hmY, hcY, -, hlY, -⟩ := Cond.codeWith_spec h2
  cases Option.some.inj (hn9.symm.trans hn)
  obtain ⟨kY, hkY, -⟩ := className_of_methodNamed hn
  have hinitY : kY.init = .initialized := Cond.initialized_spec (findClass_of_methodNamed hn) hkY h3
  have h : At U g.method c below := by rw [hg]; exact X.here
  have hlocals9 : W9 + (maxL + 11) + (headSpec ws rm).room.locals ≤ R.locals := hlocals
  have happ : (headSpec ws rm).appliesLoose y e.platform (U.calling g mk a) = true :=
    Spec.appliesLoose_calling (g := g) h hdg hn hkY hinitY
      (X.room_calling (g := g) (R' := (headSpec ws rm).room) hsize hmY hcY hframes (by rw [hlY]; omega) h4 h5) h1
  obtain ⟨mid, hmid⟩ := h.above
  have hfr : (U.setTop g).frames = (.java g :: mid) ++ below := by rw [State.frames_setTop' g h.top, hmid]; rfl
  obtain ⟨o, s₂, hsteps, -, hend, hq⟩ := Steps.callFree hM p X.admits X.cas X.clock (acts := []) hfr happ hPc trivial
  have hq' : vx_Q Qc XC mc ms free a (U.calling g mk a) o s₂ := hq
  rw [State.frames_setTop' g h.top] at hend
  obtain ⟨g₀, hg0⟩ := Option.isSome_iff_exists.mp h.top
  obtain ⟨r, hr⟩ := State.topJava?_eq_some.mp hg0
  have hr' : (({ U with heap := s₂.heap, slotsUsed := s₂.slotsUsed } : State).setVm s₂.vm).frames = .java g₀ :: r := hr
  rcases hq' with ⟨hqc, L, hfe, hL⟩ | ⟨q, rfl, E, ce, L, hx, hce, hcv, hcl, hW₂, hsm, hL⟩
  · obtain ⟨⟨v, rfl⟩, hW₂, e2, q2, q3, q4, q5, q6⟩ := id hfe
    have e3 : s₂ = ({ (U.calling g mk a).setFrames s₂.frames with heap := s₂.heap, slotsUsed := s₂.slotsUsed } : State).setVm s₂.vm := by
      have : s₂ = ({ s₂ with vm := (U.calling g mk a).vm } : State).setVm s₂.vm := rfl
      rw [e2] at this
      exact this
    obtain ⟨c₂, i₂, len₂, hc₂, hd₂, hf₂⟩ := hend
    have hW' : U.WarmedH s₂.vm := hW₂
    have hcc : c₂ = c := by
      have h1 : s₂.code? g.method = U.code? g.method := by
        rw [State.code?_eq, State.code?_eq, hW'.alike.method?]
      exact Option.some.inj (hc₂.symm.trans (h1.trans h.code))
    subst hcc
    have hlen : len₂ = len := by rw [hdg] at hd₂; cases hd₂; rfl
    subst hlen
    have hs₂ : s₂ = (({ U with heap := s₂.heap, slotsUsed := s₂.slotsUsed } : State).setVm s₂.vm).setTop { g with pc := g.pc + len₂, stack := v.toList ++ g.stack } := by
      refine e3.trans ?_
      rw [hf₂, State.calling_eq h.top, State.setFrames_setFrames, State.setTop_of_frames _ hr', hr]
      rfl
    have hsame : U.sameButNew ({ U with heap := s₂.heap, slotsUsed := s₂.slotsUsed } : State) L mc ms := by
      refine ⟨?_, q2, q3, q4, q5, q6⟩
      obtain ⟨t, ht, -⟩ := State.frames_cons hr
      show ({ U with heap := s₂.heap, slotsUsed := s₂.slotsUsed } : State) = { U.setFrames U.frames with heap := s₂.heap, slotsUsed := s₂.slotsUsed }
      rw [State.setFrames_self ht]
    subst hg
    refine Or.inl ⟨v, ⟨(({ U with heap := s₂.heap, slotsUsed := s₂.slotsUsed } : State).setVm s₂.vm), Ls ++ L, c0 + mc, s0 + ms⟩,
      ⟨X.admits, X.cas, X.clock, X.frames, X.room, X.hears, X.method, X.code, (X.here.setHeapUsed s₂.heap s₂.slotsUsed).setVm hW'.alike, X.tail, State.WarmedH.trans X.warmed hW', X.limits, X.bytes, X.same.trans (hsame.setVm s.vm)⟩,
      ⟨g, mk, s₂, L, rfl, rfl, hqc, rfl, hL, rfl, rfl⟩, ?_⟩
    show Steps p.tables e below _ ((({ U with heap := s₂.heap, slotsUsed := s₂.slotsUsed } : State).setVm s₂.vm).setTop { g with pc := g.pc + len₂, stack := v.toList ++ g.stack })
    rw [← hs₂]
    exact hsteps
  · obtain ⟨e2, q2, q3, q4, q5, q6⟩ := id hsm
    have e3 : s₂ = ({ (U.calling g mk a).setFrames s₂.frames with heap := s₂.heap, slotsUsed := s₂.slotsUsed } : State).setVm s₂.vm := by
      have : s₂ = ({ s₂ with vm := (U.calling g mk a).vm } : State).setVm s₂.vm := rfl
      rw [e2] at this
      exact this
    have hf₂ : s₂.frames = .throwing q :: .java g :: U.frames.tail := hend
    have hW' : U.WarmedH s₂.vm := hW₂
    have hs₂ : s₂ = ((({ U with heap := s₂.heap, slotsUsed := s₂.slotsUsed } : State).setVm s₂.vm).setTop g).pushFrame (.throwing q) := by
      refine e3.trans ?_
      rw [hf₂, State.calling_eq h.top, State.setFrames_setFrames, State.pushFrame, State.frames_setTop _ hr', State.setTop_of_frames _ hr', State.setFrames_setFrames, hr]
      rfl
    have hsame : U.sameButNew ({ U with heap := s₂.heap, slotsUsed := s₂.slotsUsed } : State) L mc ms := by
      refine ⟨?_, q2, q3, q4, q5, q6⟩
      obtain ⟨t, ht, -⟩ := State.frames_cons hr
      show ({ U with heap := s₂.heap, slotsUsed := s₂.slotsUsed } : State) = { U.setFrames U.frames with heap := s₂.heap, slotsUsed := s₂.slotsUsed }
      rw [State.setFrames_self ht]
    subst hg
    refine Or.inr ⟨q, ⟨(({ U with heap := s₂.heap, slotsUsed := s₂.slotsUsed } : State).setVm s₂.vm), Ls ++ L, c0 + mc, s0 + ms⟩,
      ⟨X.admits, X.cas, X.clock, X.frames, X.room, X.hears, X.method, X.code, (X.here.setHeapUsed s₂.heap s₂.slotsUsed).setVm hW'.alike, X.tail, State.WarmedH.trans X.warmed hW', X.limits, X.bytes, X.same.trans (hsame.setVm s.vm)⟩,
      ⟨g, mk, s₂, L, E, ce, rfl, rfl, hx, hce, hcv, hcl, rfl, hL, rfl, rfl⟩, ?_⟩
    show Steps p.tables e below _ (((({ U with heap := s₂.heap, slotsUsed := s₂.slotsUsed } : State).setVm s₂.vm).setTop g).pushFrame (.throwing q))
    rw [← hs₂]
    exact hsteps
end
variable {p : Program} {l : Launch} {e : Env} {R : Room} {s : State} {m : MethodId} {args : Array Value} {below : List Frame} {meth : Method} {c : Code} {T : State} {H : Heap} {locs : List Loc} {cells slots : Nat}
theorem vx_callVX (X : Stand p l e R s m args below meth c T locs cells slots) (hexec : p.tables.exec = Jvm.exec) {own C : String} {index : Nat} {y : MethodName} {bytes : ByteArray} {maxL : Nat} {ret : Option FieldType} {hh : List (Nat × Nat × Nat × Nat)}
    (hown : s.vm.findClass own = some m.cls) (hlink : (Cond.methodLink own index y).before args s = true) (hinst : (Cond.instanceMethod y).before args s = true) (hsel : (Cond.selects C y y).before args s = true)
    (hcode : (Cond.codeWith y bytes maxL ret hh).before args s = true) (hy : y.cls ≠ "java/lang/invoke/MethodHandle" ∧ y.cls ≠ "java/lang/invoke/VarHandle")
    {W9 : Nat} {Pre : Pt → Array Value → Prop} {Post : Pt → Array Value → Option Value → Pt → Prop} {PostX : Pt → Array Value → Addr → Pt → Prop} (hK : vx_Back l R p e below s args y 3 W9 Pre Post PostX)
    {b : Addr} {cellB : Cell} (hcell : T.heap[b]? = some cellB) (hobj : cellB.vm.isStatics = false) (hcls : s.vm.findClass C = some cellB.cls)
    {g : JFrame} (hg : g.method = m) (hsize : g.locals.size = c.maxLocals) {argsL rest : List Value} (hlen : ∀ sig, parseMethodDescriptor y.desc = some sig → argsL.length = sig.parameters.length)
    (hstack : g.stack = argsL.reverse ++ .ref b :: rest) (hW : 2 * g.monitorRoom + (rest.map fun v => v.category).sum ≤ W9) (hdg : decode c.code g.pc = .ok (.invokevirtual index, 3))
    (hpre : ∀ vm₁, s.WarmedH vm₁ → Pre ⟨T.setVm vm₁, locs, cells, slots⟩ (Value.ref b :: argsL).toArray) :
    (∃ (v : Option Value) (vm₁ : Vm) (B : Pt), s.WarmedH vm₁ ∧ Stand p l e R s m args below meth c B.U B.locs B.cells B.slots ∧ Post ⟨T.setVm vm₁, locs, cells, slots⟩ (Value.ref b :: argsL).toArray v B ∧
      ∀ target, Steps p.tables e below (B.U.setTop { g with pc := g.pc + 3, stack := v.toList ++ rest }) target → Steps p.tables e below (T.setTop g) target) ∨
    (∃ (q : Addr) (vm₁ : Vm) (B : Pt), s.WarmedH vm₁ ∧ Stand p l e R s m args below meth c B.U B.locs B.cells B.slots ∧ PostX ⟨T.setVm vm₁, locs, cells, slots⟩ (Value.ref b :: argsL).toArray q B ∧
      Steps p.tables e below (T.setTop g) ((B.U.setTop { g with stack := rest }).pushFrame (.throwing q))) := by
  obtain ⟨mk, methM, hnamed, hmethM, hstM, habM⟩ := Cond.instanceMethod_spec hinst
  obtain ⟨m8, methM', cM, hn8, hmethM', -, -, -, -, -, -, hsigM⟩ := Cond.codeWith_spec hcode
  cases Option.some.inj (hn8.symm.trans hnamed)
  cases hmethM.symm.trans hmethM'
  obtain ⟨c2, r2, m2, q1, q2, q3, q4, kP, hkP, hkPi⟩ := Cond.selects_spec hsel
  cases hcls.symm.trans q1
  cases (State.methodFound?_of_named hnamed hy).symm.trans q2
  cases hnamed.symm.trans q3
  have hselP : selectMethod e.platform s.vm cellB.cls mk = .method mk := by rw [Launch.admits_selectMethod X.admits]; exact q4
  obtain ⟨vm₁, X₁, hstep₁⟩ := X.invokevirtual hexec hown hlink hnamed hmethM hstM hkP hkPi hy (a := b) (cell := cellB) hcell
    (fun z h => by rw [h] at hobj; cases hobj) hselP hmethM habM hkP hkPi (g := g) hg (argsL := argsL) (rest := rest) (hlen _ hsigM) hstack hdg
  rcases hK m meth c ⟨T.setVm vm₁, locs, cells, slots⟩ { g with stack := rest } (.invokevirtual index) mk (Value.ref b :: argsL).toArray X₁ hg hsize hdg hW (X₁.named hnamed) (hpre vm₁ X₁.warmed) with ⟨v, B, X', hpost, hsteps⟩ | ⟨q, B, X', hpost, hsteps⟩
  · exact Or.inl ⟨v, vm₁, B, X₁.warmed, X', hpost, fun target h => hstep₁ _ fun acts => by rw [doInvoke_state]; exact hsteps.trans h⟩
  · exact Or.inr ⟨q, vm₁, B, X₁.warmed, X', hpost, hstep₁ _ fun acts => by rw [doInvoke_state]; exact hsteps⟩
theorem vx_callSX (X : Stand p l e R s m args below meth c T locs cells slots) (hexec : p.tables.exec = Jvm.exec) {own : String} {index : Nat} {y : MethodName} {bytes : ByteArray} {maxL : Nat} {ret : Option FieldType} {hh : List (Nat × Nat × Nat × Nat)}
    (hown : s.vm.findClass own = some m.cls) (hlink : (Cond.methodLink own index y).before args s = true) (hstat : (Cond.static y).before args s = true) (hinit : (Cond.initialized y.cls).before args s = true)
    (hcode : (Cond.codeWith y bytes maxL ret hh).before args s = true) (hy : y.cls ≠ "java/lang/invoke/MethodHandle" ∧ y.cls ≠ "java/lang/invoke/VarHandle")
    {W9 : Nat} {Pre : Pt → Array Value → Prop} {Post : Pt → Array Value → Option Value → Pt → Prop} {PostX : Pt → Array Value → Addr → Pt → Prop} (hK : vx_Back l R p e below s args y 3 W9 Pre Post PostX)
    {g : JFrame} (hg : g.method = m) (hsize : g.locals.size = c.maxLocals) {argsL rest : List Value} (hlen : ∀ sig, parseMethodDescriptor y.desc = some sig → argsL.length = sig.parameters.length)
    (hstack : g.stack = argsL.reverse ++ rest) (hW : 2 * g.monitorRoom + (rest.map fun v => v.category).sum ≤ W9) (hdg : decode c.code g.pc = .ok (.invokestatic index, 3))
    (hpre : ∀ vm₁, s.WarmedH vm₁ → Pre ⟨T.setVm vm₁, locs, cells, slots⟩ argsL.toArray) :
    (∃ (v : Option Value) (vm₁ : Vm) (B : Pt), s.WarmedH vm₁ ∧ Stand p l e R s m args below meth c B.U B.locs B.cells B.slots ∧ Post ⟨T.setVm vm₁, locs, cells, slots⟩ argsL.toArray v B ∧
      ∀ target, Steps p.tables e below (B.U.setTop { g with pc := g.pc + 3, stack := v.toList ++ rest }) target → Steps p.tables e below (T.setTop g) target) ∨
    (∃ (q : Addr) (vm₁ : Vm) (B : Pt), s.WarmedH vm₁ ∧ Stand p l e R s m args below meth c B.U B.locs B.cells B.slots ∧ PostX ⟨T.setVm vm₁, locs, cells, slots⟩ argsL.toArray q B ∧
      Steps p.tables e below (T.setTop g) ((B.U.setTop { g with stack := rest }).pushFrame (.throwing q))) := by
  obtain ⟨mk, methM, cM, hnamed, hmethM, -, -, -, -, -, -, hsigM⟩ := Cond.codeWith_spec hcode
  have hstatic : methM.isStatic = true := Cond.static_spec hnamed hmethM hstat
  obtain ⟨kP, hkP, -⟩ := className_of_methodNamed hnamed
  have hinitP : kP.init = .initialized := Cond.initialized_spec (findClass_of_methodNamed hnamed) hkP hinit
  obtain ⟨vm₁, X₁, hstep₁⟩ := X.invokestatic hexec hown hlink hnamed hmethM hstatic hkP hinitP hy (g := g) hg (argsL := argsL) (rest := rest) (hlen _ hsigM) hstack hdg
  rcases hK m meth c ⟨T.setVm vm₁, locs, cells, slots⟩ { g with stack := rest } (.invokestatic index) mk argsL.toArray X₁ hg hsize hdg hW (X₁.named hnamed) (hpre vm₁ X₁.warmed) with ⟨v, B, X', hpost, hsteps⟩ | ⟨q, B, X', hpost, hsteps⟩
  · exact Or.inl ⟨v, vm₁, B, X₁.warmed, X', hpost, fun target h => hstep₁ _ fun acts => by rw [doInvoke_state]; exact hsteps.trans h⟩
  · exact Or.inr ⟨q, vm₁, B, X₁.warmed, X', hpost, hstep₁ _ fun acts => by rw [doInvoke_state]; exact hsteps⟩
theorem vx_callVW (X : Stand p l e R s m args below meth c T locs cells slots) (hexec : p.tables.exec = Jvm.exec) {own C : String} {index : Nat} {y : MethodName} {bytes : ByteArray} {maxL : Nat} {ret : Option FieldType} {hh : List (Nat × Nat × Nat × Nat)}
    (hown : s.vm.findClass own = some m.cls) (hlink : (Cond.methodLink own index y).before args s = true) (hinst : (Cond.instanceMethod y).before args s = true) (hsel : (Cond.selects C y y).before args s = true)
    (hcode : (Cond.codeWith y bytes maxL ret hh).before args s = true) (hy : y.cls ≠ "java/lang/invoke/MethodHandle" ∧ y.cls ≠ "java/lang/invoke/VarHandle")
    {W9 : Nat} {Pre : Pt → Array Value → Prop} {Post : Pt → Array Value → Option Value → Pt → Prop} (hK : Back l R p e below s args y 3 W9 Pre Post)
    {b : Addr} {cellB : Cell} (hcell : T.heap[b]? = some cellB) (hobj : cellB.vm.isStatics = false) (hcls : s.vm.findClass C = some cellB.cls)
    {g : JFrame} (hg : g.method = m) (hsize : g.locals.size = c.maxLocals) {argsL rest : List Value} (hlen : ∀ sig, parseMethodDescriptor y.desc = some sig → argsL.length = sig.parameters.length)
    (hstack : g.stack = argsL.reverse ++ .ref b :: rest) (hW : 2 * g.monitorRoom + (rest.map fun v => v.category).sum ≤ W9) (hdg : decode c.code g.pc = .ok (.invokevirtual index, 3))
    (hpre : ∀ vm₁, s.WarmedH vm₁ → Pre ⟨T.setVm vm₁, locs, cells, slots⟩ (Value.ref b :: argsL).toArray) :
    ∃ (v : Option Value) (vm₁ : Vm) (B : Pt), s.WarmedH vm₁ ∧ Stand p l e R s m args below meth c B.U B.locs B.cells B.slots ∧ Post ⟨T.setVm vm₁, locs, cells, slots⟩ (Value.ref b :: argsL).toArray v B ∧
      ∀ target, Steps p.tables e below (B.U.setTop { g with pc := g.pc + 3, stack := v.toList ++ rest }) target → Steps p.tables e below (T.setTop g) target := by
  obtain ⟨mk, methM, hnamed, hmethM, hstM, habM⟩ := Cond.instanceMethod_spec hinst
  obtain ⟨m8, methM', cM, hn8, hmethM', -, -, -, -, -, -, hsigM⟩ := Cond.codeWith_spec hcode
  cases Option.some.inj (hn8.symm.trans hnamed)
  cases hmethM.symm.trans hmethM'
  obtain ⟨c2, r2, m2, q1, q2, q3, q4, kP, hkP, hkPi⟩ := Cond.selects_spec hsel
  cases hcls.symm.trans q1
  cases (State.methodFound?_of_named hnamed hy).symm.trans q2
  cases hnamed.symm.trans q3
  have hselP : selectMethod e.platform s.vm cellB.cls mk = .method mk := by rw [Launch.admits_selectMethod X.admits]; exact q4
  obtain ⟨vm₁, X₁, hstep₁⟩ := X.invokevirtual hexec hown hlink hnamed hmethM hstM hkP hkPi hy (a := b) (cell := cellB) hcell
    (fun z h => by rw [h] at hobj; cases hobj) hselP hmethM habM hkP hkPi (g := g) hg (argsL := argsL) (rest := rest) (hlen _ hsigM) hstack hdg
  obtain ⟨v, B, X', hpost, hsteps⟩ := hK m meth c ⟨T.setVm vm₁, locs, cells, slots⟩ { g with stack := rest } (.invokevirtual index) mk (Value.ref b :: argsL).toArray X₁ hg hsize hdg hW (X₁.named hnamed) (hpre vm₁ X₁.warmed)
  exact ⟨v, vm₁, B, X₁.warmed, X', hpost, fun target h => hstep₁ _ fun acts => by rw [doInvoke_state]; exact hsteps.trans h⟩
abbrev vx_CVW (R : Room) (s : State) (args : Array Value) (own C : String) (index : Nat) (y : MethodName) (bytes : ByteArray) (maxL : Nat) (ret : Option FieldType) (hh : List (Nat × Nat × Nat × Nat)) (ws : List Cond) (rm : Room) (mc ms n : Nat) : Prop :=
  (rm.cells = mc ∧ rm.slots = ms ∧ rm.frames + 1 ≤ R.frames ∧ 8 + (maxL + 11) + rm.locals ≤ R.locals ∧ (∀ w ∈ ws, ∀ (a' : Array Value) (U : State), s.WarmedH U.vm → w.before a' U = true) ∧ Cond.codeWith y bytes maxL ret hh ∈ ws) ∧
  (Cond.codeWith y bytes maxL ret hh).before args s = true ∧ (Cond.initialized y.cls).before args s = true ∧ (y.cls ≠ "java/lang/invoke/MethodHandle" ∧ y.cls ≠ "java/lang/invoke/VarHandle") ∧
  (∀ sig, parseMethodDescriptor y.desc = some sig → n = sig.parameters.length) ∧ (Cond.methodLink own index y).before args s = true ∧ (Cond.instanceMethod y).before args s = true ∧ (Cond.selects C y y).before args s = true
theorem vx_cwVW {own C : String} {index maxL mc ms : Nat} {y : MethodName} {bytes : ByteArray} {ret : Option FieldType} {hh : List (Nat × Nat × Nat × Nat)} {Ts ws ws' : List Cond} {rm : Room} (n : Nat) (ht : ∀ w ∈ Ts, w.before args s = true) (hT : GoodIn Ts (wsV own index C y ws)) (hw : ws = Cond.codeWith y bytes maxL ret hh :: ws') (hrc : rm.cells = mc) (hrs : rm.slots = ms)
    (hd : y.cls = C ∧ y.cls ≠ "java/lang/invoke/MethodHandle" ∧ y.cls ≠ "java/lang/invoke/VarHandle" ∧ (parseMethodDescriptor y.desc).map (fun d => d.parameters.length) = some n) (hR : rm.frames + 1 ≤ R.frames ∧ 8 + (maxL + 11) + rm.locals ≤ R.locals) :
    vx_CVW R s args own C index y bytes maxL ret hh ws rm mc ms n := by
  obtain ⟨hC, hd⟩ := hd
  subst hC
  have ok : ∀ w ∈ wsV own index y.cls y ws, w.before args s = true := fun w h => ht w (hT w h).1
  have hG : GoodIn Ts ws := fun w h => hT w (by unfold wsV; exact List.mem_append_right _ h)
  have hc : Cond.codeWith y bytes maxL ret hh ∈ ws := by rw [hw]; exact List.mem_cons_self
  refine ⟨⟨hrc, hrs, hR.1, hR.2, pay_in ht hG, hc⟩, ht _ (hG _ hc).1, ok _ (by simp [wsV]), ⟨hd.1, hd.2.1⟩, fun sig h => ?_, ok _ (by simp [wsV]), ok _ (by simp [wsV]), ok _ (by simp [wsV])⟩
  have h2 := hd.2.2
  rw [h] at h2
  exact (Option.some.inj h2).symm
theorem vx_runVW {y : MethodName} {bytes cc : ByteArray} {maxL nL mc ms n index : Nat} {ret : Option FieldType} {hh : List (Nat × Nat × Nat × Nat)} {ws : List Cond} {rm : Room} {Pc : Array Value → State → Prop} {Qc : Array Value → State → Outcome → State → Prop} {free : Addr → Prop} {Ts : List Cond} {own C : String} {b : Addr} {As rest : List Value} {g : JFrame}
    (S : CallFix p m c cc nL s args Ts own) (hM : Met l y ws rm Pc Qc mc ms free) (cw : vx_CVW R s args own C index y bytes maxL ret hh ws rm mc ms n) (hp : PreV s H C b Pc As)
    (hg : g.method = m) (hn : As.length = n) (hsize : g.locals.size = nL) (hstack : g.stack = As.reverse ++ .ref b :: rest) (hW : 2 * g.monitorRoom + (rest.map fun v => v.category).sum ≤ 8) (hdg : decode cc g.pc = .ok (.invokevirtual index, 3)) (hf : cells + mc ≤ R.cells ∧ slots + ms ≤ R.slots) :
    va_Run p l e R s m args below meth c H locs cells slots mc ms g rest (Qc (Value.ref b :: As).toArray) free := by
  obtain ⟨⟨hrc, hrs, hfr, hlo, hws, hcw⟩, hcode, hini, hy, hlen, hl, hin, hse⟩ := cw
  have hK : Back l R p e below s args y 3 8 (PreOf R mc ms Pc) (PostOf Qc mc ms free) := va_backW (hh := hh) (bytes := bytes) (maxL := maxL) (ret := ret) hM hp.1 hrc hrs hfr hlo hws hcw (fun a' U hW => word_at hW (Or.inl (by first | rfl | simp [Cond.onTables, Cond.keeps, Cond.steady])) hini)
  obtain ⟨hx, hb, hml, ho, -⟩ := S
  obtain ⟨-, ⟨cellB, hcB, hoB, hclB⟩, hPc⟩ := hp
  intro T hT X
  obtain ⟨v, vm₁, ⟨U', l2, c2, s2⟩, hW₁, X', ⟨g', mk, t, L, e1, e2, hq, h1, hL, h2, h3⟩, st⟩ := vx_callVW X hx (C := C) (hh := hh) (bytes := bytes) (maxL := maxL) (ret := ret) ho hl hin hse hcode hy hK (by rw [hT]; exact hcB) hoB hclB hg (hsize.trans hml.symm) (argsL := As) (rest := rest) (fun sig h => hn.trans (hlen sig h)) hstack hW (by rw [hb]; exact hdg)
    (fun vm₁ hW₁ => ⟨hf.1, hf.2, hPc (T.setVm vm₁) hT hW₁⟩)
  dsimp only [Pt.U, Pt.locs, Pt.cells, Pt.slots] at X' e1 e2 h1 h2 h3 st
  subst h1; subst h2; subst h3
  exact ⟨v, (T.setVm vm₁).calling g' mk (Value.ref b :: As).toArray, t, U', L, hT, X', hL, e1, e2, hq, st⟩
section
variable {y : MethodName} {bytes cc : ByteArray} {maxL nL mc ms n index : Nat} {ret : Option FieldType} {ws : List Cond} {rm : Room} {Pc : Array Value → State → Prop} {Qc : Array Value → State → Outcome → State → Prop} {XC : String → State → State → Prop} {free : Addr → Prop} {Ts : List Cond} {own C : String} {b : Addr} {As rest : List Value} {g : JFrame}
theorem vx_runVX {hh : List (Nat × Nat × Nat × Nat)} (S : CallFix p m c cc nL s args Ts own) (hM : vx_Met l y ws rm Pc Qc XC mc ms free) (cw : vx_CVW R s args own C index y bytes maxL ret hh ws rm mc ms n) (hp : PreV s H C b Pc As)
    (hg : g.method = m) (hn : As.length = n) (hsize : g.locals.size = nL) (hstack : g.stack = As.reverse ++ .ref b :: rest) (hW : 2 * g.monitorRoom + (rest.map fun v => v.category).sum ≤ 8) (hdg : decode cc g.pc = .ok (.invokevirtual index, 3)) (hf : cells + mc ≤ R.cells ∧ slots + ms ≤ R.slots) :
    vx_Run p l e R s m args below meth c H locs cells slots mc ms g rest (Qc (Value.ref b :: As).toArray) XC free := by
  obtain ⟨⟨hrc, hrs, hfr, hlo, hws, hcw⟩, hcode, hini, hy, hlen, hl, hin, hse⟩ := cw
  have hK : vx_Back l R p e below s args y 3 8 (PreOf R mc ms Pc) (PostOf Qc mc ms free) (vx_Post XC mc ms free) := vx_backW (hh := hh) (bytes := bytes) (maxL := maxL) (ret := ret) hM hp.1 hrc hrs hfr hlo hws hcw (fun a' U hW => word_at hW (Or.inl (by first | rfl | simp [Cond.onTables, Cond.keeps, Cond.steady])) hini)
  obtain ⟨hx, hb, hml, ho, -⟩ := S
  obtain ⟨-, ⟨cellB, hcB, hoB, hclB⟩, hPc⟩ := hp
  intro T hT X
  rcases vx_callVX X hx (C := C) (hh := hh) (bytes := bytes) (maxL := maxL) (ret := ret) ho hl hin hse hcode hy hK (by rw [hT]; exact hcB) hoB hclB hg (hsize.trans hml.symm) (argsL := As) (rest := rest) (fun sig h => hn.trans (hlen sig h)) hstack hW (by rw [hb]; exact hdg)
    (fun vm₁ hW₁ => ⟨hf.1, hf.2, hPc (T.setVm vm₁) hT hW₁⟩) with ⟨v, vm₁, ⟨U', l2, c2, s2⟩, hW₁, X', ⟨g', mk, t, L, e1, e2, hq, h1, hL, h2, h3⟩, st⟩ | ⟨q, vm₁, ⟨U', l2, c2, s2⟩, hW₁, X', ⟨g', mk, t, L, E, ce, e1, e2, hq, hce, hcv, hcl, h1, hL, h2, h3⟩, st⟩
  · dsimp only [Pt.U, Pt.locs, Pt.cells, Pt.slots] at X' e1 e2 h1 h2 h3 st
    subst h1; subst h2; subst h3
    exact Or.inl ⟨v, (T.setVm vm₁).calling g' mk (Value.ref b :: As).toArray, t, U', L, hT, X', hL, e1, e2, hq, st⟩
  · dsimp only [Pt.U, Pt.locs, Pt.cells, Pt.slots] at X' e1 e2 h1 h2 h3 st hcl
    subst h1; subst h2; subst h3
    exact Or.inr ⟨q, (T.setVm vm₁).calling g' mk (Value.ref b :: As).toArray, t, U', L, E, ce, hT, X', hL, e1, e2, hq, hce, hcv, vx_cls hW₁ hcl, st⟩
theorem vx_runSX {hh : List (Nat × Nat × Nat × Nat)} (S : CallFix p m c cc nL s args Ts own) (hM : vx_Met l y ws rm Pc Qc XC mc ms free) (cw : vx_CSW R s args own index y bytes maxL ret hh ws rm mc ms n) (hp : PreS s H Pc As)
    (hg : g.method = m) (hn : As.length = n) (hsize : g.locals.size = nL) (hstack : g.stack = As.reverse ++ rest) (hW : 2 * g.monitorRoom + (rest.map fun v => v.category).sum ≤ 8) (hdg : decode cc g.pc = .ok (.invokestatic index, 3)) (hf : cells + mc ≤ R.cells ∧ slots + ms ≤ R.slots) :
    vx_Run p l e R s m args below meth c H locs cells slots mc ms g rest (Qc As.toArray) XC free := by
  obtain ⟨⟨hrc, hrs, hfr, hlo, hws, hcw⟩, hcode, hini, hy, hlen, hl, hstt⟩ := cw
  have hK : vx_Back l R p e below s args y 3 8 (PreOf R mc ms Pc) (PostOf Qc mc ms free) (vx_Post XC mc ms free) := vx_backW (hh := hh) (bytes := bytes) (maxL := maxL) (ret := ret) hM hp.1 hrc hrs hfr hlo hws hcw (fun a' U hW => word_at hW (Or.inl (by first | rfl | simp [Cond.onTables, Cond.keeps, Cond.steady])) hini)
  obtain ⟨hx, hb, hml, ho, -⟩ := S
  intro T hT X
  rcases vx_callSX X hx (hh := hh) (bytes := bytes) (maxL := maxL) (ret := ret) ho hl hstt hini hcode hy hK hg (hsize.trans hml.symm) (argsL := As) (rest := rest) (fun sig h => hn.trans (hlen sig h)) hstack hW (by rw [hb]; exact hdg)
    (fun vm₁ hW₁ => ⟨hf.1, hf.2, hp.2 (T.setVm vm₁) hT hW₁⟩) with ⟨v, vm₁, ⟨U', l2, c2, s2⟩, hW₁, X', ⟨g', mk, t, L, e1, e2, hq, h1, hL, h2, h3⟩, st⟩ | ⟨q, vm₁, ⟨U', l2, c2, s2⟩, hW₁, X', ⟨g', mk, t, L, E, ce, e1, e2, hq, hce, hcv, hcl, h1, hL, h2, h3⟩, st⟩
  · dsimp only [Pt.U, Pt.locs, Pt.cells, Pt.slots] at X' e1 e2 h1 h2 h3 st
    subst h1; subst h2; subst h3
    exact Or.inl ⟨v, (T.setVm vm₁).calling g' mk As.toArray, t, U', L, hT, X', hL, e1, e2, hq, st⟩
  · dsimp only [Pt.U, Pt.locs, Pt.cells, Pt.slots] at X' e1 e2 h1 h2 h3 st hcl
    subst h1; subst h2; subst h3
    exact Or.inr ⟨q, (T.setVm vm₁).calling g' mk As.toArray, t, U', L, E, ce, hT, X', hL, e1, e2, hq, hce, hcv, vx_cls hW₁ hcl, st⟩
end
end VXH
theorem vx_ofWH {l : Launch} {y : MethodName} {ws ws' : List Cond} {rm : Room} {Pc : Array Value → State → Prop} {Qc : Array Value → State → Outcome → State → Prop} {XC : String → State → State → Prop} {mc ms : Nat} {free : Addr → Prop} {cc : ByteArray} {maxL : Nat} {ret : Option FieldType} {hh : List (Nat × Nat × Nat × Nat)}
    (hy : plainName y.cls = true) (hw : ws = Cond.codeWith y cc maxL ret hh :: ws')
    (body : ∀ p e s m args below meth c s₁, BodyLoose p l y (headSpec ws rm) cc maxL ret e s m args below meth c s₁ → c.maxLocals = maxL → Pc args s →
      W p l e (headSpec ws rm).room s m args below meth c s.heap [] 0 0 (vx_MQ below Qc XC args s mc ms free) (entryFrame m args maxL)) : vx_Met l y ws rm Pc Qc XC mc ms free := by
  refine MetFree.of_bodyS (code := cc) (maxLocals := maxL) (ret := ret) hy ?_ ?_
  · intro args s m h hn
    obtain ⟨m9, meth, c, hn9, h1, h2, h3, h4, -, h5, h6, -⟩ := Cond.codeWith_spec (atoms_spec (ws := ws) h _ (by rw [hw]; exact List.mem_cons_self))
    cases hn.symm.trans hn9
    exact ⟨meth, c, h1, h2, h3, h4, h5, h6⟩
  · intro p e s m args below meth c s₁ B hml hP _
    have hh0 : s₁.heap = s.heap := by rw [B.state]; rfl
    obtain ⟨t, a1, o, b1, b2, b3⟩ := body p e s m args below meth c s₁ B hml hP s₁ hh0 (Stand.of_body B)
    exact ⟨t, o, a1, b1, b2, b3⟩
/-! ===== END ===== -/
end
section
/-! ===== BEGIN printed: names, fields, word lists, decode rows ===== -/
abbrev RX0 : String := "ShipsThatMeet$Best"
def TX0 : u_T := fun k => match k with
  | 0 => ("ShipsThatMeet$Captain", "kind", "I", true)
  | _ => ("ShipsThatMeet$Captain", "figure", "I", true)
def tyX0 : Nat → FieldType := fun k => match k with
  | 0 => .int
  | _ => .int
abbrev wsX00 : List Cond := u_ws RX0 TX0 2
theorem nmX0 : ∀ a, a < 2 → ∀ b, b < 2 → a ≠ b → (TX0 a).2.1 ≠ (TX0 b).2.1 := by decide +kernel
theorem tyX0_ok : ∀ k, k < 2 → parseFieldDescriptor (TX0 k).2.2.1 = some (tyX0 k) := by decide +kernel
abbrev cX0_init : ByteArray := prog_2_method_1_code
abbrev yX0_init : MethodName := ⟨RX0, "<init>", "(I)V"⟩
abbrev cX0_gift : ByteArray := prog_2_method_2_code
abbrev yX0_gift : MethodName := ⟨RX0, "gift", "(LShipsThatMeet$Fleet;I)I"⟩
abbrev cX0_wages : ByteArray := prog_2_method_3_code
abbrev yX0_wages : MethodName := ⟨RX0, "wages", "()I"⟩
abbrev cX0_worthOfFailure : ByteArray := prog_2_method_4_code
abbrev yX0_worthOfFailure : MethodName := ⟨RX0, "worthOfFailure", "()I"⟩
abbrev RX1 : String := "ShipsThatMeet$Captain"
def TX1 : u_T := fun k => match k with
  | 0 => ("ShipsThatMeet$Captain", "kind", "I", true)
  | _ => ("ShipsThatMeet$Captain", "figure", "I", true)
def tyX1 : Nat → FieldType := fun k => match k with
  | 0 => .int
  | _ => .int
abbrev wsX10 : List Cond := u_ws RX1 TX1 2
theorem nmX1 : ∀ a, a < 2 → ∀ b, b < 2 → a ≠ b → (TX1 a).2.1 ≠ (TX1 b).2.1 := by decide +kernel
theorem tyX1_ok : ∀ k, k < 2 → parseFieldDescriptor (TX1 k).2.2.1 = some (tyX1 k) := by decide +kernel
abbrev cX1_init : ByteArray := prog_3_method_1_code
abbrev yX1_init : MethodName := ⟨RX1, "<init>", "(II)V"⟩
abbrev cX1_gift : ByteArray := prog_3_method_2_code
abbrev yX1_gift : MethodName := ⟨RX1, "gift", "(LShipsThatMeet$Fleet;I)I"⟩
abbrev cX1_wages : ByteArray := prog_3_method_3_code
abbrev yX1_wages : MethodName := ⟨RX1, "wages", "()I"⟩
abbrev cX1_fail : ByteArray := prog_3_method_4_code
abbrev yX1_fail : MethodName := ⟨RX1, "fail", "()V"⟩
abbrev cX1_worthOfFailure : ByteArray := prog_3_method_5_code
abbrev yX1_worthOfFailure : MethodName := ⟨RX1, "worthOfFailure", "()I"⟩
abbrev RX2 : String := "ShipsThatMeet$Fleet"
def TX2 : u_T := fun k => match k with
  | 0 => ("ShipsThatMeet$Fleet", "ships", "I", false)
  | 1 => ("ShipsThatMeet$Fleet", "men", "I", false)
  | 2 => ("ShipsThatMeet$Fleet", "meetings", "I", false)
  | 3 => ("ShipsThatMeet$Fleet", "captains", "[LShipsThatMeet$Captain;", true)
  | 4 => ("ShipsThatMeet$Fleet", "crews", "[I", true)
  | 5 => ("ShipsThatMeet$Fleet", "aboard", "[I", true)
  | 6 => ("ShipsThatMeet$Fleet", "trades", "[I", true)
  | 7 => ("ShipsThatMeet$Fleet", "tongues", "[I", true)
  | 8 => ("ShipsThatMeet$Fleet", "since", "[I", true)
  | _ => ("ShipsThatMeet$Fleet", "companions", "[I", true)
def tyX2 : Nat → FieldType := fun k => match k with
  | 0 => .int
  | 1 => .int
  | 2 => .int
  | 3 => .array (.object "ShipsThatMeet$Captain")
  | 4 => .array .int
  | 5 => .array .int
  | 6 => .array .int
  | 7 => .array .int
  | 8 => .array .int
  | _ => .array .int
abbrev wsX20 : List Cond := u_ws RX2 TX2 10
theorem nmX2 : ∀ a, a < 10 → ∀ b, b < 10 → a ≠ b → (TX2 a).2.1 ≠ (TX2 b).2.1 := by decide +kernel
theorem tyX2_ok : ∀ k, k < 10 → parseFieldDescriptor (TX2 k).2.2.1 = some (tyX2 k) := by decide +kernel
abbrev cX2_init : ByteArray := prog_4_method_1_code
abbrev yX2_init : MethodName := ⟨RX2, "<init>", "()V"⟩
abbrev cX2_become : ByteArray := prog_4_method_2_code
abbrev yX2_become : MethodName := ⟨RX2, "become", "(LShipsThatMeet$Fleet;)V"⟩
abbrev cX2_isShip : ByteArray := prog_4_method_3_code
abbrev yX2_isShip : MethodName := ⟨RX2, "isShip", "(I)Z"⟩
abbrev cX2_isMan : ByteArray := prog_4_method_4_code
abbrev yX2_isMan : MethodName := ⟨RX2, "isMan", "(I)Z"⟩
abbrev cX2_areUnlikeShips : ByteArray := prog_4_method_5_code
abbrev yX2_areUnlikeShips : MethodName := ⟨RX2, "areUnlikeShips", "(II)Z"⟩
abbrev cX2_canMeet : ByteArray := prog_4_method_6_code
abbrev yX2_canMeet : MethodName := ⟨RX2, "canMeet", "(II)Z"⟩
abbrev cX2_isAlone : ByteArray := prog_4_method_7_code
abbrev yX2_isAlone : MethodName := ⟨RX2, "isAlone", "(I)Z"⟩
abbrev cX2_takesShip : ByteArray := prog_4_method_8_code
abbrev yX2_takesShip : MethodName := ⟨RX2, "takesShip", "(II)Z"⟩
abbrev cX2_takesMan : ByteArray := prog_4_method_9_code
abbrev yX2_takesMan : MethodName := ⟨RX2, "takesMan", "(III)Z"⟩
abbrev cX2_giver : ByteArray := prog_4_method_10_code
abbrev yX2_giver : MethodName := ⟨RX2, "giver", "(I)I"⟩
abbrev cX2_fillGivers : ByteArray := prog_4_method_11_code
abbrev yX2_fillGivers : MethodName := ⟨RX2, "fillGivers", "([I)V"⟩
abbrev cX2_holdMeeting : ByteArray := prog_4_method_12_code
abbrev yX2_holdMeeting : MethodName := ⟨RX2, "holdMeeting", "(II)Z"⟩
abbrev cX2_holdTold : ByteArray := prog_4_method_13_code
abbrev yX2_holdTold : MethodName := ⟨RX2, "holdTold", "(LShipsThatMeet$Shelf;I)V"⟩
abbrev cX2_exchange : ByteArray := prog_4_method_14_code
abbrev yX2_exchange : MethodName := ⟨RX2, "exchange", "(IIII)V"⟩
abbrev cX2_takeBack : ByteArray := prog_4_method_15_code
abbrev yX2_takeBack : MethodName := ⟨RX2, "takeBack", "(IIIIII)V"⟩
abbrev cX2_bring : ByteArray := prog_4_method_16_code
abbrev yX2_bring : MethodName := ⟨RX2, "bring", "(III)V"⟩
abbrev cX2_acquaint : ByteArray := prog_4_method_17_code
abbrev yX2_acquaint : MethodName := ⟨RX2, "acquaint", "(I)V"⟩
abbrev cX2_speakers : ByteArray := prog_4_method_18_code
abbrev yX2_speakers : MethodName := ⟨RX2, "speakers", "(II)I"⟩
abbrev cX2_hasTrade : ByteArray := prog_4_method_19_code
abbrev yX2_hasTrade : MethodName := ⟨RX2, "hasTrade", "(II)Z"⟩
abbrev cX2_mixedPairs : ByteArray := prog_4_method_20_code
abbrev yX2_mixedPairs : MethodName := ⟨RX2, "mixedPairs", "()I"⟩
abbrev cX2_withShipmates : ByteArray := prog_4_method_21_code
abbrev yX2_withShipmates : MethodName := ⟨RX2, "withShipmates", "(I)I"⟩
abbrev cX2_setAllCaptains : ByteArray := prog_4_method_22_code
abbrev yX2_setAllCaptains : MethodName := ⟨RX2, "setAllCaptains", "(LShipsThatMeet$Captain;)V"⟩
abbrev cX2_isAstray : ByteArray := prog_4_method_23_code
abbrev yX2_isAstray : MethodName := ⟨RX2, "isAstray", "(I[I)Z"⟩
abbrev cX2_astray : ByteArray := prog_4_method_24_code
abbrev yX2_astray : MethodName := ⟨RX2, "astray", "([I)I"⟩
abbrev cX2_firstAstray : ByteArray := prog_4_method_25_code
abbrev yX2_firstAstray : MethodName := ⟨RX2, "firstAstray", "([I)I"⟩
abbrev cX2_lastMeeting : ByteArray := prog_4_method_26_code
abbrev yX2_lastMeeting : MethodName := ⟨RX2, "lastMeeting", "([I)I"⟩
abbrev cX2_shipsWithoutMen : ByteArray := prog_4_method_27_code
abbrev yX2_shipsWithoutMen : MethodName := ⟨RX2, "shipsWithoutMen", "()I"⟩
abbrev cX2_mostAboard : ByteArray := prog_4_method_28_code
abbrev yX2_mostAboard : MethodName := ⟨RX2, "mostAboard", "()I"⟩
abbrev RX3 : String := "ShipsThatMeet$Keep"
def TX3 : u_T := fun k => match k with
  | 0 => ("ShipsThatMeet$Captain", "kind", "I", true)
  | _ => ("ShipsThatMeet$Captain", "figure", "I", true)
def tyX3 : Nat → FieldType := fun k => match k with
  | 0 => .int
  | _ => .int
abbrev wsX30 : List Cond := u_ws RX3 TX3 2
theorem nmX3 : ∀ a, a < 2 → ∀ b, b < 2 → a ≠ b → (TX3 a).2.1 ≠ (TX3 b).2.1 := by decide +kernel
theorem tyX3_ok : ∀ k, k < 2 → parseFieldDescriptor (TX3 k).2.2.1 = some (tyX3 k) := by decide +kernel
abbrev cX3_init : ByteArray := prog_5_method_1_code
abbrev yX3_init : MethodName := ⟨RX3, "<init>", "(I)V"⟩
abbrev cX3_gift : ByteArray := prog_5_method_2_code
abbrev yX3_gift : MethodName := ⟨RX3, "gift", "(LShipsThatMeet$Fleet;I)I"⟩
abbrev cX3_wages : ByteArray := prog_5_method_3_code
abbrev yX3_wages : MethodName := ⟨RX3, "wages", "()I"⟩
abbrev cX3_worthOfFailure : ByteArray := prog_5_method_4_code
abbrev yX3_worthOfFailure : MethodName := ⟨RX3, "worthOfFailure", "()I"⟩
abbrev RX4 : String := "ShipsThatMeet$Lot"
def TX4 : u_T := fun k => match k with
  | 0 => ("ShipsThatMeet$Captain", "kind", "I", true)
  | _ => ("ShipsThatMeet$Captain", "figure", "I", true)
def tyX4 : Nat → FieldType := fun k => match k with
  | 0 => .int
  | _ => .int
abbrev wsX40 : List Cond := u_ws RX4 TX4 2
theorem nmX4 : ∀ a, a < 2 → ∀ b, b < 2 → a ≠ b → (TX4 a).2.1 ≠ (TX4 b).2.1 := by decide +kernel
theorem tyX4_ok : ∀ k, k < 2 → parseFieldDescriptor (TX4 k).2.2.1 = some (tyX4 k) := by decide +kernel
abbrev cX4_init : ByteArray := prog_6_method_1_code
abbrev yX4_init : MethodName := ⟨RX4, "<init>", "(I)V"⟩
abbrev cX4_gift : ByteArray := prog_6_method_2_code
abbrev yX4_gift : MethodName := ⟨RX4, "gift", "(LShipsThatMeet$Fleet;I)I"⟩
abbrev cX4_wages : ByteArray := prog_6_method_3_code
abbrev yX4_wages : MethodName := ⟨RX4, "wages", "()I"⟩
abbrev RX5 : String := "ShipsThatMeet$New"
def TX5 : u_T := fun k => match k with
  | 0 => ("ShipsThatMeet$Captain", "kind", "I", true)
  | _ => ("ShipsThatMeet$Captain", "figure", "I", true)
def tyX5 : Nat → FieldType := fun k => match k with
  | 0 => .int
  | _ => .int
abbrev wsX50 : List Cond := u_ws RX5 TX5 2
theorem nmX5 : ∀ a, a < 2 → ∀ b, b < 2 → a ≠ b → (TX5 a).2.1 ≠ (TX5 b).2.1 := by decide +kernel
theorem tyX5_ok : ∀ k, k < 2 → parseFieldDescriptor (TX5 k).2.2.1 = some (tyX5 k) := by decide +kernel
abbrev cX5_init : ByteArray := prog_7_method_1_code
abbrev yX5_init : MethodName := ⟨RX5, "<init>", "(II)V"⟩
abbrev cX5_gift : ByteArray := prog_7_method_2_code
abbrev yX5_gift : MethodName := ⟨RX5, "gift", "(LShipsThatMeet$Fleet;I)I"⟩
abbrev cX5_wages : ByteArray := prog_7_method_3_code
abbrev yX5_wages : MethodName := ⟨RX5, "wages", "()I"⟩
abbrev RX6 : String := "ShipsThatMeet$Old"
def TX6 : u_T := fun k => match k with
  | 0 => ("ShipsThatMeet$Captain", "kind", "I", true)
  | _ => ("ShipsThatMeet$Captain", "figure", "I", true)
def tyX6 : Nat → FieldType := fun k => match k with
  | 0 => .int
  | _ => .int
abbrev wsX60 : List Cond := u_ws RX6 TX6 2
theorem nmX6 : ∀ a, a < 2 → ∀ b, b < 2 → a ≠ b → (TX6 a).2.1 ≠ (TX6 b).2.1 := by decide +kernel
theorem tyX6_ok : ∀ k, k < 2 → parseFieldDescriptor (TX6 k).2.2.1 = some (tyX6 k) := by decide +kernel
abbrev cX6_init : ByteArray := prog_8_method_1_code
abbrev yX6_init : MethodName := ⟨RX6, "<init>", "(II)V"⟩
abbrev cX6_gift : ByteArray := prog_8_method_2_code
abbrev yX6_gift : MethodName := ⟨RX6, "gift", "(LShipsThatMeet$Fleet;I)I"⟩
abbrev cX6_wages : ByteArray := prog_8_method_3_code
abbrev yX6_wages : MethodName := ⟨RX6, "wages", "()I"⟩
abbrev RX7 : String := "ShipsThatMeet$Shelf"
def TX7 : u_T := fun k => match k with
  | 0 => ("ShipsThatMeet$Shelf", "captain", "LShipsThatMeet$Captain;", false)
  | 1 => ("ShipsThatMeet$Shelf", "sort", "I", false)
  | 2 => ("ShipsThatMeet$Shelf", "size", "I", false)
  | _ => ("ShipsThatMeet$Shelf", "elements", "[I", true)
def tyX7 : Nat → FieldType := fun k => match k with
  | 0 => .object "ShipsThatMeet$Captain"
  | 1 => .int
  | 2 => .int
  | _ => .array .int
abbrev wsX70 : List Cond := u_ws RX7 TX7 4
theorem nmX7 : ∀ a, a < 4 → ∀ b, b < 4 → a ≠ b → (TX7 a).2.1 ≠ (TX7 b).2.1 := by decide +kernel
theorem tyX7_ok : ∀ k, k < 4 → parseFieldDescriptor (TX7 k).2.2.1 = some (tyX7 k) := by decide +kernel
abbrev cX7_init : ByteArray := prog_9_method_1_code
abbrev yX7_init : MethodName := ⟨RX7, "<init>", "()V"⟩
abbrev cX7_holdsNothing : ByteArray := prog_9_method_2_code
abbrev yX7_holdsNothing : MethodName := ⟨RX7, "holdsNothing", "()Z"⟩
abbrev cX7_holdsRow : ByteArray := prog_9_method_3_code
abbrev yX7_holdsRow : MethodName := ⟨RX7, "holdsRow", "()Z"⟩
abbrev cX7_holdNothing : ByteArray := prog_9_method_4_code
abbrev yX7_holdNothing : MethodName := ⟨RX7, "holdNothing", "()V"⟩
abbrev cX7_holdCaptain : ByteArray := prog_9_method_5_code
abbrev yX7_holdCaptain : MethodName := ⟨RX7, "holdCaptain", "(LShipsThatMeet$Captain;)V"⟩
abbrev cX7_holdRow : ByteArray := prog_9_method_6_code
abbrev yX7_holdRow : MethodName := ⟨RX7, "holdRow", "(II)V"⟩
abbrev cX7_hasPlace : ByteArray := prog_9_method_7_code
abbrev yX7_hasPlace : MethodName := ⟨RX7, "hasPlace", "(I)Z"⟩
abbrev cX7_hasStretch : ByteArray := prog_9_method_8_code
abbrev yX7_hasStretch : MethodName := ⟨RX7, "hasStretch", "(II)Z"⟩
abbrev cX7_at : ByteArray := prog_9_method_9_code
abbrev yX7_at : MethodName := ⟨RX7, "at", "(I)I"⟩
abbrev cX7_meetings : ByteArray := prog_9_method_10_code
abbrev yX7_meetings : MethodName := ⟨RX7, "meetings", "()I"⟩
abbrev cX7_one : ByteArray := prog_9_method_11_code
abbrev yX7_one : MethodName := ⟨RX7, "one", "(I)I"⟩
abbrev cX7_other : ByteArray := prog_9_method_12_code
abbrev yX7_other : MethodName := ⟨RX7, "other", "(I)I"⟩
abbrev cX7_write : ByteArray := prog_9_method_13_code
abbrev yX7_write : MethodName := ⟨RX7, "write", "(II)V"⟩
abbrev RX8 : String := "ShipsThatMeet$Told"
def TX8 : u_T := fun k => match k with
  | 0 => ("ShipsThatMeet$Captain", "kind", "I", true)
  | _ => ("ShipsThatMeet$Captain", "figure", "I", true)
def tyX8 : Nat → FieldType := fun k => match k with
  | 0 => .int
  | _ => .int
abbrev wsX80 : List Cond := u_ws RX8 TX8 2
theorem nmX8 : ∀ a, a < 2 → ∀ b, b < 2 → a ≠ b → (TX8 a).2.1 ≠ (TX8 b).2.1 := by decide +kernel
theorem tyX8_ok : ∀ k, k < 2 → parseFieldDescriptor (TX8 k).2.2.1 = some (tyX8 k) := by decide +kernel
abbrev cX8_init : ByteArray := prog_10_method_1_code
abbrev yX8_init : MethodName := ⟨RX8, "<init>", "(I)V"⟩
abbrev cX8_gift : ByteArray := prog_10_method_2_code
abbrev yX8_gift : MethodName := ⟨RX8, "gift", "(LShipsThatMeet$Fleet;I)I"⟩
abbrev cX8_wages : ByteArray := prog_10_method_3_code
abbrev yX8_wages : MethodName := ⟨RX8, "wages", "()I"⟩
abbrev cX8_fail : ByteArray := prog_10_method_4_code
abbrev yX8_fail : MethodName := ⟨RX8, "fail", "()V"⟩
abbrev RX9 : String := "ShipsThatMeet$Want"
def TX9 : u_T := fun k => match k with
  | 0 => ("ShipsThatMeet$Captain", "kind", "I", true)
  | _ => ("ShipsThatMeet$Captain", "figure", "I", true)
def tyX9 : Nat → FieldType := fun k => match k with
  | 0 => .int
  | _ => .int
abbrev wsX90 : List Cond := u_ws RX9 TX9 2
theorem nmX9 : ∀ a, a < 2 → ∀ b, b < 2 → a ≠ b → (TX9 a).2.1 ≠ (TX9 b).2.1 := by decide +kernel
theorem tyX9_ok : ∀ k, k < 2 → parseFieldDescriptor (TX9 k).2.2.1 = some (tyX9 k) := by decide +kernel
abbrev cX9_init : ByteArray := prog_11_method_1_code
abbrev yX9_init : MethodName := ⟨RX9, "<init>", "(II)V"⟩
abbrev cX9_unwanted : ByteArray := prog_11_method_2_code
abbrev yX9_unwanted : MethodName := ⟨RX9, "unwanted", "(LShipsThatMeet$Fleet;I)I"⟩
abbrev cX9_gift : ByteArray := prog_11_method_3_code
abbrev yX9_gift : MethodName := ⟨RX9, "gift", "(LShipsThatMeet$Fleet;I)I"⟩
abbrev cX9_wages : ByteArray := prog_11_method_4_code
abbrev yX9_wages : MethodName := ⟨RX9, "wages", "()I"⟩
abbrev RX10 : String := "ShipsThatMeet"
def TX10 : u_T := fun k => match k with
  | 0 => ("ShipsThatMeet", "real", "LShipsThatMeet$Fleet;", true)
  | 1 => ("ShipsThatMeet", "mind", "LShipsThatMeet$Fleet;", true)
  | 2 => ("ShipsThatMeet", "imageFleet", "LShipsThatMeet$Fleet;", true)
  | 3 => ("ShipsThatMeet", "imageTaken", "Z", false)
  | 4 => ("ShipsThatMeet", "shelves", "[LShipsThatMeet$Shelf;", true)
  | 5 => ("ShipsThatMeet", "giversByDepth", "[[I", true)
  | 6 => ("ShipsThatMeet", "wanted", "[I", true)
  | _ => ("ShipsThatMeet", "chances", "[J", true)
def tyX10 : Nat → FieldType := fun k => match k with
  | 0 => .object "ShipsThatMeet$Fleet"
  | 1 => .object "ShipsThatMeet$Fleet"
  | 2 => .object "ShipsThatMeet$Fleet"
  | 3 => .boolean
  | 4 => .array (.object "ShipsThatMeet$Shelf")
  | 5 => .array (.array .int)
  | 6 => .array .int
  | _ => .array .long
abbrev wsX100 : List Cond := u_ws RX10 TX10 8
theorem nmX10 : ∀ a, a < 8 → ∀ b, b < 8 → a ≠ b → (TX10 a).2.1 ≠ (TX10 b).2.1 := by decide +kernel
theorem tyX10_ok : ∀ k, k < 8 → parseFieldDescriptor (TX10 k).2.2.1 = some (tyX10 k) := by decide +kernel
abbrev cX10_init : ByteArray := prog_1_method_1_code
abbrev yX10_init : MethodName := ⟨RX10, "<init>", "()V"⟩
abbrev cX10_fleet : ByteArray := prog_1_method_2_code
abbrev yX10_fleet : MethodName := ⟨RX10, "fleet", "(I)I"⟩
abbrev cX10_ship : ByteArray := prog_1_method_3_code
abbrev yX10_ship : MethodName := ⟨RX10, "ship", "(II)I"⟩
abbrev cX10_man : ByteArray := prog_1_method_4_code
abbrev yX10_man : MethodName := ⟨RX10, "man", "(II)I"⟩
abbrev cX10_commands : ByteArray := prog_1_method_5_code
abbrev yX10_commands : MethodName := ⟨RX10, "commands", "(II)I"⟩
abbrev cX10_meet : ByteArray := prog_1_method_6_code
abbrev yX10_meet : MethodName := ⟨RX10, "meet", "(II)I"⟩
abbrev cX10_where : ByteArray := prog_1_method_7_code
abbrev yX10_where : MethodName := ⟨RX10, "where", "(II)I"⟩
abbrev cX10_can : ByteArray := prog_1_method_8_code
abbrev yX10_can : MethodName := ⟨RX10, "can", "(II)I"⟩
abbrev cX10_soonest : ByteArray := prog_1_method_9_code
abbrev yX10_soonest : MethodName := ⟨RX10, "soonest", "(III)I"⟩
abbrev cX10_likely : ByteArray := prog_1_method_10_code
abbrev yX10_likely : MethodName := ⟨RX10, "likely", "(IIII)J"⟩
abbrev cX10_fewest : ByteArray := prog_1_method_11_code
abbrev yX10_fewest : MethodName := ⟨RX10, "fewest", "(III)I"⟩
abbrev cX10_crews : ByteArray := prog_1_method_12_code
abbrev yX10_crews : MethodName := ⟨RX10, "crews", "(I)I"⟩
abbrev cX10_sailed : ByteArray := prog_1_method_13_code
abbrev yX10_sailed : MethodName := ⟨RX10, "sailed", "(I)I"⟩
abbrev cX10_never : ByteArray := prog_1_method_14_code
abbrev yX10_never : MethodName := ⟨RX10, "never", "()I"⟩
abbrev cX10_mixed : ByteArray := prog_1_method_15_code
abbrev yX10_mixed : MethodName := ⟨RX10, "mixed", "()I"⟩
abbrev cX10_mixesMost : ByteArray := prog_1_method_16_code
abbrev yX10_mixesMost : MethodName := ⟨RX10, "mixesMost", "()I"⟩
abbrev cX10_lacks : ByteArray := prog_1_method_17_code
abbrev yX10_lacks : MethodName := ⟨RX10, "lacks", "(I)I"⟩
abbrev cX10_letter : ByteArray := prog_1_method_18_code
abbrev yX10_letter : MethodName := ⟨RX10, "letter", "(II)I"⟩
abbrev cX10_law : ByteArray := prog_1_method_19_code
abbrev yX10_law : MethodName := ⟨RX10, "law", "(IIII)I"⟩
abbrev cX10_together : ByteArray := prog_1_method_20_code
abbrev yX10_together : MethodName := ⟨RX10, "together", "(III)I"⟩
abbrev cX10_moved : ByteArray := prog_1_method_21_code
abbrev yX10_moved : MethodName := ⟨RX10, "moved", "(II)I"⟩
abbrev cX10_seeded : ByteArray := prog_1_method_22_code
abbrev yX10_seeded : MethodName := ⟨RX10, "seeded", "(III)I"⟩
abbrev cX10_judge : ByteArray := prog_1_method_23_code
abbrev yX10_judge : MethodName := ⟨RX10, "judge", "(I)I"⟩
abbrev cX10_image : ByteArray := prog_1_method_24_code
abbrev yX10_image : MethodName := ⟨RX10, "image", "()I"⟩
abbrev cX10_restore : ByteArray := prog_1_method_25_code
abbrev yX10_restore : MethodName := ⟨RX10, "restore", "()I"⟩
abbrev cX10_count : ByteArray := prog_1_method_26_code
abbrev yX10_count : MethodName := ⟨RX10, "count", "(I)I"⟩
abbrev cX10_keep : ByteArray := prog_1_method_27_code
abbrev yX10_keep : MethodName := ⟨RX10, "keep", "(IIII)I"⟩
abbrev cX10_row : ByteArray := prog_1_method_28_code
abbrev yX10_row : MethodName := ⟨RX10, "row", "(III)I"⟩
abbrev cX10_put : ByteArray := prog_1_method_29_code
abbrev yX10_put : MethodName := ⟨RX10, "put", "(III)I"⟩
abbrev cX10_element : ByteArray := prog_1_method_30_code
abbrev yX10_element : MethodName := ⟨RX10, "element", "(II)J"⟩
abbrev cX10_copy : ByteArray := prog_1_method_31_code
abbrev yX10_copy : MethodName := ⟨RX10, "copy", "(IIIII)I"⟩
abbrev cX10_pay : ByteArray := prog_1_method_32_code
abbrev yX10_pay : MethodName := ⟨RX10, "pay", "(I)I"⟩
abbrev cX10_toss : ByteArray := prog_1_method_33_code
abbrev yX10_toss : MethodName := ⟨RX10, "toss", "(I)I"⟩
abbrev cX10_isShelf : ByteArray := prog_1_method_34_code
abbrev yX10_isShelf : MethodName := ⟨RX10, "isShelf", "(I)Z"⟩
abbrev cX10_isKindAndFigure : ByteArray := prog_1_method_35_code
abbrev yX10_isKindAndFigure : MethodName := ⟨RX10, "isKindAndFigure", "(II)Z"⟩
abbrev cX10_refusalOfCaptain : ByteArray := prog_1_method_36_code
abbrev yX10_refusalOfCaptain : MethodName := ⟨RX10, "refusalOfCaptain", "(I)I"⟩
abbrev cX10_refusalOfRow : ByteArray := prog_1_method_37_code
abbrev yX10_refusalOfRow : MethodName := ⟨RX10, "refusalOfRow", "(I)I"⟩
abbrev cX10_refusalOfBytes : ByteArray := prog_1_method_38_code
abbrev yX10_refusalOfBytes : MethodName := ⟨RX10, "refusalOfBytes", "(I)I"⟩
abbrev cX10_refusalOfMeetings : ByteArray := prog_1_method_39_code
abbrev yX10_refusalOfMeetings : MethodName := ⟨RX10, "refusalOfMeetings", "(I)I"⟩
abbrev cX10_refusalOfManAndMeetings : ByteArray := prog_1_method_40_code
abbrev yX10_refusalOfManAndMeetings : MethodName := ⟨RX10, "refusalOfManAndMeetings", "(II)I"⟩
abbrev cX10_tellsOfEachMan : ByteArray := prog_1_method_41_code
abbrev yX10_tellsOfEachMan : MethodName := ⟨RX10, "tellsOfEachMan", "(LShipsThatMeet$Shelf;)Z"⟩
abbrev cX10_signsBehind : ByteArray := prog_1_method_42_code
abbrev yX10_signsBehind : MethodName := ⟨RX10, "signsBehind", "(I)I"⟩
abbrev cX10_faultOfForm : ByteArray := prog_1_method_43_code
abbrev yX10_faultOfForm : MethodName := ⟨RX10, "faultOfForm", "(LShipsThatMeet$Shelf;)I"⟩
abbrev cX10_digit : ByteArray := prog_1_method_44_code
abbrev yX10_digit : MethodName := ⟨RX10, "digit", "(LShipsThatMeet$Shelf;I)I"⟩
abbrev cX10_isCarriedOut : ByteArray := prog_1_method_45_code
abbrev yX10_isCarriedOut : MethodName := ⟨RX10, "isCarriedOut", "(LShipsThatMeet$Fleet;LShipsThatMeet$Shelf;I)Z"⟩
abbrev cX10_has : ByteArray := prog_1_method_46_code
abbrev yX10_has : MethodName := ⟨RX10, "has", "(II)Z"⟩
abbrev cX10_nameOfMeeting : ByteArray := prog_1_method_47_code
abbrev yX10_nameOfMeeting : MethodName := ⟨RX10, "nameOfMeeting", "(II)I"⟩
abbrev cX10_choicesBehind : ByteArray := prog_1_method_48_code
abbrev yX10_choicesBehind : MethodName := ⟨RX10, "choicesBehind", "(III)I"⟩
abbrev cX10_fillChances : ByteArray := prog_1_method_49_code
abbrev yX10_fillChances : MethodName := ⟨RX10, "fillChances", "(ILShipsThatMeet$Shelf;)J"⟩
abbrev cX10_spreadChances : ByteArray := prog_1_method_50_code
abbrev yX10_spreadChances : MethodName := ⟨RX10, "spreadChances", "(II)J"⟩
abbrev cX10_commonDivisor : ByteArray := prog_1_method_51_code
abbrev yX10_commonDivisor : MethodName := ⟨RX10, "commonDivisor", "(JJ)J"⟩
abbrev cX10_fewestMeetings : ByteArray := prog_1_method_52_code
abbrev yX10_fewestMeetings : MethodName := ⟨RX10, "fewestMeetings", "(I)I"⟩
abbrev cX10_firstOfWay : ByteArray := prog_1_method_53_code
abbrev yX10_firstOfWay : MethodName := ⟨RX10, "firstOfWay", "(LShipsThatMeet$Fleet;[[I[II)I"⟩
abbrev cX10_nextSeed : ByteArray := prog_1_method_54_code
abbrev yX10_nextSeed : MethodName := ⟨RX10, "nextSeed", "(I)I"⟩
abbrev cX10_drawBelow : ByteArray := prog_1_method_55_code
abbrev yX10_drawBelow : MethodName := ⟨RX10, "drawBelow", "(II)I"⟩
abbrev cX10_faultOfGifts : ByteArray := prog_1_method_56_code
abbrev yX10_faultOfGifts : MethodName := ⟨RX10, "faultOfGifts", "(LShipsThatMeet$Fleet;LShipsThatMeet$Shelf;I)I"⟩
abbrev cX10_captainOf : ByteArray := prog_1_method_57_code
abbrev yX10_captainOf : MethodName := ⟨RX10, "captainOf", "(II)LShipsThatMeet$Captain;"⟩
abbrev RX11 : String := "ShipsThatMeetModel"
def TX11 : u_T := fun k => match k with
  | 0 => ("ShipsThatMeetModel", "s", "[I", true)
  | 1 => ("ShipsThatMeetModel", "image", "[I", true)
  | 2 => ("ShipsThatMeetModel", "read", "[I", true)
  | 3 => ("ShipsThatMeetModel", "mind", "[I", true)
  | 4 => ("ShipsThatMeetModel", "kept", "[I", true)
  | 5 => ("ShipsThatMeetModel", "sort", "[I", true)
  | 6 => ("ShipsThatMeetModel", "size", "[I", true)
  | 7 => ("ShipsThatMeetModel", "element", "[I", true)
  | 8 => ("ShipsThatMeetModel", "keptKind", "[I", true)
  | 9 => ("ShipsThatMeetModel", "keptFigure", "[I", true)
  | 10 => ("ShipsThatMeetModel", "hasImage", "Z", false)
  | 11 => ("ShipsThatMeetModel", "thrown", "I", false)
  | 12 => ("ShipsThatMeetModel", "firstGiven", "I", false)
  | 13 => ("ShipsThatMeetModel", "otherGiven", "I", false)
  | 14 => ("ShipsThatMeetModel", "pos", "I", false)
  | 15 => ("ShipsThatMeetModel", "base", "I", false)
  | 16 => ("ShipsThatMeetModel", "end", "I", false)
  | 17 => ("ShipsThatMeetModel", "told", "I", false)
  | 18 => ("ShipsThatMeetModel", "numbers", "[I", true)
  | 19 => ("ShipsThatMeetModel", "likely", "[J", true)
  | 20 => ("ShipsThatMeetModel", "stack", "[I", true)
  | 21 => ("ShipsThatMeetModel", "firstMeeting", "I", false)
  | 22 => ("ShipsThatMeetModel", "wanted", "[I", true)
  | _ => ("ShipsThatMeetModel", "seed", "I", false)
def tyX11 : Nat → FieldType := fun k => match k with
  | 0 => .array .int
  | 1 => .array .int
  | 2 => .array .int
  | 3 => .array .int
  | 4 => .array .int
  | 5 => .array .int
  | 6 => .array .int
  | 7 => .array .int
  | 8 => .array .int
  | 9 => .array .int
  | 10 => .boolean
  | 11 => .int
  | 12 => .int
  | 13 => .int
  | 14 => .int
  | 15 => .int
  | 16 => .int
  | 17 => .int
  | 18 => .array .int
  | 19 => .array .long
  | 20 => .array .int
  | 21 => .int
  | 22 => .array .int
  | _ => .int
abbrev wsX110 : List Cond := u_ws RX11 TX11 24
theorem nmX11 : ∀ a, a < 24 → ∀ b, b < 24 → a ≠ b → (TX11 a).2.1 ≠ (TX11 b).2.1 := by decide +kernel
theorem tyX11_ok : ∀ k, k < 24 → parseFieldDescriptor (TX11 k).2.2.1 = some (tyX11 k) := by decide +kernel
abbrev cX11_init : ByteArray := prog_13_method_1_code
abbrev yX11_init : MethodName := ⟨RX11, "<init>", "()V"⟩
abbrev cX11_thrown : ByteArray := prog_13_method_2_code
abbrev yX11_thrown : MethodName := ⟨RX11, "thrown", "()I"⟩
abbrev cX11_isIn : ByteArray := prog_13_method_3_code
abbrev yX11_isIn : MethodName := ⟨RX11, "isIn", "(JJJ)Z"⟩
abbrev cX11_isShelf : ByteArray := prog_13_method_4_code
abbrev yX11_isShelf : MethodName := ⟨RX11, "isShelf", "(I)Z"⟩
abbrev cX11_isShip : ByteArray := prog_13_method_5_code
abbrev yX11_isShip : MethodName := ⟨RX11, "isShip", "(I)Z"⟩
abbrev cX11_isMan : ByteArray := prog_13_method_6_code
abbrev yX11_isMan : MethodName := ⟨RX11, "isMan", "(I)Z"⟩
abbrev cX11_kind : ByteArray := prog_13_method_7_code
abbrev yX11_kind : MethodName := ⟨RX11, "kind", "(I)I"⟩
abbrev cX11_figure : ByteArray := prog_13_method_8_code
abbrev yX11_figure : MethodName := ⟨RX11, "figure", "(I)I"⟩
abbrev cX11_get : ByteArray := prog_13_method_9_code
abbrev yX11_get : MethodName := ⟨RX11, "get", "(II)I"⟩
abbrev cX11_puts : ByteArray := prog_13_method_10_code
abbrev yX11_puts : MethodName := ⟨RX11, "puts", "(III)V"⟩
abbrev cX11_copies : ByteArray := prog_13_method_11_code
abbrev yX11_copies : MethodName := ⟨RX11, "copies", "([I[I)V"⟩
abbrev cX11_common : ByteArray := prog_13_method_12_code
abbrev yX11_common : MethodName := ⟨RX11, "common", "(JJ)J"⟩
abbrev cX11_aboard : ByteArray := prog_13_method_13_code
abbrev yX11_aboard : MethodName := ⟨RX11, "aboard", "(I)I"⟩
abbrev cX11_bits : ByteArray := prog_13_method_14_code
abbrev yX11_bits : MethodName := ⟨RX11, "bits", "(I)I"⟩
abbrev cX11_at : ByteArray := prog_13_method_15_code
abbrev yX11_at : MethodName := ⟨RX11, "at", "(II)I"⟩
abbrev cX11_bySince : ByteArray := prog_13_method_16_code
abbrev yX11_bySince : MethodName := ⟨RX11, "bySince", "(IZ)I"⟩
abbrev cX11_notOf : ByteArray := prog_13_method_17_code
abbrev yX11_notOf : MethodName := ⟨RX11, "notOf", "(II)I"⟩
abbrev cX11_likeTongue : ByteArray := prog_13_method_18_code
abbrev yX11_likeTongue : MethodName := ⟨RX11, "likeTongue", "(II)I"⟩
abbrev cX11_bestOf : ByteArray := prog_13_method_19_code
abbrev yX11_bestOf : MethodName := ⟨RX11, "bestOf", "(II)I"⟩
abbrev cX11_gives : ByteArray := prog_13_method_20_code
abbrev yX11_gives : MethodName := ⟨RX11, "gives", "(I)I"⟩
abbrev cX11_sails : ByteArray := prog_13_method_21_code
abbrev yX11_sails : MethodName := ⟨RX11, "sails", "(I)V"⟩
abbrev cX11_mayMeet : ByteArray := prog_13_method_22_code
abbrev yX11_mayMeet : MethodName := ⟨RX11, "mayMeet", "(II)Z"⟩
abbrev cX11_meets : ByteArray := prog_13_method_23_code
abbrev yX11_meets : MethodName := ⟨RX11, "meets", "(II)V"⟩
abbrev cX11_here : ByteArray := prog_13_method_24_code
abbrev yX11_here : MethodName := ⟨RX11, "here", "()I"⟩
abbrev cX11_readsDigits : ByteArray := prog_13_method_25_code
abbrev yX11_readsDigits : MethodName := ⟨RX11, "readsDigits", "(I)Z"⟩
abbrev cX11_readsStatement : ByteArray := prog_13_method_26_code
abbrev yX11_readsStatement : MethodName := ⟨RX11, "readsStatement", "()Z"⟩
abbrev cX11_comes : ByteArray := prog_13_method_27_code
abbrev yX11_comes : MethodName := ⟨RX11, "comes", "(I)Z"⟩
abbrev cX11_wrongRow : ByteArray := prog_13_method_28_code
abbrev yX11_wrongRow : MethodName := ⟨RX11, "wrongRow", "(II)I"⟩
abbrev cX11_fleet : ByteArray := prog_13_method_29_code
abbrev yX11_fleet : MethodName := ⟨RX11, "fleet", "(I)I"⟩
abbrev cX11_ship : ByteArray := prog_13_method_30_code
abbrev yX11_ship : MethodName := ⟨RX11, "ship", "(II)I"⟩
abbrev cX11_man : ByteArray := prog_13_method_31_code
abbrev yX11_man : MethodName := ⟨RX11, "man", "(II)I"⟩
abbrev cX11_wrongKept : ByteArray := prog_13_method_32_code
abbrev yX11_wrongKept : MethodName := ⟨RX11, "wrongKept", "(I)I"⟩
abbrev cX11_commands : ByteArray := prog_13_method_33_code
abbrev yX11_commands : MethodName := ⟨RX11, "commands", "(II)I"⟩
abbrev cX11_meet : ByteArray := prog_13_method_34_code
abbrev yX11_meet : MethodName := ⟨RX11, "meet", "(II)I"⟩
abbrev cX11_wrongMeetings : ByteArray := prog_13_method_35_code
abbrev yX11_wrongMeetings : MethodName := ⟨RX11, "wrongMeetings", "(I)I"⟩
abbrev cX11_first : ByteArray := prog_13_method_36_code
abbrev yX11_first : MethodName := ⟨RX11, "first", "(II)I"⟩
abbrev cX11_second : ByteArray := prog_13_method_37_code
abbrev yX11_second : MethodName := ⟨RX11, "second", "(II)I"⟩
abbrev cX11_meetings : ByteArray := prog_13_method_38_code
abbrev yX11_meetings : MethodName := ⟨RX11, "meetings", "(I)I"⟩
abbrev cX11_meetsTold : ByteArray := prog_13_method_39_code
abbrev yX11_meetsTold : MethodName := ⟨RX11, "meetsTold", "(II)Z"⟩
abbrev cX11_begins : ByteArray := prog_13_method_40_code
abbrev yX11_begins : MethodName := ⟨RX11, "begins", "()V"⟩
abbrev cX11_ends : ByteArray := prog_13_method_41_code
abbrev yX11_ends : MethodName := ⟨RX11, "ends", "()V"⟩
abbrev cX11_where : ByteArray := prog_13_method_42_code
abbrev yX11_where : MethodName := ⟨RX11, "where", "(II)I"⟩
abbrev cX11_mayBe : ByteArray := prog_13_method_43_code
abbrev yX11_mayBe : MethodName := ⟨RX11, "mayBe", "(III)I"⟩
abbrev cX11_can : ByteArray := prog_13_method_44_code
abbrev yX11_can : MethodName := ⟨RX11, "can", "(II)I"⟩
abbrev cX11_soonest : ByteArray := prog_13_method_45_code
abbrev yX11_soonest : MethodName := ⟨RX11, "soonest", "(III)I"⟩
abbrev cX11_likely : ByteArray := prog_13_method_46_code
abbrev yX11_likely : MethodName := ⟨RX11, "likely", "(IIII)J"⟩
abbrev cX11_keeps : ByteArray := prog_13_method_47_code
abbrev yX11_keeps : MethodName := ⟨RX11, "keeps", "(I)V"⟩
abbrev cX11_back : ByteArray := prog_13_method_48_code
abbrev yX11_back : MethodName := ⟨RX11, "back", "(I)V"⟩
abbrev cX11_isWanted : ByteArray := prog_13_method_49_code
abbrev yX11_isWanted : MethodName := ⟨RX11, "isWanted", "()Z"⟩
abbrev cX11_comesBy : ByteArray := prog_13_method_50_code
abbrev yX11_comesBy : MethodName := ⟨RX11, "comesBy", "(II)Z"⟩
abbrev cX11_fewestBy : ByteArray := prog_13_method_51_code
abbrev yX11_fewestBy : MethodName := ⟨RX11, "fewestBy", "(I)I"⟩
abbrev cX11_fewest : ByteArray := prog_13_method_52_code
abbrev yX11_fewest : MethodName := ⟨RX11, "fewest", "(III)I"⟩
abbrev cX11_crews : ByteArray := prog_13_method_53_code
abbrev yX11_crews : MethodName := ⟨RX11, "crews", "(I)I"⟩
abbrev cX11_sailed : ByteArray := prog_13_method_54_code
abbrev yX11_sailed : MethodName := ⟨RX11, "sailed", "(I)I"⟩
abbrev cX11_never : ByteArray := prog_13_method_55_code
abbrev yX11_never : MethodName := ⟨RX11, "never", "()I"⟩
abbrev cX11_mixedNow : ByteArray := prog_13_method_56_code
abbrev yX11_mixedNow : MethodName := ⟨RX11, "mixedNow", "()I"⟩
abbrev cX11_mixed : ByteArray := prog_13_method_57_code
abbrev yX11_mixed : MethodName := ⟨RX11, "mixed", "()I"⟩
abbrev cX11_mixesMost : ByteArray := prog_13_method_58_code
abbrev yX11_mixesMost : MethodName := ⟨RX11, "mixesMost", "()I"⟩
abbrev cX11_lacks : ByteArray := prog_13_method_59_code
abbrev yX11_lacks : MethodName := ⟨RX11, "lacks", "(I)I"⟩
abbrev cX11_spreads : ByteArray := prog_13_method_60_code
abbrev yX11_spreads : MethodName := ⟨RX11, "spreads", "(I)I"⟩
abbrev cX11_letter : ByteArray := prog_13_method_61_code
abbrev yX11_letter : MethodName := ⟨RX11, "letter", "(II)I"⟩
abbrev cX11_law : ByteArray := prog_13_method_62_code
abbrev yX11_law : MethodName := ⟨RX11, "law", "(IIII)I"⟩
abbrev cX11_together : ByteArray := prog_13_method_63_code
abbrev yX11_together : MethodName := ⟨RX11, "together", "(III)I"⟩
abbrev cX11_moved : ByteArray := prog_13_method_64_code
abbrev yX11_moved : MethodName := ⟨RX11, "moved", "(II)I"⟩
abbrev cX11_drawn : ByteArray := prog_13_method_65_code
abbrev yX11_drawn : MethodName := ⟨RX11, "drawn", "(I)I"⟩
abbrev cX11_seeded : ByteArray := prog_13_method_66_code
abbrev yX11_seeded : MethodName := ⟨RX11, "seeded", "(III)I"⟩
abbrev cX11_wrongFour : ByteArray := prog_13_method_67_code
abbrev yX11_wrongFour : MethodName := ⟨RX11, "wrongFour", "(II)I"⟩
abbrev cX11_judge : ByteArray := prog_13_method_68_code
abbrev yX11_judge : MethodName := ⟨RX11, "judge", "(I)I"⟩
abbrev cX11_image : ByteArray := prog_13_method_69_code
abbrev yX11_image : MethodName := ⟨RX11, "image", "()I"⟩
abbrev cX11_restore : ByteArray := prog_13_method_70_code
abbrev yX11_restore : MethodName := ⟨RX11, "restore", "()I"⟩
abbrev cX11_count : ByteArray := prog_13_method_71_code
abbrev yX11_count : MethodName := ⟨RX11, "count", "(I)I"⟩
abbrev cX11_payBy : ByteArray := prog_13_method_72_code
abbrev yX11_payBy : MethodName := ⟨RX11, "payBy", "(II)I"⟩
abbrev cX11_keep : ByteArray := prog_13_method_73_code
abbrev yX11_keep : MethodName := ⟨RX11, "keep", "(IIII)I"⟩
abbrev cX11_row : ByteArray := prog_13_method_74_code
abbrev yX11_row : MethodName := ⟨RX11, "row", "(III)I"⟩
abbrev cX11_put : ByteArray := prog_13_method_75_code
abbrev yX11_put : MethodName := ⟨RX11, "put", "(III)I"⟩
abbrev cX11_element : ByteArray := prog_13_method_76_code
abbrev yX11_element : MethodName := ⟨RX11, "element", "(II)J"⟩
abbrev cX11_copy : ByteArray := prog_13_method_77_code
abbrev yX11_copy : MethodName := ⟨RX11, "copy", "(IIIII)I"⟩
abbrev cX11_pay : ByteArray := prog_13_method_78_code
abbrev yX11_pay : MethodName := ⟨RX11, "pay", "(I)I"⟩
abbrev cX11_toss : ByteArray := prog_13_method_79_code
abbrev yX11_toss : MethodName := ⟨RX11, "toss", "(I)I"⟩
abbrev RJ6 : String := "java/lang/Integer"
def TJ6 : u_T := fun k => match k with
  | _ => ("", "", "", false)
def tyJ6 : Nat → FieldType := fun k => match k with
  | _ => .int
abbrev wsJ60 : List Cond := u_ws RJ6 TJ6 0
theorem nmJ6 : ∀ a, a < 0 → ∀ b, b < 0 → a ≠ b → (TJ6 a).2.1 ≠ (TJ6 b).2.1 := by decide +kernel
theorem tyJ6_ok : ∀ k, k < 0 → parseFieldDescriptor (TJ6 k).2.2.1 = some (tyJ6 k) := by decide +kernel
abbrev cJ6_bitCount_0f7a4 : ByteArray := prog_17_method_49_code
abbrev yJ6_bitCount_0f7a4 : MethodName := ⟨RJ6, "bitCount", "(I)I"⟩
abbrev RJ9 : String := "java/lang/Math"
def TJ9 : u_T := fun k => match k with
  | _ => ("", "", "", false)
def tyJ9 : Nat → FieldType := fun k => match k with
  | _ => .int
abbrev wsJ90 : List Cond := u_ws RJ9 TJ9 0
theorem nmJ9 : ∀ a, a < 0 → ∀ b, b < 0 → a ≠ b → (TJ9 a).2.1 ≠ (TJ9 b).2.1 := by decide +kernel
theorem tyJ9_ok : ∀ k, k < 0 → parseFieldDescriptor (TJ9 k).2.2.1 = some (tyJ9 k) := by decide +kernel
abbrev cJ9_max_7cf53 : ByteArray := prog_18_method_65_code
abbrev yJ9_max_7cf53 : MethodName := ⟨RJ9, "max", "(II)I"⟩
abbrev cJ9_min_7cf53 : ByteArray := prog_18_method_69_code
abbrev yJ9_min_7cf53 : MethodName := ⟨RJ9, "min", "(II)I"⟩
abbrev RJ0 : String := "java/lang/String"
def TJ0 : u_T := fun k => match k with
  | _ => ("", "", "", false)
def tyJ0 : Nat → FieldType := fun k => match k with
  | _ => .int
abbrev wsJ00 : List Cond := u_ws RJ0 TJ0 0
theorem nmJ0 : ∀ a, a < 0 → ∀ b, b < 0 → a ≠ b → (TJ0 a).2.1 ≠ (TJ0 b).2.1 := by decide +kernel
theorem tyJ0_ok : ∀ k, k < 0 → parseFieldDescriptor (TJ0 k).2.2.1 = some (tyJ0 k) := by decide +kernel
abbrev RJ10 : String := "java/lang/System"
def TJ10 : u_T := fun k => match k with
  | _ => ("", "", "", false)
def tyJ10 : Nat → FieldType := fun k => match k with
  | _ => .int
abbrev wsJ100 : List Cond := u_ws RJ10 TJ10 0
theorem nmJ10 : ∀ a, a < 0 → ∀ b, b < 0 → a ≠ b → (TJ10 a).2.1 ≠ (TJ10 b).2.1 := by decide +kernel
theorem tyJ10_ok : ∀ k, k < 0 → parseFieldDescriptor (TJ10 k).2.2.1 = some (tyJ10 k) := by decide +kernel
abbrev RL : String := "ShipsThatMeetLaw"
abbrev cL_element : ByteArray := method_3_code
abbrev yL_element : MethodName := ⟨RL, "element", "(LShipsThatMeet;II[J)I"⟩
abbrev cL_law : ByteArray := code
abbrev yL_law : MethodName := ⟨RL, "law", "([I)Z"⟩
abbrev vwCl : List vw_C := [(RX0, TX0, 2), (RX1, TX1, 2), (RX2, TX2, 10), (RX3, TX3, 2), (RX4, TX4, 2), (RX5, TX5, 2), (RX6, TX6, 2), (RX7, TX7, 4), (RX8, TX8, 2), (RX9, TX9, 2), (RX10, TX10, 8), (RX11, TX11, 24)]
end
section
/-- the words of the tables that hold in every later state of a run -/
def ah_tb : List Cond := lw_tbl.filter goodWord
theorem q_0 : Cond.selects "ShipsThatMeet" ⟨"ShipsThatMeet", "refusalOfBytes", "(I)I"⟩ ⟨"ShipsThatMeet", "refusalOfBytes", "(I)I"⟩ ∈ ah_tb := List.mem_filter.mpr ⟨List.mem_of_getElem? (i := 0) (by decide +kernel), by decide +kernel⟩
theorem q_1 : Cond.selects "ShipsThatMeet" ⟨"ShipsThatMeet", "refusalOfRow", "(I)I"⟩ ⟨"ShipsThatMeet", "refusalOfRow", "(I)I"⟩ ∈ ah_tb := List.mem_filter.mpr ⟨List.mem_of_getElem? (i := 1) (by decide +kernel), by decide +kernel⟩
theorem q_2 : Cond.selects "ShipsThatMeet" ⟨"ShipsThatMeet", "refusalOfCaptain", "(I)I"⟩ ⟨"ShipsThatMeet", "refusalOfCaptain", "(I)I"⟩ ∈ ah_tb := List.mem_filter.mpr ⟨List.mem_of_getElem? (i := 2) (by decide +kernel), by decide +kernel⟩
theorem q_3 : Cond.selects "ShipsThatMeet" ⟨"ShipsThatMeet", "refusalOfManAndMeetings", "(II)I"⟩ ⟨"ShipsThatMeet", "refusalOfManAndMeetings", "(II)I"⟩ ∈ ah_tb := List.mem_filter.mpr ⟨List.mem_of_getElem? (i := 3) (by decide +kernel), by decide +kernel⟩
theorem q_4 : Cond.selects "ShipsThatMeet" ⟨"ShipsThatMeet", "refusalOfMeetings", "(I)I"⟩ ⟨"ShipsThatMeet", "refusalOfMeetings", "(I)I"⟩ ∈ ah_tb := List.mem_filter.mpr ⟨List.mem_of_getElem? (i := 4) (by decide +kernel), by decide +kernel⟩
theorem q_5 : Cond.selects "ShipsThatMeet" ⟨"ShipsThatMeet", "choicesBehind", "(III)I"⟩ ⟨"ShipsThatMeet", "choicesBehind", "(III)I"⟩ ∈ ah_tb := List.mem_filter.mpr ⟨List.mem_of_getElem? (i := 5) (by decide +kernel), by decide +kernel⟩
theorem q_6 : Cond.selects "ShipsThatMeet" ⟨"ShipsThatMeet", "fillChances", "(ILShipsThatMeet$Shelf;)J"⟩ ⟨"ShipsThatMeet", "fillChances", "(ILShipsThatMeet$Shelf;)J"⟩ ∈ ah_tb := List.mem_filter.mpr ⟨List.mem_of_getElem? (i := 6) (by decide +kernel), by decide +kernel⟩
theorem q_7 : Cond.selects "ShipsThatMeet" ⟨"ShipsThatMeet", "spreadChances", "(II)J"⟩ ⟨"ShipsThatMeet", "spreadChances", "(II)J"⟩ ∈ ah_tb := List.mem_filter.mpr ⟨List.mem_of_getElem? (i := 7) (by decide +kernel), by decide +kernel⟩
theorem q_8 : Cond.selects "ShipsThatMeet" ⟨"ShipsThatMeet", "fewestMeetings", "(I)I"⟩ ⟨"ShipsThatMeet", "fewestMeetings", "(I)I"⟩ ∈ ah_tb := List.mem_filter.mpr ⟨List.mem_of_getElem? (i := 8) (by decide +kernel), by decide +kernel⟩
theorem q_9 : Cond.selects "ShipsThatMeet" ⟨"ShipsThatMeet", "tellsOfEachMan", "(LShipsThatMeet$Shelf;)Z"⟩ ⟨"ShipsThatMeet", "tellsOfEachMan", "(LShipsThatMeet$Shelf;)Z"⟩ ∈ ah_tb := List.mem_filter.mpr ⟨List.mem_of_getElem? (i := 9) (by decide +kernel), by decide +kernel⟩
theorem q_11 : Cond.selects "ShipsThatMeetModel" ⟨"ShipsThatMeetModel", "wrongRow", "(II)I"⟩ ⟨"ShipsThatMeetModel", "wrongRow", "(II)I"⟩ ∈ ah_tb := List.mem_filter.mpr ⟨List.mem_of_getElem? (i := 11) (by decide +kernel), by decide +kernel⟩
theorem q_12 : Cond.selects "ShipsThatMeetModel" ⟨"ShipsThatMeetModel", "readsStatement", "()Z"⟩ ⟨"ShipsThatMeetModel", "readsStatement", "()Z"⟩ ∈ ah_tb := List.mem_filter.mpr ⟨List.mem_of_getElem? (i := 12) (by decide +kernel), by decide +kernel⟩
theorem q_13 : Cond.selects "ShipsThatMeetModel" ⟨"ShipsThatMeetModel", "here", "()I"⟩ ⟨"ShipsThatMeetModel", "here", "()I"⟩ ∈ ah_tb := List.mem_filter.mpr ⟨List.mem_of_getElem? (i := 13) (by decide +kernel), by decide +kernel⟩
theorem q_14 : Cond.selects "ShipsThatMeetModel" ⟨"ShipsThatMeetModel", "readsDigits", "(I)Z"⟩ ⟨"ShipsThatMeetModel", "readsDigits", "(I)Z"⟩ ∈ ah_tb := List.mem_filter.mpr ⟨List.mem_of_getElem? (i := 14) (by decide +kernel), by decide +kernel⟩
theorem q_15 : Cond.selects "ShipsThatMeetModel" ⟨"ShipsThatMeetModel", "comes", "(I)Z"⟩ ⟨"ShipsThatMeetModel", "comes", "(I)Z"⟩ ∈ ah_tb := List.mem_filter.mpr ⟨List.mem_of_getElem? (i := 15) (by decide +kernel), by decide +kernel⟩
theorem q_16 : Cond.selects "ShipsThatMeetModel" ⟨"ShipsThatMeetModel", "isShip", "(I)Z"⟩ ⟨"ShipsThatMeetModel", "isShip", "(I)Z"⟩ ∈ ah_tb := List.mem_filter.mpr ⟨List.mem_of_getElem? (i := 16) (by decide +kernel), by decide +kernel⟩
theorem q_17 : Cond.selects "ShipsThatMeetModel" ⟨"ShipsThatMeetModel", "puts", "(III)V"⟩ ⟨"ShipsThatMeetModel", "puts", "(III)V"⟩ ∈ ah_tb := List.mem_filter.mpr ⟨List.mem_of_getElem? (i := 17) (by decide +kernel), by decide +kernel⟩
theorem q_18 : Cond.selects "ShipsThatMeetModel" ⟨"ShipsThatMeetModel", "sails", "(I)V"⟩ ⟨"ShipsThatMeetModel", "sails", "(I)V"⟩ ∈ ah_tb := List.mem_filter.mpr ⟨List.mem_of_getElem? (i := 18) (by decide +kernel), by decide +kernel⟩
theorem q_19 : Cond.selects "ShipsThatMeetModel" ⟨"ShipsThatMeetModel", "aboard", "(I)I"⟩ ⟨"ShipsThatMeetModel", "aboard", "(I)I"⟩ ∈ ah_tb := List.mem_filter.mpr ⟨List.mem_of_getElem? (i := 19) (by decide +kernel), by decide +kernel⟩
theorem q_20 : Cond.selects "ShipsThatMeetModel" ⟨"ShipsThatMeetModel", "get", "(II)I"⟩ ⟨"ShipsThatMeetModel", "get", "(II)I"⟩ ∈ ah_tb := List.mem_filter.mpr ⟨List.mem_of_getElem? (i := 20) (by decide +kernel), by decide +kernel⟩
theorem q_21 : Cond.selects "ShipsThatMeetModel" ⟨"ShipsThatMeetModel", "mayMeet", "(II)Z"⟩ ⟨"ShipsThatMeetModel", "mayMeet", "(II)Z"⟩ ∈ ah_tb := List.mem_filter.mpr ⟨List.mem_of_getElem? (i := 21) (by decide +kernel), by decide +kernel⟩
theorem q_22 : Cond.selects "ShipsThatMeetModel" ⟨"ShipsThatMeetModel", "meets", "(II)V"⟩ ⟨"ShipsThatMeetModel", "meets", "(II)V"⟩ ∈ ah_tb := List.mem_filter.mpr ⟨List.mem_of_getElem? (i := 22) (by decide +kernel), by decide +kernel⟩
theorem q_23 : Cond.selects "ShipsThatMeetModel" ⟨"ShipsThatMeetModel", "gives", "(I)I"⟩ ⟨"ShipsThatMeetModel", "gives", "(I)I"⟩ ∈ ah_tb := List.mem_filter.mpr ⟨List.mem_of_getElem? (i := 23) (by decide +kernel), by decide +kernel⟩
theorem q_24 : Cond.selects "ShipsThatMeetModel" ⟨"ShipsThatMeetModel", "figure", "(I)I"⟩ ⟨"ShipsThatMeetModel", "figure", "(I)I"⟩ ∈ ah_tb := List.mem_filter.mpr ⟨List.mem_of_getElem? (i := 24) (by decide +kernel), by decide +kernel⟩
theorem q_25 : Cond.selects "ShipsThatMeetModel" ⟨"ShipsThatMeetModel", "kind", "(I)I"⟩ ⟨"ShipsThatMeetModel", "kind", "(I)I"⟩ ∈ ah_tb := List.mem_filter.mpr ⟨List.mem_of_getElem? (i := 25) (by decide +kernel), by decide +kernel⟩
theorem q_26 : Cond.selects "ShipsThatMeetModel" ⟨"ShipsThatMeetModel", "bySince", "(IZ)I"⟩ ⟨"ShipsThatMeetModel", "bySince", "(IZ)I"⟩ ∈ ah_tb := List.mem_filter.mpr ⟨List.mem_of_getElem? (i := 26) (by decide +kernel), by decide +kernel⟩
theorem q_27 : Cond.selects "ShipsThatMeetModel" ⟨"ShipsThatMeetModel", "notOf", "(II)I"⟩ ⟨"ShipsThatMeetModel", "notOf", "(II)I"⟩ ∈ ah_tb := List.mem_filter.mpr ⟨List.mem_of_getElem? (i := 27) (by decide +kernel), by decide +kernel⟩
theorem q_28 : Cond.selects "ShipsThatMeetModel" ⟨"ShipsThatMeetModel", "bestOf", "(II)I"⟩ ⟨"ShipsThatMeetModel", "bestOf", "(II)I"⟩ ∈ ah_tb := List.mem_filter.mpr ⟨List.mem_of_getElem? (i := 28) (by decide +kernel), by decide +kernel⟩
theorem q_29 : Cond.selects "ShipsThatMeetModel" ⟨"ShipsThatMeetModel", "likeTongue", "(II)I"⟩ ⟨"ShipsThatMeetModel", "likeTongue", "(II)I"⟩ ∈ ah_tb := List.mem_filter.mpr ⟨List.mem_of_getElem? (i := 29) (by decide +kernel), by decide +kernel⟩
theorem q_30 : Cond.selects "ShipsThatMeetModel" ⟨"ShipsThatMeetModel", "isMan", "(I)Z"⟩ ⟨"ShipsThatMeetModel", "isMan", "(I)Z"⟩ ∈ ah_tb := List.mem_filter.mpr ⟨List.mem_of_getElem? (i := 30) (by decide +kernel), by decide +kernel⟩
theorem q_31 : Cond.selects "ShipsThatMeetModel" ⟨"ShipsThatMeetModel", "wrongKept", "(I)I"⟩ ⟨"ShipsThatMeetModel", "wrongKept", "(I)I"⟩ ∈ ah_tb := List.mem_filter.mpr ⟨List.mem_of_getElem? (i := 31) (by decide +kernel), by decide +kernel⟩
theorem q_32 : Cond.selects "ShipsThatMeetModel" ⟨"ShipsThatMeetModel", "wrongMeetings", "(I)I"⟩ ⟨"ShipsThatMeetModel", "wrongMeetings", "(I)I"⟩ ∈ ah_tb := List.mem_filter.mpr ⟨List.mem_of_getElem? (i := 32) (by decide +kernel), by decide +kernel⟩
theorem q_33 : Cond.selects "ShipsThatMeetModel" ⟨"ShipsThatMeetModel", "begins", "()V"⟩ ⟨"ShipsThatMeetModel", "begins", "()V"⟩ ∈ ah_tb := List.mem_filter.mpr ⟨List.mem_of_getElem? (i := 33) (by decide +kernel), by decide +kernel⟩
theorem q_34 : Cond.selects "ShipsThatMeetModel" ⟨"ShipsThatMeetModel", "meetings", "(I)I"⟩ ⟨"ShipsThatMeetModel", "meetings", "(I)I"⟩ ∈ ah_tb := List.mem_filter.mpr ⟨List.mem_of_getElem? (i := 34) (by decide +kernel), by decide +kernel⟩
theorem q_35 : Cond.selects "ShipsThatMeetModel" ⟨"ShipsThatMeetModel", "meetsTold", "(II)Z"⟩ ⟨"ShipsThatMeetModel", "meetsTold", "(II)Z"⟩ ∈ ah_tb := List.mem_filter.mpr ⟨List.mem_of_getElem? (i := 35) (by decide +kernel), by decide +kernel⟩
theorem q_36 : Cond.selects "ShipsThatMeetModel" ⟨"ShipsThatMeetModel", "first", "(II)I"⟩ ⟨"ShipsThatMeetModel", "first", "(II)I"⟩ ∈ ah_tb := List.mem_filter.mpr ⟨List.mem_of_getElem? (i := 36) (by decide +kernel), by decide +kernel⟩
theorem q_37 : Cond.selects "ShipsThatMeetModel" ⟨"ShipsThatMeetModel", "second", "(II)I"⟩ ⟨"ShipsThatMeetModel", "second", "(II)I"⟩ ∈ ah_tb := List.mem_filter.mpr ⟨List.mem_of_getElem? (i := 37) (by decide +kernel), by decide +kernel⟩
theorem q_38 : Cond.selects "ShipsThatMeetModel" ⟨"ShipsThatMeetModel", "ends", "()V"⟩ ⟨"ShipsThatMeetModel", "ends", "()V"⟩ ∈ ah_tb := List.mem_filter.mpr ⟨List.mem_of_getElem? (i := 38) (by decide +kernel), by decide +kernel⟩
theorem q_39 : Cond.selects "ShipsThatMeetModel" ⟨"ShipsThatMeetModel", "mayBe", "(III)I"⟩ ⟨"ShipsThatMeetModel", "mayBe", "(III)I"⟩ ∈ ah_tb := List.mem_filter.mpr ⟨List.mem_of_getElem? (i := 39) (by decide +kernel), by decide +kernel⟩
theorem q_40 : Cond.selects "ShipsThatMeetModel" ⟨"ShipsThatMeetModel", "fewestBy", "(I)I"⟩ ⟨"ShipsThatMeetModel", "fewestBy", "(I)I"⟩ ∈ ah_tb := List.mem_filter.mpr ⟨List.mem_of_getElem? (i := 40) (by decide +kernel), by decide +kernel⟩
theorem q_41 : Cond.selects "ShipsThatMeetModel" ⟨"ShipsThatMeetModel", "comesBy", "(II)Z"⟩ ⟨"ShipsThatMeetModel", "comesBy", "(II)Z"⟩ ∈ ah_tb := List.mem_filter.mpr ⟨List.mem_of_getElem? (i := 41) (by decide +kernel), by decide +kernel⟩
theorem q_42 : Cond.selects "ShipsThatMeetModel" ⟨"ShipsThatMeetModel", "isWanted", "()Z"⟩ ⟨"ShipsThatMeetModel", "isWanted", "()Z"⟩ ∈ ah_tb := List.mem_filter.mpr ⟨List.mem_of_getElem? (i := 42) (by decide +kernel), by decide +kernel⟩
theorem q_43 : Cond.selects "ShipsThatMeetModel" ⟨"ShipsThatMeetModel", "keeps", "(I)V"⟩ ⟨"ShipsThatMeetModel", "keeps", "(I)V"⟩ ∈ ah_tb := List.mem_filter.mpr ⟨List.mem_of_getElem? (i := 43) (by decide +kernel), by decide +kernel⟩
theorem q_44 : Cond.selects "ShipsThatMeetModel" ⟨"ShipsThatMeetModel", "back", "(I)V"⟩ ⟨"ShipsThatMeetModel", "back", "(I)V"⟩ ∈ ah_tb := List.mem_filter.mpr ⟨List.mem_of_getElem? (i := 44) (by decide +kernel), by decide +kernel⟩
theorem q_45 : Cond.selects "ShipsThatMeetModel" ⟨"ShipsThatMeetModel", "mixedNow", "()I"⟩ ⟨"ShipsThatMeetModel", "mixedNow", "()I"⟩ ∈ ah_tb := List.mem_filter.mpr ⟨List.mem_of_getElem? (i := 45) (by decide +kernel), by decide +kernel⟩
theorem q_46 : Cond.selects "ShipsThatMeetModel" ⟨"ShipsThatMeetModel", "spreads", "(I)I"⟩ ⟨"ShipsThatMeetModel", "spreads", "(I)I"⟩ ∈ ah_tb := List.mem_filter.mpr ⟨List.mem_of_getElem? (i := 46) (by decide +kernel), by decide +kernel⟩
theorem q_47 : Cond.selects "ShipsThatMeetModel" ⟨"ShipsThatMeetModel", "drawn", "(I)I"⟩ ⟨"ShipsThatMeetModel", "drawn", "(I)I"⟩ ∈ ah_tb := List.mem_filter.mpr ⟨List.mem_of_getElem? (i := 47) (by decide +kernel), by decide +kernel⟩
theorem q_48 : Cond.selects "ShipsThatMeetModel" ⟨"ShipsThatMeetModel", "wrongFour", "(II)I"⟩ ⟨"ShipsThatMeetModel", "wrongFour", "(II)I"⟩ ∈ ah_tb := List.mem_filter.mpr ⟨List.mem_of_getElem? (i := 48) (by decide +kernel), by decide +kernel⟩
theorem q_49 : Cond.initialized "ShipsThatMeetLaw" ∈ ah_tb := List.mem_filter.mpr ⟨List.mem_of_getElem? (i := 49) (by decide +kernel), by decide +kernel⟩
theorem q_50 : Cond.initialized "ShipsThatMeet" ∈ ah_tb := List.mem_filter.mpr ⟨List.mem_of_getElem? (i := 50) (by decide +kernel), by decide +kernel⟩
theorem q_51 : Cond.initialized "ShipsThatMeet$Fleet" ∈ ah_tb := List.mem_filter.mpr ⟨List.mem_of_getElem? (i := 51) (by decide +kernel), by decide +kernel⟩
theorem q_52 : Cond.initialized "ShipsThatMeet$Captain" ∈ ah_tb := List.mem_filter.mpr ⟨List.mem_of_getElem? (i := 52) (by decide +kernel), by decide +kernel⟩
theorem q_53 : Cond.initialized "ShipsThatMeet$Shelf" ∈ ah_tb := List.mem_filter.mpr ⟨List.mem_of_getElem? (i := 53) (by decide +kernel), by decide +kernel⟩
theorem q_54 : Cond.initialized "ShipsThatMeetModel" ∈ ah_tb := List.mem_filter.mpr ⟨List.mem_of_getElem? (i := 54) (by decide +kernel), by decide +kernel⟩
theorem q_55 : Cond.initialized "ShipsThatMeet$Lot" ∈ ah_tb := List.mem_filter.mpr ⟨List.mem_of_getElem? (i := 55) (by decide +kernel), by decide +kernel⟩
theorem q_56 : Cond.initialized "ShipsThatMeet$New" ∈ ah_tb := List.mem_filter.mpr ⟨List.mem_of_getElem? (i := 56) (by decide +kernel), by decide +kernel⟩
theorem q_57 : Cond.initialized "ShipsThatMeet$Old" ∈ ah_tb := List.mem_filter.mpr ⟨List.mem_of_getElem? (i := 57) (by decide +kernel), by decide +kernel⟩
theorem q_58 : Cond.initialized "ShipsThatMeet$Want" ∈ ah_tb := List.mem_filter.mpr ⟨List.mem_of_getElem? (i := 58) (by decide +kernel), by decide +kernel⟩
theorem q_59 : Cond.initialized "ShipsThatMeet$Best" ∈ ah_tb := List.mem_filter.mpr ⟨List.mem_of_getElem? (i := 59) (by decide +kernel), by decide +kernel⟩
theorem q_60 : Cond.initialized "ShipsThatMeet$Told" ∈ ah_tb := List.mem_filter.mpr ⟨List.mem_of_getElem? (i := 60) (by decide +kernel), by decide +kernel⟩
theorem q_61 : Cond.initialized "ShipsThatMeet$Keep" ∈ ah_tb := List.mem_filter.mpr ⟨List.mem_of_getElem? (i := 61) (by decide +kernel), by decide +kernel⟩
theorem q_62 : Cond.initialized "java/lang/Integer" ∈ ah_tb := List.mem_filter.mpr ⟨List.mem_of_getElem? (i := 62) (by decide +kernel), by decide +kernel⟩
theorem q_63 : Cond.initialized "java/lang/Math" ∈ ah_tb := List.mem_filter.mpr ⟨List.mem_of_getElem? (i := 63) (by decide +kernel), by decide +kernel⟩
theorem q_65 : Cond.initialized "java/lang/Exception" ∈ ah_tb := List.mem_filter.mpr ⟨List.mem_of_getElem? (i := 65) (by decide +kernel), by decide +kernel⟩
theorem q_66 : Cond.initialized "java/lang/RuntimeException" ∈ ah_tb := List.mem_filter.mpr ⟨List.mem_of_getElem? (i := 66) (by decide +kernel), by decide +kernel⟩
theorem q_67 : Cond.initialized "java/lang/IllegalArgumentException" ∈ ah_tb := List.mem_filter.mpr ⟨List.mem_of_getElem? (i := 67) (by decide +kernel), by decide +kernel⟩
theorem q_68 : Cond.initialized "java/lang/IllegalStateException" ∈ ah_tb := List.mem_filter.mpr ⟨List.mem_of_getElem? (i := 68) (by decide +kernel), by decide +kernel⟩
theorem q_69 : Cond.initialized "java/lang/System" ∈ ah_tb := List.mem_filter.mpr ⟨List.mem_of_getElem? (i := 69) (by decide +kernel), by decide +kernel⟩
theorem q_70 : Cond.classLink "ShipsThatMeetLaw" 8 "ShipsThatMeet" ∈ ah_tb := List.mem_filter.mpr ⟨List.mem_of_getElem? (i := 70) (by decide +kernel), by decide +kernel⟩
theorem q_71 : Cond.instantiable "ShipsThatMeet" 8 ∈ ah_tb := List.mem_filter.mpr ⟨List.mem_of_getElem? (i := 71) (by decide +kernel), by decide +kernel⟩
theorem q_72 : Cond.methodLink "ShipsThatMeetLaw" 17 ⟨"ShipsThatMeet", "<init>", "()V"⟩ ∈ ah_tb := List.mem_filter.mpr ⟨List.mem_of_getElem? (i := 72) (by decide +kernel), by decide +kernel⟩
theorem q_73 : Cond.instanceMethod ⟨"ShipsThatMeet", "<init>", "()V"⟩ ∈ ah_tb := List.mem_filter.mpr ⟨List.mem_of_getElem? (i := 73) (by decide +kernel), by decide +kernel⟩
theorem q_74 : Cond.code ⟨"ShipsThatMeet", "<init>", "()V"⟩ prog_1_method_1_code 2 none ∈ ah_tb := List.mem_filter.mpr ⟨List.mem_of_getElem? (i := 74) (by decide +kernel), by decide +kernel⟩
theorem q_75 : Cond.methodLink "ShipsThatMeet" 1 ⟨"java/lang/Object", "<init>", "()V"⟩ ∈ ah_tb := List.mem_filter.mpr ⟨List.mem_of_getElem? (i := 75) (by decide +kernel), by decide +kernel⟩
theorem q_76 : Cond.instanceMethod ⟨"java/lang/Object", "<init>", "()V"⟩ ∈ ah_tb := List.mem_filter.mpr ⟨List.mem_of_getElem? (i := 76) (by decide +kernel), by decide +kernel⟩
theorem q_77 : Cond.code ⟨"java/lang/Object", "<init>", "()V"⟩ object_method_1_code 1 none ∈ ah_tb := List.mem_filter.mpr ⟨List.mem_of_getElem? (i := 77) (by decide +kernel), by decide +kernel⟩
theorem q_78 : Cond.classLink "ShipsThatMeet" 7 "ShipsThatMeet$Fleet" ∈ ah_tb := List.mem_filter.mpr ⟨List.mem_of_getElem? (i := 78) (by decide +kernel), by decide +kernel⟩
theorem q_79 : Cond.instantiable "ShipsThatMeet$Fleet" 10 ∈ ah_tb := List.mem_filter.mpr ⟨List.mem_of_getElem? (i := 79) (by decide +kernel), by decide +kernel⟩
theorem q_80 : Cond.methodLink "ShipsThatMeet" 9 ⟨"ShipsThatMeet$Fleet", "<init>", "()V"⟩ ∈ ah_tb := List.mem_filter.mpr ⟨List.mem_of_getElem? (i := 80) (by decide +kernel), by decide +kernel⟩
theorem q_81 : Cond.instanceMethod ⟨"ShipsThatMeet$Fleet", "<init>", "()V"⟩ ∈ ah_tb := List.mem_filter.mpr ⟨List.mem_of_getElem? (i := 81) (by decide +kernel), by decide +kernel⟩
theorem q_82 : Cond.code ⟨"ShipsThatMeet$Fleet", "<init>", "()V"⟩ prog_4_method_1_code 3 none ∈ ah_tb := List.mem_filter.mpr ⟨List.mem_of_getElem? (i := 82) (by decide +kernel), by decide +kernel⟩
theorem q_83 : Cond.methodLink "ShipsThatMeet$Fleet" 3 ⟨"java/lang/Object", "<init>", "()V"⟩ ∈ ah_tb := List.mem_filter.mpr ⟨List.mem_of_getElem? (i := 83) (by decide +kernel), by decide +kernel⟩
theorem q_84 : Cond.classLink "ShipsThatMeet$Fleet" 9 "ShipsThatMeet$Captain" ∈ ah_tb := List.mem_filter.mpr ⟨List.mem_of_getElem? (i := 84) (by decide +kernel), by decide +kernel⟩
theorem q_85 : Cond.arrayOver (FieldType.object "ShipsThatMeet$Captain") ∈ lw_tbl := List.mem_of_getElem? (i := 85) (by decide +kernel)
theorem q_86 : Cond.instantiable "ShipsThatMeet$Captain" 2 ∈ ah_tb := List.mem_filter.mpr ⟨List.mem_of_getElem? (i := 86) (by decide +kernel), by decide +kernel⟩
theorem q_87 : Cond.methodLink "ShipsThatMeet$Fleet" 17 ⟨"ShipsThatMeet$Captain", "<init>", "(II)V"⟩ ∈ ah_tb := List.mem_filter.mpr ⟨List.mem_of_getElem? (i := 87) (by decide +kernel), by decide +kernel⟩
theorem q_88 : Cond.instanceMethod ⟨"ShipsThatMeet$Captain", "<init>", "(II)V"⟩ ∈ ah_tb := List.mem_filter.mpr ⟨List.mem_of_getElem? (i := 88) (by decide +kernel), by decide +kernel⟩
theorem q_89 : Cond.code ⟨"ShipsThatMeet$Captain", "<init>", "(II)V"⟩ prog_3_method_1_code 3 none ∈ ah_tb := List.mem_filter.mpr ⟨List.mem_of_getElem? (i := 89) (by decide +kernel), by decide +kernel⟩
theorem q_90 : Cond.methodLink "ShipsThatMeet$Captain" 3 ⟨"java/lang/Object", "<init>", "()V"⟩ ∈ ah_tb := List.mem_filter.mpr ⟨List.mem_of_getElem? (i := 90) (by decide +kernel), by decide +kernel⟩
theorem q_91 : Cond.fieldLink "ShipsThatMeet$Captain" 9 "ShipsThatMeet$Captain" "kind" "I" ∈ ah_tb := List.mem_filter.mpr ⟨List.mem_of_getElem? (i := 91) (by decide +kernel), by decide +kernel⟩
theorem q_92 : Cond.fieldLink "ShipsThatMeet" 80 "ShipsThatMeet$Captain" "kind" "I" ∈ ah_tb := List.mem_filter.mpr ⟨List.mem_of_getElem? (i := 92) (by decide +kernel), by decide +kernel⟩
theorem q_93 : Cond.fieldLink "ShipsThatMeet$Captain" 15 "ShipsThatMeet$Captain" "figure" "I" ∈ ah_tb := List.mem_filter.mpr ⟨List.mem_of_getElem? (i := 93) (by decide +kernel), by decide +kernel⟩
theorem q_94 : Cond.fieldLink "ShipsThatMeet$Told" 7 "ShipsThatMeet$Told" "figure" "I" ∈ ah_tb := List.mem_filter.mpr ⟨List.mem_of_getElem? (i := 94) (by decide +kernel), by decide +kernel⟩
theorem q_95 : Cond.sameField "ShipsThatMeet$Told" "ShipsThatMeet$Captain" "figure" "I" ∈ ah_tb := List.mem_filter.mpr ⟨List.mem_of_getElem? (i := 95) (by decide +kernel), by decide +kernel⟩
theorem q_96 : Cond.fieldLink "ShipsThatMeet$Keep" 7 "ShipsThatMeet$Keep" "figure" "I" ∈ ah_tb := List.mem_filter.mpr ⟨List.mem_of_getElem? (i := 96) (by decide +kernel), by decide +kernel⟩
theorem q_97 : Cond.sameField "ShipsThatMeet$Keep" "ShipsThatMeet$Captain" "figure" "I" ∈ ah_tb := List.mem_filter.mpr ⟨List.mem_of_getElem? (i := 97) (by decide +kernel), by decide +kernel⟩
theorem q_98 : Cond.fieldLink "ShipsThatMeet$Lot" 15 "ShipsThatMeet$Lot" "figure" "I" ∈ ah_tb := List.mem_filter.mpr ⟨List.mem_of_getElem? (i := 98) (by decide +kernel), by decide +kernel⟩
theorem q_99 : Cond.sameField "ShipsThatMeet$Lot" "ShipsThatMeet$Captain" "figure" "I" ∈ ah_tb := List.mem_filter.mpr ⟨List.mem_of_getElem? (i := 99) (by decide +kernel), by decide +kernel⟩
theorem q_100 : Cond.fieldLink "ShipsThatMeet$Want" 19 "ShipsThatMeet$Want" "figure" "I" ∈ ah_tb := List.mem_filter.mpr ⟨List.mem_of_getElem? (i := 100) (by decide +kernel), by decide +kernel⟩
theorem q_101 : Cond.sameField "ShipsThatMeet$Want" "ShipsThatMeet$Captain" "figure" "I" ∈ ah_tb := List.mem_filter.mpr ⟨List.mem_of_getElem? (i := 101) (by decide +kernel), by decide +kernel⟩
theorem q_102 : Cond.fieldLink "ShipsThatMeet" 85 "ShipsThatMeet$Captain" "figure" "I" ∈ ah_tb := List.mem_filter.mpr ⟨List.mem_of_getElem? (i := 102) (by decide +kernel), by decide +kernel⟩
theorem q_103 : Cond.laysFinal "ShipsThatMeet$Captain" "ShipsThatMeet$Captain" "kind" "I" ∈ ah_tb := List.mem_filter.mpr ⟨List.mem_of_getElem? (i := 103) (by decide +kernel), by decide +kernel⟩
theorem q_105 : Cond.laysFinal "ShipsThatMeet$Captain" "ShipsThatMeet$Captain" "figure" "I" ∈ ah_tb := List.mem_filter.mpr ⟨List.mem_of_getElem? (i := 105) (by decide +kernel), by decide +kernel⟩
theorem q_107 : Cond.superclass "ShipsThatMeet$Captain" "java/lang/Object" ∈ ah_tb := List.mem_filter.mpr ⟨List.mem_of_getElem? (i := 107) (by decide +kernel), by decide +kernel⟩
theorem q_108 : Cond.fieldLink "ShipsThatMeet$Fleet" 39 "ShipsThatMeet$Fleet" "ships" "I" ∈ ah_tb := List.mem_filter.mpr ⟨List.mem_of_getElem? (i := 108) (by decide +kernel), by decide +kernel⟩
theorem q_109 : Cond.fieldLink "ShipsThatMeet" 188 "ShipsThatMeet$Fleet" "ships" "I" ∈ ah_tb := List.mem_filter.mpr ⟨List.mem_of_getElem? (i := 109) (by decide +kernel), by decide +kernel⟩
theorem q_110 : Cond.fieldLink "ShipsThatMeet$Fleet" 43 "ShipsThatMeet$Fleet" "men" "I" ∈ ah_tb := List.mem_filter.mpr ⟨List.mem_of_getElem? (i := 110) (by decide +kernel), by decide +kernel⟩
theorem q_111 : Cond.fieldLink "ShipsThatMeet" 182 "ShipsThatMeet$Fleet" "men" "I" ∈ ah_tb := List.mem_filter.mpr ⟨List.mem_of_getElem? (i := 111) (by decide +kernel), by decide +kernel⟩
theorem q_112 : Cond.fieldLink "ShipsThatMeet$Fleet" 46 "ShipsThatMeet$Fleet" "meetings" "I" ∈ ah_tb := List.mem_filter.mpr ⟨List.mem_of_getElem? (i := 112) (by decide +kernel), by decide +kernel⟩
theorem q_113 : Cond.fieldLink "ShipsThatMeet" 230 "ShipsThatMeet$Fleet" "meetings" "I" ∈ ah_tb := List.mem_filter.mpr ⟨List.mem_of_getElem? (i := 113) (by decide +kernel), by decide +kernel⟩
theorem q_114 : Cond.fieldLink "ShipsThatMeet$Fleet" 11 "ShipsThatMeet$Fleet" "captains" "[LShipsThatMeet$Captain;" ∈ ah_tb := List.mem_filter.mpr ⟨List.mem_of_getElem? (i := 114) (by decide +kernel), by decide +kernel⟩
theorem q_115 : Cond.fieldLink "ShipsThatMeet" 76 "ShipsThatMeet$Fleet" "captains" "[LShipsThatMeet$Captain;" ∈ ah_tb := List.mem_filter.mpr ⟨List.mem_of_getElem? (i := 115) (by decide +kernel), by decide +kernel⟩
theorem q_116 : Cond.fieldLink "ShipsThatMeet$Fleet" 20 "ShipsThatMeet$Fleet" "crews" "[I" ∈ ah_tb := List.mem_filter.mpr ⟨List.mem_of_getElem? (i := 116) (by decide +kernel), by decide +kernel⟩
theorem q_117 : Cond.fieldLink "ShipsThatMeet" 88 "ShipsThatMeet$Fleet" "crews" "[I" ∈ ah_tb := List.mem_filter.mpr ⟨List.mem_of_getElem? (i := 117) (by decide +kernel), by decide +kernel⟩
theorem q_118 : Cond.fieldLink "ShipsThatMeet$Fleet" 24 "ShipsThatMeet$Fleet" "aboard" "[I" ∈ ah_tb := List.mem_filter.mpr ⟨List.mem_of_getElem? (i := 118) (by decide +kernel), by decide +kernel⟩
theorem q_119 : Cond.fieldLink "ShipsThatMeet" 102 "ShipsThatMeet$Fleet" "aboard" "[I" ∈ ah_tb := List.mem_filter.mpr ⟨List.mem_of_getElem? (i := 119) (by decide +kernel), by decide +kernel⟩
theorem q_120 : Cond.fieldLink "ShipsThatMeet$Fleet" 27 "ShipsThatMeet$Fleet" "trades" "[I" ∈ ah_tb := List.mem_filter.mpr ⟨List.mem_of_getElem? (i := 120) (by decide +kernel), by decide +kernel⟩
theorem q_121 : Cond.fieldLink "ShipsThatMeet$Want" 13 "ShipsThatMeet$Fleet" "trades" "[I" ∈ ah_tb := List.mem_filter.mpr ⟨List.mem_of_getElem? (i := 121) (by decide +kernel), by decide +kernel⟩
theorem q_122 : Cond.fieldLink "ShipsThatMeet" 105 "ShipsThatMeet$Fleet" "trades" "[I" ∈ ah_tb := List.mem_filter.mpr ⟨List.mem_of_getElem? (i := 122) (by decide +kernel), by decide +kernel⟩
theorem q_123 : Cond.fieldLink "ShipsThatMeet$Fleet" 30 "ShipsThatMeet$Fleet" "tongues" "[I" ∈ ah_tb := List.mem_filter.mpr ⟨List.mem_of_getElem? (i := 123) (by decide +kernel), by decide +kernel⟩
theorem q_124 : Cond.fieldLink "ShipsThatMeet$Best" 19 "ShipsThatMeet$Fleet" "tongues" "[I" ∈ ah_tb := List.mem_filter.mpr ⟨List.mem_of_getElem? (i := 124) (by decide +kernel), by decide +kernel⟩
theorem q_125 : Cond.fieldLink "ShipsThatMeet" 108 "ShipsThatMeet$Fleet" "tongues" "[I" ∈ ah_tb := List.mem_filter.mpr ⟨List.mem_of_getElem? (i := 125) (by decide +kernel), by decide +kernel⟩
theorem q_126 : Cond.fieldLink "ShipsThatMeet$Fleet" 33 "ShipsThatMeet$Fleet" "since" "[I" ∈ ah_tb := List.mem_filter.mpr ⟨List.mem_of_getElem? (i := 126) (by decide +kernel), by decide +kernel⟩
theorem q_127 : Cond.fieldLink "ShipsThatMeet$Old" 13 "ShipsThatMeet$Fleet" "since" "[I" ∈ ah_tb := List.mem_filter.mpr ⟨List.mem_of_getElem? (i := 127) (by decide +kernel), by decide +kernel⟩
theorem q_128 : Cond.fieldLink "ShipsThatMeet$New" 13 "ShipsThatMeet$Fleet" "since" "[I" ∈ ah_tb := List.mem_filter.mpr ⟨List.mem_of_getElem? (i := 128) (by decide +kernel), by decide +kernel⟩
theorem q_129 : Cond.fieldLink "ShipsThatMeet" 111 "ShipsThatMeet$Fleet" "since" "[I" ∈ ah_tb := List.mem_filter.mpr ⟨List.mem_of_getElem? (i := 129) (by decide +kernel), by decide +kernel⟩
theorem q_130 : Cond.fieldLink "ShipsThatMeet$Fleet" 36 "ShipsThatMeet$Fleet" "companions" "[I" ∈ ah_tb := List.mem_filter.mpr ⟨List.mem_of_getElem? (i := 130) (by decide +kernel), by decide +kernel⟩
theorem q_131 : Cond.fieldLink "ShipsThatMeet" 179 "ShipsThatMeet$Fleet" "companions" "[I" ∈ ah_tb := List.mem_filter.mpr ⟨List.mem_of_getElem? (i := 131) (by decide +kernel), by decide +kernel⟩
theorem q_132 : Cond.lays "ShipsThatMeet$Fleet" "ShipsThatMeet$Fleet" "ships" "I" ∈ ah_tb := List.mem_filter.mpr ⟨List.mem_of_getElem? (i := 132) (by decide +kernel), by decide +kernel⟩
theorem q_134 : Cond.lays "ShipsThatMeet$Fleet" "ShipsThatMeet$Fleet" "men" "I" ∈ ah_tb := List.mem_filter.mpr ⟨List.mem_of_getElem? (i := 134) (by decide +kernel), by decide +kernel⟩
theorem q_136 : Cond.lays "ShipsThatMeet$Fleet" "ShipsThatMeet$Fleet" "meetings" "I" ∈ ah_tb := List.mem_filter.mpr ⟨List.mem_of_getElem? (i := 136) (by decide +kernel), by decide +kernel⟩
theorem q_138 : Cond.laysFinal "ShipsThatMeet$Fleet" "ShipsThatMeet$Fleet" "captains" "[LShipsThatMeet$Captain;" ∈ ah_tb := List.mem_filter.mpr ⟨List.mem_of_getElem? (i := 138) (by decide +kernel), by decide +kernel⟩
theorem q_140 : Cond.laysFinal "ShipsThatMeet$Fleet" "ShipsThatMeet$Fleet" "crews" "[I" ∈ ah_tb := List.mem_filter.mpr ⟨List.mem_of_getElem? (i := 140) (by decide +kernel), by decide +kernel⟩
theorem q_142 : Cond.laysFinal "ShipsThatMeet$Fleet" "ShipsThatMeet$Fleet" "aboard" "[I" ∈ ah_tb := List.mem_filter.mpr ⟨List.mem_of_getElem? (i := 142) (by decide +kernel), by decide +kernel⟩
theorem q_144 : Cond.laysFinal "ShipsThatMeet$Fleet" "ShipsThatMeet$Fleet" "trades" "[I" ∈ ah_tb := List.mem_filter.mpr ⟨List.mem_of_getElem? (i := 144) (by decide +kernel), by decide +kernel⟩
theorem q_146 : Cond.laysFinal "ShipsThatMeet$Fleet" "ShipsThatMeet$Fleet" "tongues" "[I" ∈ ah_tb := List.mem_filter.mpr ⟨List.mem_of_getElem? (i := 146) (by decide +kernel), by decide +kernel⟩
theorem q_148 : Cond.laysFinal "ShipsThatMeet$Fleet" "ShipsThatMeet$Fleet" "since" "[I" ∈ ah_tb := List.mem_filter.mpr ⟨List.mem_of_getElem? (i := 148) (by decide +kernel), by decide +kernel⟩
theorem q_150 : Cond.laysFinal "ShipsThatMeet$Fleet" "ShipsThatMeet$Fleet" "companions" "[I" ∈ ah_tb := List.mem_filter.mpr ⟨List.mem_of_getElem? (i := 150) (by decide +kernel), by decide +kernel⟩
theorem q_152 : Cond.superclass "ShipsThatMeet$Fleet" "java/lang/Object" ∈ ah_tb := List.mem_filter.mpr ⟨List.mem_of_getElem? (i := 152) (by decide +kernel), by decide +kernel⟩
theorem q_153 : Cond.arrayClass FieldType.int ∈ ah_tb := List.mem_filter.mpr ⟨List.mem_of_getElem? (i := 153) (by decide +kernel), by decide +kernel⟩
theorem q_154 : Cond.classLink "ShipsThatMeet" 26 "ShipsThatMeet$Shelf" ∈ ah_tb := List.mem_filter.mpr ⟨List.mem_of_getElem? (i := 154) (by decide +kernel), by decide +kernel⟩
theorem q_155 : Cond.arrayOver (FieldType.object "ShipsThatMeet$Shelf") ∈ lw_tbl := List.mem_of_getElem? (i := 155) (by decide +kernel)
theorem q_156 : Cond.instantiable "ShipsThatMeet$Shelf" 4 ∈ ah_tb := List.mem_filter.mpr ⟨List.mem_of_getElem? (i := 156) (by decide +kernel), by decide +kernel⟩
theorem q_157 : Cond.methodLink "ShipsThatMeet" 32 ⟨"ShipsThatMeet$Shelf", "<init>", "()V"⟩ ∈ ah_tb := List.mem_filter.mpr ⟨List.mem_of_getElem? (i := 157) (by decide +kernel), by decide +kernel⟩
theorem q_158 : Cond.instanceMethod ⟨"ShipsThatMeet$Shelf", "<init>", "()V"⟩ ∈ ah_tb := List.mem_filter.mpr ⟨List.mem_of_getElem? (i := 158) (by decide +kernel), by decide +kernel⟩
theorem q_159 : Cond.code ⟨"ShipsThatMeet$Shelf", "<init>", "()V"⟩ prog_9_method_1_code 1 none ∈ ah_tb := List.mem_filter.mpr ⟨List.mem_of_getElem? (i := 159) (by decide +kernel), by decide +kernel⟩
theorem q_160 : Cond.methodLink "ShipsThatMeet$Shelf" 3 ⟨"java/lang/Object", "<init>", "()V"⟩ ∈ ah_tb := List.mem_filter.mpr ⟨List.mem_of_getElem? (i := 160) (by decide +kernel), by decide +kernel⟩
theorem q_161 : Cond.fieldLink "ShipsThatMeet$Shelf" 9 "ShipsThatMeet$Shelf" "captain" "LShipsThatMeet$Captain;" ∈ ah_tb := List.mem_filter.mpr ⟨List.mem_of_getElem? (i := 161) (by decide +kernel), by decide +kernel⟩
theorem q_162 : Cond.fieldLink "ShipsThatMeet" 117 "ShipsThatMeet$Shelf" "captain" "LShipsThatMeet$Captain;" ∈ ah_tb := List.mem_filter.mpr ⟨List.mem_of_getElem? (i := 162) (by decide +kernel), by decide +kernel⟩
theorem q_163 : Cond.fieldLink "ShipsThatMeet$Shelf" 15 "ShipsThatMeet$Shelf" "sort" "I" ∈ ah_tb := List.mem_filter.mpr ⟨List.mem_of_getElem? (i := 163) (by decide +kernel), by decide +kernel⟩
theorem q_164 : Cond.fieldLink "ShipsThatMeet" 275 "ShipsThatMeet$Shelf" "sort" "I" ∈ ah_tb := List.mem_filter.mpr ⟨List.mem_of_getElem? (i := 164) (by decide +kernel), by decide +kernel⟩
theorem q_165 : Cond.fieldLink "ShipsThatMeet$Shelf" 19 "ShipsThatMeet$Shelf" "size" "I" ∈ ah_tb := List.mem_filter.mpr ⟨List.mem_of_getElem? (i := 165) (by decide +kernel), by decide +kernel⟩
theorem q_166 : Cond.fieldLink "ShipsThatMeet" 58 "ShipsThatMeet$Shelf" "size" "I" ∈ ah_tb := List.mem_filter.mpr ⟨List.mem_of_getElem? (i := 166) (by decide +kernel), by decide +kernel⟩
theorem q_167 : Cond.fieldLink "ShipsThatMeet$Shelf" 22 "ShipsThatMeet$Shelf" "elements" "[I" ∈ ah_tb := List.mem_filter.mpr ⟨List.mem_of_getElem? (i := 167) (by decide +kernel), by decide +kernel⟩
theorem q_168 : Cond.fieldLink "ShipsThatMeet" 281 "ShipsThatMeet$Shelf" "elements" "[I" ∈ ah_tb := List.mem_filter.mpr ⟨List.mem_of_getElem? (i := 168) (by decide +kernel), by decide +kernel⟩
theorem q_169 : Cond.lays "ShipsThatMeet$Shelf" "ShipsThatMeet$Shelf" "captain" "LShipsThatMeet$Captain;" ∈ ah_tb := List.mem_filter.mpr ⟨List.mem_of_getElem? (i := 169) (by decide +kernel), by decide +kernel⟩
theorem q_171 : Cond.lays "ShipsThatMeet$Shelf" "ShipsThatMeet$Shelf" "sort" "I" ∈ ah_tb := List.mem_filter.mpr ⟨List.mem_of_getElem? (i := 171) (by decide +kernel), by decide +kernel⟩
theorem q_173 : Cond.lays "ShipsThatMeet$Shelf" "ShipsThatMeet$Shelf" "size" "I" ∈ ah_tb := List.mem_filter.mpr ⟨List.mem_of_getElem? (i := 173) (by decide +kernel), by decide +kernel⟩
theorem q_175 : Cond.laysFinal "ShipsThatMeet$Shelf" "ShipsThatMeet$Shelf" "elements" "[I" ∈ ah_tb := List.mem_filter.mpr ⟨List.mem_of_getElem? (i := 175) (by decide +kernel), by decide +kernel⟩
theorem q_177 : Cond.superclass "ShipsThatMeet$Shelf" "java/lang/Object" ∈ ah_tb := List.mem_filter.mpr ⟨List.mem_of_getElem? (i := 177) (by decide +kernel), by decide +kernel⟩
theorem q_178 : Cond.classLink "ShipsThatMeet" 33 "[[I" ∈ ah_tb := List.mem_filter.mpr ⟨List.mem_of_getElem? (i := 178) (by decide +kernel), by decide +kernel⟩
theorem q_179 : Cond.arrayOver (FieldType.array FieldType.int) ∈ lw_tbl := List.mem_of_getElem? (i := 179) (by decide +kernel)
theorem q_180 : Cond.fieldLink "ShipsThatMeet" 10 "ShipsThatMeet" "real" "LShipsThatMeet$Fleet;" ∈ ah_tb := List.mem_filter.mpr ⟨List.mem_of_getElem? (i := 180) (by decide +kernel), by decide +kernel⟩
theorem q_181 : Cond.fieldLink "ShipsThatMeet" 16 "ShipsThatMeet" "mind" "LShipsThatMeet$Fleet;" ∈ ah_tb := List.mem_filter.mpr ⟨List.mem_of_getElem? (i := 181) (by decide +kernel), by decide +kernel⟩
theorem q_182 : Cond.fieldLink "ShipsThatMeet" 19 "ShipsThatMeet" "imageFleet" "LShipsThatMeet$Fleet;" ∈ ah_tb := List.mem_filter.mpr ⟨List.mem_of_getElem? (i := 182) (by decide +kernel), by decide +kernel⟩
theorem q_183 : Cond.fieldLink "ShipsThatMeet" 22 "ShipsThatMeet" "imageTaken" "Z" ∈ ah_tb := List.mem_filter.mpr ⟨List.mem_of_getElem? (i := 183) (by decide +kernel), by decide +kernel⟩
theorem q_184 : Cond.fieldLink "ShipsThatMeet" 28 "ShipsThatMeet" "shelves" "[LShipsThatMeet$Shelf;" ∈ ah_tb := List.mem_filter.mpr ⟨List.mem_of_getElem? (i := 184) (by decide +kernel), by decide +kernel⟩
theorem q_185 : Cond.fieldLink "ShipsThatMeet" 35 "ShipsThatMeet" "giversByDepth" "[[I" ∈ ah_tb := List.mem_filter.mpr ⟨List.mem_of_getElem? (i := 185) (by decide +kernel), by decide +kernel⟩
theorem q_186 : Cond.fieldLink "ShipsThatMeet" 38 "ShipsThatMeet" "wanted" "[I" ∈ ah_tb := List.mem_filter.mpr ⟨List.mem_of_getElem? (i := 186) (by decide +kernel), by decide +kernel⟩
theorem q_187 : Cond.fieldLink "ShipsThatMeet" 42 "ShipsThatMeet" "chances" "[J" ∈ ah_tb := List.mem_filter.mpr ⟨List.mem_of_getElem? (i := 187) (by decide +kernel), by decide +kernel⟩
theorem q_188 : Cond.laysFinal "ShipsThatMeet" "ShipsThatMeet" "real" "LShipsThatMeet$Fleet;" ∈ ah_tb := List.mem_filter.mpr ⟨List.mem_of_getElem? (i := 188) (by decide +kernel), by decide +kernel⟩
theorem q_190 : Cond.laysFinal "ShipsThatMeet" "ShipsThatMeet" "mind" "LShipsThatMeet$Fleet;" ∈ ah_tb := List.mem_filter.mpr ⟨List.mem_of_getElem? (i := 190) (by decide +kernel), by decide +kernel⟩
theorem q_192 : Cond.laysFinal "ShipsThatMeet" "ShipsThatMeet" "imageFleet" "LShipsThatMeet$Fleet;" ∈ ah_tb := List.mem_filter.mpr ⟨List.mem_of_getElem? (i := 192) (by decide +kernel), by decide +kernel⟩
theorem q_194 : Cond.lays "ShipsThatMeet" "ShipsThatMeet" "imageTaken" "Z" ∈ ah_tb := List.mem_filter.mpr ⟨List.mem_of_getElem? (i := 194) (by decide +kernel), by decide +kernel⟩
theorem q_196 : Cond.laysFinal "ShipsThatMeet" "ShipsThatMeet" "shelves" "[LShipsThatMeet$Shelf;" ∈ ah_tb := List.mem_filter.mpr ⟨List.mem_of_getElem? (i := 196) (by decide +kernel), by decide +kernel⟩
theorem q_198 : Cond.laysFinal "ShipsThatMeet" "ShipsThatMeet" "giversByDepth" "[[I" ∈ ah_tb := List.mem_filter.mpr ⟨List.mem_of_getElem? (i := 198) (by decide +kernel), by decide +kernel⟩
theorem q_200 : Cond.laysFinal "ShipsThatMeet" "ShipsThatMeet" "wanted" "[I" ∈ ah_tb := List.mem_filter.mpr ⟨List.mem_of_getElem? (i := 200) (by decide +kernel), by decide +kernel⟩
theorem q_202 : Cond.laysFinal "ShipsThatMeet" "ShipsThatMeet" "chances" "[J" ∈ ah_tb := List.mem_filter.mpr ⟨List.mem_of_getElem? (i := 202) (by decide +kernel), by decide +kernel⟩
theorem q_204 : Cond.superclass "ShipsThatMeet" "java/lang/Object" ∈ ah_tb := List.mem_filter.mpr ⟨List.mem_of_getElem? (i := 204) (by decide +kernel), by decide +kernel⟩
theorem q_205 : Cond.arrayClass FieldType.long ∈ ah_tb := List.mem_filter.mpr ⟨List.mem_of_getElem? (i := 205) (by decide +kernel), by decide +kernel⟩
theorem q_206 : Cond.methodLink "ShipsThatMeetLaw" 21 ⟨"ShipsThatMeet", "fleet", "(I)I"⟩ ∈ ah_tb := List.mem_filter.mpr ⟨List.mem_of_getElem? (i := 206) (by decide +kernel), by decide +kernel⟩
theorem q_207 : Cond.instanceMethod ⟨"ShipsThatMeet", "fleet", "(I)I"⟩ ∈ ah_tb := List.mem_filter.mpr ⟨List.mem_of_getElem? (i := 207) (by decide +kernel), by decide +kernel⟩
theorem q_208 : Cond.selects "ShipsThatMeet" ⟨"ShipsThatMeet", "fleet", "(I)I"⟩ ⟨"ShipsThatMeet", "fleet", "(I)I"⟩ ∈ ah_tb := List.mem_filter.mpr ⟨List.mem_of_getElem? (i := 208) (by decide +kernel), by decide +kernel⟩
theorem q_209 : Cond.code ⟨"ShipsThatMeet", "fleet", "(I)I"⟩ prog_1_method_2_code 7 (Option.some FieldType.int) ∈ ah_tb := List.mem_filter.mpr ⟨List.mem_of_getElem? (i := 209) (by decide +kernel), by decide +kernel⟩
theorem q_210 : Cond.methodLink "ShipsThatMeet" 46 ⟨"ShipsThatMeet", "refusalOfBytes", "(I)I"⟩ ∈ ah_tb := List.mem_filter.mpr ⟨List.mem_of_getElem? (i := 210) (by decide +kernel), by decide +kernel⟩
theorem q_212 : Cond.instanceMethod ⟨"ShipsThatMeet", "refusalOfBytes", "(I)I"⟩ ∈ ah_tb := List.mem_filter.mpr ⟨List.mem_of_getElem? (i := 212) (by decide +kernel), by decide +kernel⟩
theorem q_213 : Cond.code ⟨"ShipsThatMeet", "refusalOfBytes", "(I)I"⟩ prog_1_method_38_code 3 (Option.some FieldType.int) ∈ ah_tb := List.mem_filter.mpr ⟨List.mem_of_getElem? (i := 213) (by decide +kernel), by decide +kernel⟩
theorem q_214 : Cond.methodLink "ShipsThatMeet" 223 ⟨"ShipsThatMeet", "refusalOfRow", "(I)I"⟩ ∈ ah_tb := List.mem_filter.mpr ⟨List.mem_of_getElem? (i := 214) (by decide +kernel), by decide +kernel⟩
theorem q_216 : Cond.instanceMethod ⟨"ShipsThatMeet", "refusalOfRow", "(I)I"⟩ ∈ ah_tb := List.mem_filter.mpr ⟨List.mem_of_getElem? (i := 216) (by decide +kernel), by decide +kernel⟩
theorem q_217 : Cond.code ⟨"ShipsThatMeet", "refusalOfRow", "(I)I"⟩ prog_1_method_37_code 2 (Option.some FieldType.int) ∈ ah_tb := List.mem_filter.mpr ⟨List.mem_of_getElem? (i := 217) (by decide +kernel), by decide +kernel⟩
theorem q_218 : Cond.methodLink "ShipsThatMeet" 211 ⟨"ShipsThatMeet", "isShelf", "(I)Z"⟩ ∈ ah_tb := List.mem_filter.mpr ⟨List.mem_of_getElem? (i := 218) (by decide +kernel), by decide +kernel⟩
theorem q_219 : Cond.static ⟨"ShipsThatMeet", "isShelf", "(I)Z"⟩ ∈ ah_tb := List.mem_filter.mpr ⟨List.mem_of_getElem? (i := 219) (by decide +kernel), by decide +kernel⟩
theorem q_220 : Cond.code ⟨"ShipsThatMeet", "isShelf", "(I)Z"⟩ prog_1_method_34_code 1 (Option.some FieldType.boolean) ∈ ah_tb := List.mem_filter.mpr ⟨List.mem_of_getElem? (i := 220) (by decide +kernel), by decide +kernel⟩
theorem q_221 : Cond.methodLink "ShipsThatMeet" 272 ⟨"ShipsThatMeet$Shelf", "holdsNothing", "()Z"⟩ ∈ ah_tb := List.mem_filter.mpr ⟨List.mem_of_getElem? (i := 221) (by decide +kernel), by decide +kernel⟩
theorem q_222 : Cond.instanceMethod ⟨"ShipsThatMeet$Shelf", "holdsNothing", "()Z"⟩ ∈ ah_tb := List.mem_filter.mpr ⟨List.mem_of_getElem? (i := 222) (by decide +kernel), by decide +kernel⟩
theorem q_223 : Cond.selects "ShipsThatMeet$Shelf" ⟨"ShipsThatMeet$Shelf", "holdsNothing", "()Z"⟩ ⟨"ShipsThatMeet$Shelf", "holdsNothing", "()Z"⟩ ∈ ah_tb := List.mem_filter.mpr ⟨List.mem_of_getElem? (i := 223) (by decide +kernel), by decide +kernel⟩
theorem q_224 : Cond.code ⟨"ShipsThatMeet$Shelf", "holdsNothing", "()Z"⟩ prog_9_method_2_code 1 (Option.some FieldType.boolean) ∈ ah_tb := List.mem_filter.mpr ⟨List.mem_of_getElem? (i := 224) (by decide +kernel), by decide +kernel⟩
theorem q_225 : Cond.methodLink "ShipsThatMeet" 261 ⟨"ShipsThatMeet$Shelf", "holdsRow", "()Z"⟩ ∈ ah_tb := List.mem_filter.mpr ⟨List.mem_of_getElem? (i := 225) (by decide +kernel), by decide +kernel⟩
theorem q_226 : Cond.instanceMethod ⟨"ShipsThatMeet$Shelf", "holdsRow", "()Z"⟩ ∈ ah_tb := List.mem_filter.mpr ⟨List.mem_of_getElem? (i := 226) (by decide +kernel), by decide +kernel⟩
theorem q_227 : Cond.selects "ShipsThatMeet$Shelf" ⟨"ShipsThatMeet$Shelf", "holdsRow", "()Z"⟩ ⟨"ShipsThatMeet$Shelf", "holdsRow", "()Z"⟩ ∈ ah_tb := List.mem_filter.mpr ⟨List.mem_of_getElem? (i := 227) (by decide +kernel), by decide +kernel⟩
theorem q_228 : Cond.code ⟨"ShipsThatMeet$Shelf", "holdsRow", "()Z"⟩ prog_9_method_3_code 1 (Option.some FieldType.boolean) ∈ ah_tb := List.mem_filter.mpr ⟨List.mem_of_getElem? (i := 228) (by decide +kernel), by decide +kernel⟩
theorem q_229 : Cond.methodLink "ShipsThatMeet" 50 ⟨"ShipsThatMeet", "faultOfForm", "(LShipsThatMeet$Shelf;)I"⟩ ∈ ah_tb := List.mem_filter.mpr ⟨List.mem_of_getElem? (i := 229) (by decide +kernel), by decide +kernel⟩
theorem q_230 : Cond.static ⟨"ShipsThatMeet", "faultOfForm", "(LShipsThatMeet$Shelf;)I"⟩ ∈ ah_tb := List.mem_filter.mpr ⟨List.mem_of_getElem? (i := 230) (by decide +kernel), by decide +kernel⟩
theorem q_231 : Cond.code ⟨"ShipsThatMeet", "faultOfForm", "(LShipsThatMeet$Shelf;)I"⟩ prog_1_method_43_code 5 (Option.some FieldType.int) ∈ ah_tb := List.mem_filter.mpr ⟨List.mem_of_getElem? (i := 231) (by decide +kernel), by decide +kernel⟩
theorem q_232 : Cond.methodLink "ShipsThatMeet" 66 ⟨"ShipsThatMeet$Shelf", "at", "(I)I"⟩ ∈ ah_tb := List.mem_filter.mpr ⟨List.mem_of_getElem? (i := 232) (by decide +kernel), by decide +kernel⟩
theorem q_233 : Cond.instanceMethod ⟨"ShipsThatMeet$Shelf", "at", "(I)I"⟩ ∈ ah_tb := List.mem_filter.mpr ⟨List.mem_of_getElem? (i := 233) (by decide +kernel), by decide +kernel⟩
theorem q_234 : Cond.selects "ShipsThatMeet$Shelf" ⟨"ShipsThatMeet$Shelf", "at", "(I)I"⟩ ⟨"ShipsThatMeet$Shelf", "at", "(I)I"⟩ ∈ ah_tb := List.mem_filter.mpr ⟨List.mem_of_getElem? (i := 234) (by decide +kernel), by decide +kernel⟩
theorem q_235 : Cond.code ⟨"ShipsThatMeet$Shelf", "at", "(I)I"⟩ prog_9_method_9_code 2 (Option.some FieldType.int) ∈ ah_tb := List.mem_filter.mpr ⟨List.mem_of_getElem? (i := 235) (by decide +kernel), by decide +kernel⟩
theorem q_236 : Cond.methodLink "ShipsThatMeet$Shelf" 29 ⟨"ShipsThatMeet$Shelf", "hasPlace", "(I)Z"⟩ ∈ ah_tb := List.mem_filter.mpr ⟨List.mem_of_getElem? (i := 236) (by decide +kernel), by decide +kernel⟩
theorem q_237 : Cond.instanceMethod ⟨"ShipsThatMeet$Shelf", "hasPlace", "(I)Z"⟩ ∈ ah_tb := List.mem_filter.mpr ⟨List.mem_of_getElem? (i := 237) (by decide +kernel), by decide +kernel⟩
theorem q_238 : Cond.selects "ShipsThatMeet$Shelf" ⟨"ShipsThatMeet$Shelf", "hasPlace", "(I)Z"⟩ ⟨"ShipsThatMeet$Shelf", "hasPlace", "(I)Z"⟩ ∈ ah_tb := List.mem_filter.mpr ⟨List.mem_of_getElem? (i := 238) (by decide +kernel), by decide +kernel⟩
theorem q_239 : Cond.code ⟨"ShipsThatMeet$Shelf", "hasPlace", "(I)Z"⟩ prog_9_method_7_code 2 (Option.some FieldType.boolean) ∈ ah_tb := List.mem_filter.mpr ⟨List.mem_of_getElem? (i := 239) (by decide +kernel), by decide +kernel⟩
theorem q_240 : Cond.methodLink "ShipsThatMeet" 69 ⟨"ShipsThatMeet", "signsBehind", "(I)I"⟩ ∈ ah_tb := List.mem_filter.mpr ⟨List.mem_of_getElem? (i := 240) (by decide +kernel), by decide +kernel⟩
theorem q_241 : Cond.static ⟨"ShipsThatMeet", "signsBehind", "(I)I"⟩ ∈ ah_tb := List.mem_filter.mpr ⟨List.mem_of_getElem? (i := 241) (by decide +kernel), by decide +kernel⟩
theorem q_242 : Cond.code ⟨"ShipsThatMeet", "signsBehind", "(I)I"⟩ prog_1_method_42_code 1 (Option.some FieldType.int) ∈ ah_tb := List.mem_filter.mpr ⟨List.mem_of_getElem? (i := 242) (by decide +kernel), by decide +kernel⟩
theorem q_243 : Cond.methodLink "ShipsThatMeet" 54 ⟨"ShipsThatMeet$Fleet", "become", "(LShipsThatMeet$Fleet;)V"⟩ ∈ ah_tb := List.mem_filter.mpr ⟨List.mem_of_getElem? (i := 243) (by decide +kernel), by decide +kernel⟩
theorem q_244 : Cond.instanceMethod ⟨"ShipsThatMeet$Fleet", "become", "(LShipsThatMeet$Fleet;)V"⟩ ∈ ah_tb := List.mem_filter.mpr ⟨List.mem_of_getElem? (i := 244) (by decide +kernel), by decide +kernel⟩
theorem q_245 : Cond.selects "ShipsThatMeet$Fleet" ⟨"ShipsThatMeet$Fleet", "become", "(LShipsThatMeet$Fleet;)V"⟩ ⟨"ShipsThatMeet$Fleet", "become", "(LShipsThatMeet$Fleet;)V"⟩ ∈ ah_tb := List.mem_filter.mpr ⟨List.mem_of_getElem? (i := 245) (by decide +kernel), by decide +kernel⟩
theorem q_246 : Cond.code ⟨"ShipsThatMeet$Fleet", "become", "(LShipsThatMeet$Fleet;)V"⟩ prog_4_method_2_code 3 none ∈ ah_tb := List.mem_filter.mpr ⟨List.mem_of_getElem? (i := 246) (by decide +kernel), by decide +kernel⟩
theorem q_247 : Cond.methodLink "ShipsThatMeet" 62 ⟨"ShipsThatMeet", "isCarriedOut", "(LShipsThatMeet$Fleet;LShipsThatMeet$Shelf;I)Z"⟩ ∈ ah_tb := List.mem_filter.mpr ⟨List.mem_of_getElem? (i := 247) (by decide +kernel), by decide +kernel⟩
theorem q_248 : Cond.static ⟨"ShipsThatMeet", "isCarriedOut", "(LShipsThatMeet$Fleet;LShipsThatMeet$Shelf;I)Z"⟩ ∈ ah_tb := List.mem_filter.mpr ⟨List.mem_of_getElem? (i := 248) (by decide +kernel), by decide +kernel⟩
theorem q_249 : Cond.code ⟨"ShipsThatMeet", "isCarriedOut", "(LShipsThatMeet$Fleet;LShipsThatMeet$Shelf;I)Z"⟩ prog_1_method_45_code 5 (Option.some FieldType.boolean) ∈ ah_tb := List.mem_filter.mpr ⟨List.mem_of_getElem? (i := 249) (by decide +kernel), by decide +kernel⟩
theorem q_250 : Cond.methodLink "ShipsThatMeet" 299 ⟨"ShipsThatMeet", "digit", "(LShipsThatMeet$Shelf;I)I"⟩ ∈ ah_tb := List.mem_filter.mpr ⟨List.mem_of_getElem? (i := 250) (by decide +kernel), by decide +kernel⟩
theorem q_251 : Cond.static ⟨"ShipsThatMeet", "digit", "(LShipsThatMeet$Shelf;I)I"⟩ ∈ ah_tb := List.mem_filter.mpr ⟨List.mem_of_getElem? (i := 251) (by decide +kernel), by decide +kernel⟩
theorem q_252 : Cond.code ⟨"ShipsThatMeet", "digit", "(LShipsThatMeet$Shelf;I)I"⟩ prog_1_method_44_code 2 (Option.some FieldType.int) ∈ ah_tb := List.mem_filter.mpr ⟨List.mem_of_getElem? (i := 252) (by decide +kernel), by decide +kernel⟩
theorem q_253 : Cond.methodLink "ShipsThatMeet" 303 ⟨"ShipsThatMeet$Fleet", "takesShip", "(II)Z"⟩ ∈ ah_tb := List.mem_filter.mpr ⟨List.mem_of_getElem? (i := 253) (by decide +kernel), by decide +kernel⟩
theorem q_254 : Cond.instanceMethod ⟨"ShipsThatMeet$Fleet", "takesShip", "(II)Z"⟩ ∈ ah_tb := List.mem_filter.mpr ⟨List.mem_of_getElem? (i := 254) (by decide +kernel), by decide +kernel⟩
theorem q_255 : Cond.selects "ShipsThatMeet$Fleet" ⟨"ShipsThatMeet$Fleet", "takesShip", "(II)Z"⟩ ⟨"ShipsThatMeet$Fleet", "takesShip", "(II)Z"⟩ ∈ ah_tb := List.mem_filter.mpr ⟨List.mem_of_getElem? (i := 255) (by decide +kernel), by decide +kernel⟩
theorem q_256 : Cond.code ⟨"ShipsThatMeet$Fleet", "takesShip", "(II)Z"⟩ prog_4_method_8_code 3 (Option.some FieldType.boolean) ∈ ah_tb := List.mem_filter.mpr ⟨List.mem_of_getElem? (i := 256) (by decide +kernel), by decide +kernel⟩
theorem q_257 : Cond.methodLinkNest "ShipsThatMeet$Fleet" 63 ⟨"ShipsThatMeet", "isKindAndFigure", "(II)Z"⟩ "ShipsThatMeet" ∈ lw_tbl := List.mem_of_getElem? (i := 257) (by decide +kernel)
theorem q_258 : Cond.static ⟨"ShipsThatMeet", "isKindAndFigure", "(II)Z"⟩ ∈ ah_tb := List.mem_filter.mpr ⟨List.mem_of_getElem? (i := 258) (by decide +kernel), by decide +kernel⟩
theorem q_259 : Cond.code ⟨"ShipsThatMeet", "isKindAndFigure", "(II)Z"⟩ prog_1_method_35_code 2 (Option.some FieldType.boolean) ∈ ah_tb := List.mem_filter.mpr ⟨List.mem_of_getElem? (i := 259) (by decide +kernel), by decide +kernel⟩
theorem q_260 : Cond.methodLinkNest "ShipsThatMeet$Fleet" 66 ⟨"ShipsThatMeet", "captainOf", "(II)LShipsThatMeet$Captain;"⟩ "ShipsThatMeet" ∈ lw_tbl := List.mem_of_getElem? (i := 260) (by decide +kernel)
theorem q_261 : Cond.static ⟨"ShipsThatMeet", "captainOf", "(II)LShipsThatMeet$Captain;"⟩ ∈ ah_tb := List.mem_filter.mpr ⟨List.mem_of_getElem? (i := 261) (by decide +kernel), by decide +kernel⟩
theorem q_262 : Cond.code ⟨"ShipsThatMeet", "captainOf", "(II)LShipsThatMeet$Captain;"⟩ prog_1_method_57_code 2 (Option.some (FieldType.object "ShipsThatMeet$Captain")) ∈ ah_tb := List.mem_filter.mpr ⟨List.mem_of_getElem? (i := 262) (by decide +kernel), by decide +kernel⟩
theorem q_263 : Cond.classLink "ShipsThatMeet" 350 "ShipsThatMeet$Lot" ∈ ah_tb := List.mem_filter.mpr ⟨List.mem_of_getElem? (i := 263) (by decide +kernel), by decide +kernel⟩
theorem q_264 : Cond.instantiable "ShipsThatMeet$Lot" 2 ∈ ah_tb := List.mem_filter.mpr ⟨List.mem_of_getElem? (i := 264) (by decide +kernel), by decide +kernel⟩
theorem q_265 : Cond.methodLink "ShipsThatMeet" 352 ⟨"ShipsThatMeet$Lot", "<init>", "(I)V"⟩ ∈ ah_tb := List.mem_filter.mpr ⟨List.mem_of_getElem? (i := 265) (by decide +kernel), by decide +kernel⟩
theorem q_266 : Cond.instanceMethod ⟨"ShipsThatMeet$Lot", "<init>", "(I)V"⟩ ∈ ah_tb := List.mem_filter.mpr ⟨List.mem_of_getElem? (i := 266) (by decide +kernel), by decide +kernel⟩
theorem q_267 : Cond.code ⟨"ShipsThatMeet$Lot", "<init>", "(I)V"⟩ prog_6_method_1_code 2 none ∈ ah_tb := List.mem_filter.mpr ⟨List.mem_of_getElem? (i := 267) (by decide +kernel), by decide +kernel⟩
theorem q_268 : Cond.methodLink "ShipsThatMeet$Lot" 3 ⟨"ShipsThatMeet$Captain", "<init>", "(II)V"⟩ ∈ ah_tb := List.mem_filter.mpr ⟨List.mem_of_getElem? (i := 268) (by decide +kernel), by decide +kernel⟩
theorem q_269 : Cond.laysFinal "ShipsThatMeet$Lot" "ShipsThatMeet$Captain" "kind" "I" ∈ ah_tb := List.mem_filter.mpr ⟨List.mem_of_getElem? (i := 269) (by decide +kernel), by decide +kernel⟩
theorem q_270 : Cond.laysFinal "ShipsThatMeet$Lot" "ShipsThatMeet$Captain" "figure" "I" ∈ ah_tb := List.mem_filter.mpr ⟨List.mem_of_getElem? (i := 270) (by decide +kernel), by decide +kernel⟩
theorem q_271 : Cond.superclass "ShipsThatMeet$Lot" "ShipsThatMeet$Captain" ∈ ah_tb := List.mem_filter.mpr ⟨List.mem_of_getElem? (i := 271) (by decide +kernel), by decide +kernel⟩
theorem q_272 : Cond.classLink "ShipsThatMeet" 355 "ShipsThatMeet$New" ∈ ah_tb := List.mem_filter.mpr ⟨List.mem_of_getElem? (i := 272) (by decide +kernel), by decide +kernel⟩
theorem q_273 : Cond.instantiable "ShipsThatMeet$New" 2 ∈ ah_tb := List.mem_filter.mpr ⟨List.mem_of_getElem? (i := 273) (by decide +kernel), by decide +kernel⟩
theorem q_274 : Cond.methodLink "ShipsThatMeet" 357 ⟨"ShipsThatMeet$New", "<init>", "(II)V"⟩ ∈ ah_tb := List.mem_filter.mpr ⟨List.mem_of_getElem? (i := 274) (by decide +kernel), by decide +kernel⟩
theorem q_275 : Cond.instanceMethod ⟨"ShipsThatMeet$New", "<init>", "(II)V"⟩ ∈ ah_tb := List.mem_filter.mpr ⟨List.mem_of_getElem? (i := 275) (by decide +kernel), by decide +kernel⟩
theorem q_276 : Cond.code ⟨"ShipsThatMeet$New", "<init>", "(II)V"⟩ prog_7_method_1_code 3 none ∈ ah_tb := List.mem_filter.mpr ⟨List.mem_of_getElem? (i := 276) (by decide +kernel), by decide +kernel⟩
theorem q_277 : Cond.methodLink "ShipsThatMeet$New" 3 ⟨"ShipsThatMeet$Captain", "<init>", "(II)V"⟩ ∈ ah_tb := List.mem_filter.mpr ⟨List.mem_of_getElem? (i := 277) (by decide +kernel), by decide +kernel⟩
theorem q_278 : Cond.laysFinal "ShipsThatMeet$New" "ShipsThatMeet$Captain" "kind" "I" ∈ ah_tb := List.mem_filter.mpr ⟨List.mem_of_getElem? (i := 278) (by decide +kernel), by decide +kernel⟩
theorem q_279 : Cond.laysFinal "ShipsThatMeet$New" "ShipsThatMeet$Captain" "figure" "I" ∈ ah_tb := List.mem_filter.mpr ⟨List.mem_of_getElem? (i := 279) (by decide +kernel), by decide +kernel⟩
theorem q_280 : Cond.superclass "ShipsThatMeet$New" "ShipsThatMeet$Captain" ∈ ah_tb := List.mem_filter.mpr ⟨List.mem_of_getElem? (i := 280) (by decide +kernel), by decide +kernel⟩
theorem q_281 : Cond.classLink "ShipsThatMeet" 359 "ShipsThatMeet$Old" ∈ ah_tb := List.mem_filter.mpr ⟨List.mem_of_getElem? (i := 281) (by decide +kernel), by decide +kernel⟩
theorem q_282 : Cond.instantiable "ShipsThatMeet$Old" 2 ∈ ah_tb := List.mem_filter.mpr ⟨List.mem_of_getElem? (i := 282) (by decide +kernel), by decide +kernel⟩
theorem q_283 : Cond.methodLink "ShipsThatMeet" 361 ⟨"ShipsThatMeet$Old", "<init>", "(II)V"⟩ ∈ ah_tb := List.mem_filter.mpr ⟨List.mem_of_getElem? (i := 283) (by decide +kernel), by decide +kernel⟩
theorem q_284 : Cond.instanceMethod ⟨"ShipsThatMeet$Old", "<init>", "(II)V"⟩ ∈ ah_tb := List.mem_filter.mpr ⟨List.mem_of_getElem? (i := 284) (by decide +kernel), by decide +kernel⟩
theorem q_285 : Cond.code ⟨"ShipsThatMeet$Old", "<init>", "(II)V"⟩ prog_8_method_1_code 3 none ∈ ah_tb := List.mem_filter.mpr ⟨List.mem_of_getElem? (i := 285) (by decide +kernel), by decide +kernel⟩
theorem q_286 : Cond.methodLink "ShipsThatMeet$Old" 3 ⟨"ShipsThatMeet$New", "<init>", "(II)V"⟩ ∈ ah_tb := List.mem_filter.mpr ⟨List.mem_of_getElem? (i := 286) (by decide +kernel), by decide +kernel⟩
theorem q_287 : Cond.laysFinal "ShipsThatMeet$Old" "ShipsThatMeet$Captain" "kind" "I" ∈ ah_tb := List.mem_filter.mpr ⟨List.mem_of_getElem? (i := 287) (by decide +kernel), by decide +kernel⟩
theorem q_288 : Cond.laysFinal "ShipsThatMeet$Old" "ShipsThatMeet$Captain" "figure" "I" ∈ ah_tb := List.mem_filter.mpr ⟨List.mem_of_getElem? (i := 288) (by decide +kernel), by decide +kernel⟩
theorem q_289 : Cond.superclass "ShipsThatMeet$Old" "ShipsThatMeet$New" ∈ ah_tb := List.mem_filter.mpr ⟨List.mem_of_getElem? (i := 289) (by decide +kernel), by decide +kernel⟩
theorem q_290 : Cond.classLink "ShipsThatMeet" 362 "ShipsThatMeet$Want" ∈ ah_tb := List.mem_filter.mpr ⟨List.mem_of_getElem? (i := 290) (by decide +kernel), by decide +kernel⟩
theorem q_291 : Cond.instantiable "ShipsThatMeet$Want" 2 ∈ ah_tb := List.mem_filter.mpr ⟨List.mem_of_getElem? (i := 291) (by decide +kernel), by decide +kernel⟩
theorem q_292 : Cond.methodLink "ShipsThatMeet" 364 ⟨"ShipsThatMeet$Want", "<init>", "(II)V"⟩ ∈ ah_tb := List.mem_filter.mpr ⟨List.mem_of_getElem? (i := 292) (by decide +kernel), by decide +kernel⟩
theorem q_293 : Cond.instanceMethod ⟨"ShipsThatMeet$Want", "<init>", "(II)V"⟩ ∈ ah_tb := List.mem_filter.mpr ⟨List.mem_of_getElem? (i := 293) (by decide +kernel), by decide +kernel⟩
theorem q_294 : Cond.code ⟨"ShipsThatMeet$Want", "<init>", "(II)V"⟩ prog_11_method_1_code 3 none ∈ ah_tb := List.mem_filter.mpr ⟨List.mem_of_getElem? (i := 294) (by decide +kernel), by decide +kernel⟩
theorem q_295 : Cond.methodLink "ShipsThatMeet$Want" 3 ⟨"ShipsThatMeet$Captain", "<init>", "(II)V"⟩ ∈ ah_tb := List.mem_filter.mpr ⟨List.mem_of_getElem? (i := 295) (by decide +kernel), by decide +kernel⟩
theorem q_296 : Cond.laysFinal "ShipsThatMeet$Want" "ShipsThatMeet$Captain" "kind" "I" ∈ ah_tb := List.mem_filter.mpr ⟨List.mem_of_getElem? (i := 296) (by decide +kernel), by decide +kernel⟩
theorem q_297 : Cond.laysFinal "ShipsThatMeet$Want" "ShipsThatMeet$Captain" "figure" "I" ∈ ah_tb := List.mem_filter.mpr ⟨List.mem_of_getElem? (i := 297) (by decide +kernel), by decide +kernel⟩
theorem q_298 : Cond.superclass "ShipsThatMeet$Want" "ShipsThatMeet$Captain" ∈ ah_tb := List.mem_filter.mpr ⟨List.mem_of_getElem? (i := 298) (by decide +kernel), by decide +kernel⟩
theorem q_299 : Cond.classLink "ShipsThatMeet" 365 "ShipsThatMeet$Best" ∈ ah_tb := List.mem_filter.mpr ⟨List.mem_of_getElem? (i := 299) (by decide +kernel), by decide +kernel⟩
theorem q_300 : Cond.instantiable "ShipsThatMeet$Best" 2 ∈ ah_tb := List.mem_filter.mpr ⟨List.mem_of_getElem? (i := 300) (by decide +kernel), by decide +kernel⟩
theorem q_301 : Cond.methodLink "ShipsThatMeet" 367 ⟨"ShipsThatMeet$Best", "<init>", "(I)V"⟩ ∈ ah_tb := List.mem_filter.mpr ⟨List.mem_of_getElem? (i := 301) (by decide +kernel), by decide +kernel⟩
theorem q_302 : Cond.instanceMethod ⟨"ShipsThatMeet$Best", "<init>", "(I)V"⟩ ∈ ah_tb := List.mem_filter.mpr ⟨List.mem_of_getElem? (i := 302) (by decide +kernel), by decide +kernel⟩
theorem q_303 : Cond.code ⟨"ShipsThatMeet$Best", "<init>", "(I)V"⟩ prog_2_method_1_code 2 none ∈ ah_tb := List.mem_filter.mpr ⟨List.mem_of_getElem? (i := 303) (by decide +kernel), by decide +kernel⟩
theorem q_304 : Cond.methodLink "ShipsThatMeet$Best" 3 ⟨"ShipsThatMeet$Want", "<init>", "(II)V"⟩ ∈ ah_tb := List.mem_filter.mpr ⟨List.mem_of_getElem? (i := 304) (by decide +kernel), by decide +kernel⟩
theorem q_305 : Cond.laysFinal "ShipsThatMeet$Best" "ShipsThatMeet$Captain" "kind" "I" ∈ ah_tb := List.mem_filter.mpr ⟨List.mem_of_getElem? (i := 305) (by decide +kernel), by decide +kernel⟩
theorem q_306 : Cond.laysFinal "ShipsThatMeet$Best" "ShipsThatMeet$Captain" "figure" "I" ∈ ah_tb := List.mem_filter.mpr ⟨List.mem_of_getElem? (i := 306) (by decide +kernel), by decide +kernel⟩
theorem q_307 : Cond.superclass "ShipsThatMeet$Best" "ShipsThatMeet$Want" ∈ ah_tb := List.mem_filter.mpr ⟨List.mem_of_getElem? (i := 307) (by decide +kernel), by decide +kernel⟩
theorem q_308 : Cond.classLink "ShipsThatMeet" 368 "ShipsThatMeet$Told" ∈ ah_tb := List.mem_filter.mpr ⟨List.mem_of_getElem? (i := 308) (by decide +kernel), by decide +kernel⟩
theorem q_309 : Cond.instantiable "ShipsThatMeet$Told" 2 ∈ ah_tb := List.mem_filter.mpr ⟨List.mem_of_getElem? (i := 309) (by decide +kernel), by decide +kernel⟩
theorem q_310 : Cond.methodLink "ShipsThatMeet" 370 ⟨"ShipsThatMeet$Told", "<init>", "(I)V"⟩ ∈ ah_tb := List.mem_filter.mpr ⟨List.mem_of_getElem? (i := 310) (by decide +kernel), by decide +kernel⟩
theorem q_311 : Cond.instanceMethod ⟨"ShipsThatMeet$Told", "<init>", "(I)V"⟩ ∈ ah_tb := List.mem_filter.mpr ⟨List.mem_of_getElem? (i := 311) (by decide +kernel), by decide +kernel⟩
theorem q_312 : Cond.code ⟨"ShipsThatMeet$Told", "<init>", "(I)V"⟩ prog_10_method_1_code 2 none ∈ ah_tb := List.mem_filter.mpr ⟨List.mem_of_getElem? (i := 312) (by decide +kernel), by decide +kernel⟩
theorem q_313 : Cond.methodLink "ShipsThatMeet$Told" 1 ⟨"ShipsThatMeet$Captain", "<init>", "(II)V"⟩ ∈ ah_tb := List.mem_filter.mpr ⟨List.mem_of_getElem? (i := 313) (by decide +kernel), by decide +kernel⟩
theorem q_314 : Cond.laysFinal "ShipsThatMeet$Told" "ShipsThatMeet$Captain" "kind" "I" ∈ ah_tb := List.mem_filter.mpr ⟨List.mem_of_getElem? (i := 314) (by decide +kernel), by decide +kernel⟩
theorem q_315 : Cond.laysFinal "ShipsThatMeet$Told" "ShipsThatMeet$Captain" "figure" "I" ∈ ah_tb := List.mem_filter.mpr ⟨List.mem_of_getElem? (i := 315) (by decide +kernel), by decide +kernel⟩
theorem q_316 : Cond.superclass "ShipsThatMeet$Told" "ShipsThatMeet$Captain" ∈ ah_tb := List.mem_filter.mpr ⟨List.mem_of_getElem? (i := 316) (by decide +kernel), by decide +kernel⟩
theorem q_317 : Cond.classLink "ShipsThatMeet" 371 "ShipsThatMeet$Keep" ∈ ah_tb := List.mem_filter.mpr ⟨List.mem_of_getElem? (i := 317) (by decide +kernel), by decide +kernel⟩
theorem q_318 : Cond.instantiable "ShipsThatMeet$Keep" 2 ∈ ah_tb := List.mem_filter.mpr ⟨List.mem_of_getElem? (i := 318) (by decide +kernel), by decide +kernel⟩
theorem q_319 : Cond.methodLink "ShipsThatMeet" 373 ⟨"ShipsThatMeet$Keep", "<init>", "(I)V"⟩ ∈ ah_tb := List.mem_filter.mpr ⟨List.mem_of_getElem? (i := 319) (by decide +kernel), by decide +kernel⟩
theorem q_320 : Cond.instanceMethod ⟨"ShipsThatMeet$Keep", "<init>", "(I)V"⟩ ∈ ah_tb := List.mem_filter.mpr ⟨List.mem_of_getElem? (i := 320) (by decide +kernel), by decide +kernel⟩
theorem q_321 : Cond.code ⟨"ShipsThatMeet$Keep", "<init>", "(I)V"⟩ prog_5_method_1_code 2 none ∈ ah_tb := List.mem_filter.mpr ⟨List.mem_of_getElem? (i := 321) (by decide +kernel), by decide +kernel⟩
theorem q_322 : Cond.methodLink "ShipsThatMeet$Keep" 1 ⟨"ShipsThatMeet$Old", "<init>", "(II)V"⟩ ∈ ah_tb := List.mem_filter.mpr ⟨List.mem_of_getElem? (i := 322) (by decide +kernel), by decide +kernel⟩
theorem q_323 : Cond.laysFinal "ShipsThatMeet$Keep" "ShipsThatMeet$Captain" "kind" "I" ∈ ah_tb := List.mem_filter.mpr ⟨List.mem_of_getElem? (i := 323) (by decide +kernel), by decide +kernel⟩
theorem q_324 : Cond.laysFinal "ShipsThatMeet$Keep" "ShipsThatMeet$Captain" "figure" "I" ∈ ah_tb := List.mem_filter.mpr ⟨List.mem_of_getElem? (i := 324) (by decide +kernel), by decide +kernel⟩
theorem q_325 : Cond.superclass "ShipsThatMeet$Keep" "ShipsThatMeet$Old" ∈ ah_tb := List.mem_filter.mpr ⟨List.mem_of_getElem? (i := 325) (by decide +kernel), by decide +kernel⟩
theorem q_326 : Cond.classLink "ShipsThatMeet" 81 "ShipsThatMeet$Captain" ∈ ah_tb := List.mem_filter.mpr ⟨List.mem_of_getElem? (i := 326) (by decide +kernel), by decide +kernel⟩
theorem q_327 : Cond.methodLink "ShipsThatMeet" 374 ⟨"ShipsThatMeet$Captain", "<init>", "(II)V"⟩ ∈ ah_tb := List.mem_filter.mpr ⟨List.mem_of_getElem? (i := 327) (by decide +kernel), by decide +kernel⟩
theorem q_328 : Cond.methodLink "ShipsThatMeet" 306 ⟨"ShipsThatMeet$Fleet", "takesMan", "(III)Z"⟩ ∈ ah_tb := List.mem_filter.mpr ⟨List.mem_of_getElem? (i := 328) (by decide +kernel), by decide +kernel⟩
theorem q_329 : Cond.instanceMethod ⟨"ShipsThatMeet$Fleet", "takesMan", "(III)Z"⟩ ∈ ah_tb := List.mem_filter.mpr ⟨List.mem_of_getElem? (i := 329) (by decide +kernel), by decide +kernel⟩
theorem q_330 : Cond.selects "ShipsThatMeet$Fleet" ⟨"ShipsThatMeet$Fleet", "takesMan", "(III)Z"⟩ ⟨"ShipsThatMeet$Fleet", "takesMan", "(III)Z"⟩ ∈ ah_tb := List.mem_filter.mpr ⟨List.mem_of_getElem? (i := 330) (by decide +kernel), by decide +kernel⟩
theorem q_331 : Cond.code ⟨"ShipsThatMeet$Fleet", "takesMan", "(III)Z"⟩ prog_4_method_9_code 5 (Option.some FieldType.boolean) ∈ ah_tb := List.mem_filter.mpr ⟨List.mem_of_getElem? (i := 331) (by decide +kernel), by decide +kernel⟩
theorem q_332 : Cond.methodLink "ShipsThatMeet$Fleet" 49 ⟨"ShipsThatMeet$Fleet", "isShip", "(I)Z"⟩ ∈ ah_tb := List.mem_filter.mpr ⟨List.mem_of_getElem? (i := 332) (by decide +kernel), by decide +kernel⟩
theorem q_333 : Cond.instanceMethod ⟨"ShipsThatMeet$Fleet", "isShip", "(I)Z"⟩ ∈ ah_tb := List.mem_filter.mpr ⟨List.mem_of_getElem? (i := 333) (by decide +kernel), by decide +kernel⟩
theorem q_334 : Cond.selects "ShipsThatMeet$Fleet" ⟨"ShipsThatMeet$Fleet", "isShip", "(I)Z"⟩ ⟨"ShipsThatMeet$Fleet", "isShip", "(I)Z"⟩ ∈ ah_tb := List.mem_filter.mpr ⟨List.mem_of_getElem? (i := 334) (by decide +kernel), by decide +kernel⟩
theorem q_335 : Cond.code ⟨"ShipsThatMeet$Fleet", "isShip", "(I)Z"⟩ prog_4_method_3_code 2 (Option.some FieldType.boolean) ∈ ah_tb := List.mem_filter.mpr ⟨List.mem_of_getElem? (i := 335) (by decide +kernel), by decide +kernel⟩
theorem q_336 : Cond.methodLink "ShipsThatMeet$Fleet" 70 ⟨"ShipsThatMeet$Fleet", "acquaint", "(I)V"⟩ ∈ ah_tb := List.mem_filter.mpr ⟨List.mem_of_getElem? (i := 336) (by decide +kernel), by decide +kernel⟩
theorem q_337 : Cond.instanceMethod ⟨"ShipsThatMeet$Fleet", "acquaint", "(I)V"⟩ ∈ ah_tb := List.mem_filter.mpr ⟨List.mem_of_getElem? (i := 337) (by decide +kernel), by decide +kernel⟩
theorem q_338 : Cond.selects "ShipsThatMeet$Fleet" ⟨"ShipsThatMeet$Fleet", "acquaint", "(I)V"⟩ ⟨"ShipsThatMeet$Fleet", "acquaint", "(I)V"⟩ ∈ ah_tb := List.mem_filter.mpr ⟨List.mem_of_getElem? (i := 338) (by decide +kernel), by decide +kernel⟩
theorem q_339 : Cond.code ⟨"ShipsThatMeet$Fleet", "acquaint", "(I)V"⟩ prog_4_method_17_code 3 none ∈ ah_tb := List.mem_filter.mpr ⟨List.mem_of_getElem? (i := 339) (by decide +kernel), by decide +kernel⟩
theorem q_340 : Cond.methodLink "ShipsThatMeet" 128 ⟨"ShipsThatMeet$Fleet", "holdMeeting", "(II)Z"⟩ ∈ ah_tb := List.mem_filter.mpr ⟨List.mem_of_getElem? (i := 340) (by decide +kernel), by decide +kernel⟩
theorem q_341 : Cond.instanceMethod ⟨"ShipsThatMeet$Fleet", "holdMeeting", "(II)Z"⟩ ∈ ah_tb := List.mem_filter.mpr ⟨List.mem_of_getElem? (i := 341) (by decide +kernel), by decide +kernel⟩
theorem q_342 : Cond.selects "ShipsThatMeet$Fleet" ⟨"ShipsThatMeet$Fleet", "holdMeeting", "(II)Z"⟩ ⟨"ShipsThatMeet$Fleet", "holdMeeting", "(II)Z"⟩ ∈ ah_tb := List.mem_filter.mpr ⟨List.mem_of_getElem? (i := 342) (by decide +kernel), by decide +kernel⟩
theorem q_343 : Cond.code ⟨"ShipsThatMeet$Fleet", "holdMeeting", "(II)Z"⟩ prog_4_method_12_code 3 (Option.some FieldType.boolean) ∈ ah_tb := List.mem_filter.mpr ⟨List.mem_of_getElem? (i := 343) (by decide +kernel), by decide +kernel⟩
theorem q_344 : Cond.methodLink "ShipsThatMeet$Fleet" 81 ⟨"ShipsThatMeet$Fleet", "canMeet", "(II)Z"⟩ ∈ ah_tb := List.mem_filter.mpr ⟨List.mem_of_getElem? (i := 344) (by decide +kernel), by decide +kernel⟩
theorem q_345 : Cond.instanceMethod ⟨"ShipsThatMeet$Fleet", "canMeet", "(II)Z"⟩ ∈ ah_tb := List.mem_filter.mpr ⟨List.mem_of_getElem? (i := 345) (by decide +kernel), by decide +kernel⟩
theorem q_346 : Cond.selects "ShipsThatMeet$Fleet" ⟨"ShipsThatMeet$Fleet", "canMeet", "(II)Z"⟩ ⟨"ShipsThatMeet$Fleet", "canMeet", "(II)Z"⟩ ∈ ah_tb := List.mem_filter.mpr ⟨List.mem_of_getElem? (i := 346) (by decide +kernel), by decide +kernel⟩
theorem q_347 : Cond.code ⟨"ShipsThatMeet$Fleet", "canMeet", "(II)Z"⟩ prog_4_method_6_code 3 (Option.some FieldType.boolean) ∈ ah_tb := List.mem_filter.mpr ⟨List.mem_of_getElem? (i := 347) (by decide +kernel), by decide +kernel⟩
theorem q_348 : Cond.methodLink "ShipsThatMeet$Fleet" 53 ⟨"ShipsThatMeet$Fleet", "areUnlikeShips", "(II)Z"⟩ ∈ ah_tb := List.mem_filter.mpr ⟨List.mem_of_getElem? (i := 348) (by decide +kernel), by decide +kernel⟩
theorem q_349 : Cond.instanceMethod ⟨"ShipsThatMeet$Fleet", "areUnlikeShips", "(II)Z"⟩ ∈ ah_tb := List.mem_filter.mpr ⟨List.mem_of_getElem? (i := 349) (by decide +kernel), by decide +kernel⟩
theorem q_350 : Cond.selects "ShipsThatMeet$Fleet" ⟨"ShipsThatMeet$Fleet", "areUnlikeShips", "(II)Z"⟩ ⟨"ShipsThatMeet$Fleet", "areUnlikeShips", "(II)Z"⟩ ∈ ah_tb := List.mem_filter.mpr ⟨List.mem_of_getElem? (i := 350) (by decide +kernel), by decide +kernel⟩
theorem q_351 : Cond.code ⟨"ShipsThatMeet$Fleet", "areUnlikeShips", "(II)Z"⟩ prog_4_method_5_code 3 (Option.some FieldType.boolean) ∈ ah_tb := List.mem_filter.mpr ⟨List.mem_of_getElem? (i := 351) (by decide +kernel), by decide +kernel⟩
theorem q_352 : Cond.methodLink "ShipsThatMeet$Fleet" 78 ⟨"ShipsThatMeet$Fleet", "giver", "(I)I"⟩ ∈ ah_tb := List.mem_filter.mpr ⟨List.mem_of_getElem? (i := 352) (by decide +kernel), by decide +kernel⟩
theorem q_353 : Cond.instanceMethod ⟨"ShipsThatMeet$Fleet", "giver", "(I)I"⟩ ∈ ah_tb := List.mem_filter.mpr ⟨List.mem_of_getElem? (i := 353) (by decide +kernel), by decide +kernel⟩
theorem q_354 : Cond.selects "ShipsThatMeet$Fleet" ⟨"ShipsThatMeet$Fleet", "giver", "(I)I"⟩ ⟨"ShipsThatMeet$Fleet", "giver", "(I)I"⟩ ∈ ah_tb := List.mem_filter.mpr ⟨List.mem_of_getElem? (i := 354) (by decide +kernel), by decide +kernel⟩
theorem q_355 : Cond.code ⟨"ShipsThatMeet$Fleet", "giver", "(I)I"⟩ prog_4_method_10_code 2 (Option.some FieldType.int) ∈ ah_tb := List.mem_filter.mpr ⟨List.mem_of_getElem? (i := 355) (by decide +kernel), by decide +kernel⟩
theorem q_356 : Cond.methodLink "ShipsThatMeet$Fleet" 74 ⟨"ShipsThatMeet$Captain", "gift", "(LShipsThatMeet$Fleet;I)I"⟩ ∈ ah_tb := List.mem_filter.mpr ⟨List.mem_of_getElem? (i := 356) (by decide +kernel), by decide +kernel⟩
theorem q_357 : Cond.instanceMethod ⟨"ShipsThatMeet$Captain", "gift", "(LShipsThatMeet$Fleet;I)I"⟩ ∈ ah_tb := List.mem_filter.mpr ⟨List.mem_of_getElem? (i := 357) (by decide +kernel), by decide +kernel⟩
theorem q_358 : Cond.selects "ShipsThatMeet$Captain" ⟨"ShipsThatMeet$Captain", "gift", "(LShipsThatMeet$Fleet;I)I"⟩ ⟨"ShipsThatMeet$Captain", "gift", "(LShipsThatMeet$Fleet;I)I"⟩ ∈ ah_tb := List.mem_filter.mpr ⟨List.mem_of_getElem? (i := 358) (by decide +kernel), by decide +kernel⟩
theorem q_359 : Cond.sameMethod "ShipsThatMeet$Captain" "ShipsThatMeet$Captain" "gift" "(LShipsThatMeet$Fleet;I)I" ∈ ah_tb := List.mem_filter.mpr ⟨List.mem_of_getElem? (i := 359) (by decide +kernel), by decide +kernel⟩
theorem q_360 : Cond.selects "ShipsThatMeet$Best" ⟨"ShipsThatMeet$Captain", "gift", "(LShipsThatMeet$Fleet;I)I"⟩ ⟨"ShipsThatMeet$Best", "gift", "(LShipsThatMeet$Fleet;I)I"⟩ ∈ ah_tb := List.mem_filter.mpr ⟨List.mem_of_getElem? (i := 360) (by decide +kernel), by decide +kernel⟩
theorem q_361 : Cond.instanceMethod ⟨"ShipsThatMeet$Best", "gift", "(LShipsThatMeet$Fleet;I)I"⟩ ∈ ah_tb := List.mem_filter.mpr ⟨List.mem_of_getElem? (i := 361) (by decide +kernel), by decide +kernel⟩
theorem q_362 : Cond.code ⟨"ShipsThatMeet$Best", "gift", "(LShipsThatMeet$Fleet;I)I"⟩ prog_2_method_2_code 8 (Option.some FieldType.int) ∈ ah_tb := List.mem_filter.mpr ⟨List.mem_of_getElem? (i := 362) (by decide +kernel), by decide +kernel⟩
theorem q_363 : Cond.methodLink "ShipsThatMeet$Best" 9 ⟨"ShipsThatMeet$Best", "unwanted", "(LShipsThatMeet$Fleet;I)I"⟩ ∈ ah_tb := List.mem_filter.mpr ⟨List.mem_of_getElem? (i := 363) (by decide +kernel), by decide +kernel⟩
theorem q_364 : Cond.sameMethod "ShipsThatMeet$Best" "ShipsThatMeet$Want" "unwanted" "(LShipsThatMeet$Fleet;I)I" ∈ ah_tb := List.mem_filter.mpr ⟨List.mem_of_getElem? (i := 364) (by decide +kernel), by decide +kernel⟩
theorem q_365 : Cond.declares ⟨"ShipsThatMeet$Want", "unwanted", "(LShipsThatMeet$Fleet;I)I"⟩ ∈ lw_tbl := List.mem_of_getElem? (i := 365) (by decide +kernel)
theorem q_366 : Cond.selects "ShipsThatMeet$Best" ⟨"ShipsThatMeet$Best", "unwanted", "(LShipsThatMeet$Fleet;I)I"⟩ ⟨"ShipsThatMeet$Want", "unwanted", "(LShipsThatMeet$Fleet;I)I"⟩ ∈ ah_tb := List.mem_filter.mpr ⟨List.mem_of_getElem? (i := 366) (by decide +kernel), by decide +kernel⟩
theorem q_367 : Cond.instanceMethod ⟨"ShipsThatMeet$Want", "unwanted", "(LShipsThatMeet$Fleet;I)I"⟩ ∈ ah_tb := List.mem_filter.mpr ⟨List.mem_of_getElem? (i := 367) (by decide +kernel), by decide +kernel⟩
theorem q_368 : Cond.code ⟨"ShipsThatMeet$Want", "unwanted", "(LShipsThatMeet$Fleet;I)I"⟩ prog_11_method_2_code 5 (Option.some FieldType.int) ∈ ah_tb := List.mem_filter.mpr ⟨List.mem_of_getElem? (i := 368) (by decide +kernel), by decide +kernel⟩
theorem q_369 : Cond.methodLinkNest "ShipsThatMeet$Want" 9 ⟨"ShipsThatMeet", "has", "(II)Z"⟩ "ShipsThatMeet" ∈ lw_tbl := List.mem_of_getElem? (i := 369) (by decide +kernel)
theorem q_370 : Cond.static ⟨"ShipsThatMeet", "has", "(II)Z"⟩ ∈ ah_tb := List.mem_filter.mpr ⟨List.mem_of_getElem? (i := 370) (by decide +kernel), by decide +kernel⟩
theorem q_371 : Cond.code ⟨"ShipsThatMeet", "has", "(II)Z"⟩ prog_1_method_46_code 2 (Option.some FieldType.boolean) ∈ ah_tb := List.mem_filter.mpr ⟨List.mem_of_getElem? (i := 371) (by decide +kernel), by decide +kernel⟩
theorem q_372 : Cond.methodLinkNest "ShipsThatMeet$Best" 15 ⟨"ShipsThatMeet", "has", "(II)Z"⟩ "ShipsThatMeet" ∈ lw_tbl := List.mem_of_getElem? (i := 372) (by decide +kernel)
theorem q_373 : Cond.methodLink "ShipsThatMeet$Best" 25 ⟨"ShipsThatMeet$Fleet", "speakers", "(II)I"⟩ ∈ ah_tb := List.mem_filter.mpr ⟨List.mem_of_getElem? (i := 373) (by decide +kernel), by decide +kernel⟩
theorem q_374 : Cond.instanceMethod ⟨"ShipsThatMeet$Fleet", "speakers", "(II)I"⟩ ∈ ah_tb := List.mem_filter.mpr ⟨List.mem_of_getElem? (i := 374) (by decide +kernel), by decide +kernel⟩
theorem q_375 : Cond.selects "ShipsThatMeet$Fleet" ⟨"ShipsThatMeet$Fleet", "speakers", "(II)I"⟩ ⟨"ShipsThatMeet$Fleet", "speakers", "(II)I"⟩ ∈ ah_tb := List.mem_filter.mpr ⟨List.mem_of_getElem? (i := 375) (by decide +kernel), by decide +kernel⟩
theorem q_376 : Cond.code ⟨"ShipsThatMeet$Fleet", "speakers", "(II)I"⟩ prog_4_method_18_code 5 (Option.some FieldType.int) ∈ ah_tb := List.mem_filter.mpr ⟨List.mem_of_getElem? (i := 376) (by decide +kernel), by decide +kernel⟩
theorem q_377 : Cond.methodLinkNest "ShipsThatMeet$Fleet" 106 ⟨"ShipsThatMeet", "has", "(II)Z"⟩ "ShipsThatMeet" ∈ lw_tbl := List.mem_of_getElem? (i := 377) (by decide +kernel)
theorem q_378 : Cond.selects "ShipsThatMeet$Keep" ⟨"ShipsThatMeet$Captain", "gift", "(LShipsThatMeet$Fleet;I)I"⟩ ⟨"ShipsThatMeet$Keep", "gift", "(LShipsThatMeet$Fleet;I)I"⟩ ∈ ah_tb := List.mem_filter.mpr ⟨List.mem_of_getElem? (i := 378) (by decide +kernel), by decide +kernel⟩
theorem q_379 : Cond.instanceMethod ⟨"ShipsThatMeet$Keep", "gift", "(LShipsThatMeet$Fleet;I)I"⟩ ∈ ah_tb := List.mem_filter.mpr ⟨List.mem_of_getElem? (i := 379) (by decide +kernel), by decide +kernel⟩
theorem q_380 : Cond.code ⟨"ShipsThatMeet$Keep", "gift", "(LShipsThatMeet$Fleet;I)I"⟩ prog_5_method_2_code 4 (Option.some FieldType.int) ∈ ah_tb := List.mem_filter.mpr ⟨List.mem_of_getElem? (i := 380) (by decide +kernel), by decide +kernel⟩
theorem q_381 : Cond.methodLink "ShipsThatMeet$Keep" 13 ⟨"ShipsThatMeet$Old", "gift", "(LShipsThatMeet$Fleet;I)I"⟩ ∈ ah_tb := List.mem_filter.mpr ⟨List.mem_of_getElem? (i := 381) (by decide +kernel), by decide +kernel⟩
theorem q_382 : Cond.instanceMethod ⟨"ShipsThatMeet$Old", "gift", "(LShipsThatMeet$Fleet;I)I"⟩ ∈ ah_tb := List.mem_filter.mpr ⟨List.mem_of_getElem? (i := 382) (by decide +kernel), by decide +kernel⟩
theorem q_383 : Cond.code ⟨"ShipsThatMeet$Old", "gift", "(LShipsThatMeet$Fleet;I)I"⟩ prog_8_method_2_code 5 (Option.some FieldType.int) ∈ ah_tb := List.mem_filter.mpr ⟨List.mem_of_getElem? (i := 383) (by decide +kernel), by decide +kernel⟩
theorem q_384 : Cond.methodLinkNest "ShipsThatMeet$Old" 9 ⟨"ShipsThatMeet", "has", "(II)Z"⟩ "ShipsThatMeet" ∈ lw_tbl := List.mem_of_getElem? (i := 384) (by decide +kernel)
theorem q_385 : Cond.selects "ShipsThatMeet$Lot" ⟨"ShipsThatMeet$Captain", "gift", "(LShipsThatMeet$Fleet;I)I"⟩ ⟨"ShipsThatMeet$Lot", "gift", "(LShipsThatMeet$Fleet;I)I"⟩ ∈ ah_tb := List.mem_filter.mpr ⟨List.mem_of_getElem? (i := 385) (by decide +kernel), by decide +kernel⟩
theorem q_386 : Cond.instanceMethod ⟨"ShipsThatMeet$Lot", "gift", "(LShipsThatMeet$Fleet;I)I"⟩ ∈ ah_tb := List.mem_filter.mpr ⟨List.mem_of_getElem? (i := 386) (by decide +kernel), by decide +kernel⟩
theorem q_387 : Cond.code ⟨"ShipsThatMeet$Lot", "gift", "(LShipsThatMeet$Fleet;I)I"⟩ prog_6_method_2_code 6 (Option.some FieldType.int) ∈ ah_tb := List.mem_filter.mpr ⟨List.mem_of_getElem? (i := 387) (by decide +kernel), by decide +kernel⟩
theorem q_388 : Cond.methodLink "ShipsThatMeet$Lot" 9 ⟨"java/lang/Integer", "bitCount", "(I)I"⟩ ∈ ah_tb := List.mem_filter.mpr ⟨List.mem_of_getElem? (i := 388) (by decide +kernel), by decide +kernel⟩
theorem q_389 : Cond.static ⟨"java/lang/Integer", "bitCount", "(I)I"⟩ ∈ ah_tb := List.mem_filter.mpr ⟨List.mem_of_getElem? (i := 389) (by decide +kernel), by decide +kernel⟩
theorem q_390 : Cond.code ⟨"java/lang/Integer", "bitCount", "(I)I"⟩ prog_17_method_49_code 1 (Option.some FieldType.int) ∈ ah_tb := List.mem_filter.mpr ⟨List.mem_of_getElem? (i := 390) (by decide +kernel), by decide +kernel⟩
theorem q_391 : Cond.constant "java/lang/Integer" 265 (1431655765 : Int32) ∈ ah_tb := List.mem_filter.mpr ⟨List.mem_of_getElem? (i := 391) (by decide +kernel), by decide +kernel⟩
theorem q_392 : Cond.constant "java/lang/Integer" 266 (858993459 : Int32) ∈ ah_tb := List.mem_filter.mpr ⟨List.mem_of_getElem? (i := 392) (by decide +kernel), by decide +kernel⟩
theorem q_393 : Cond.constant "java/lang/Integer" 267 (252645135 : Int32) ∈ ah_tb := List.mem_filter.mpr ⟨List.mem_of_getElem? (i := 393) (by decide +kernel), by decide +kernel⟩
theorem q_394 : Cond.methodLinkNest "ShipsThatMeet$Lot" 21 ⟨"ShipsThatMeet", "has", "(II)Z"⟩ "ShipsThatMeet" ∈ lw_tbl := List.mem_of_getElem? (i := 394) (by decide +kernel)
theorem q_395 : Cond.selects "ShipsThatMeet$New" ⟨"ShipsThatMeet$Captain", "gift", "(LShipsThatMeet$Fleet;I)I"⟩ ⟨"ShipsThatMeet$New", "gift", "(LShipsThatMeet$Fleet;I)I"⟩ ∈ ah_tb := List.mem_filter.mpr ⟨List.mem_of_getElem? (i := 395) (by decide +kernel), by decide +kernel⟩
theorem q_396 : Cond.instanceMethod ⟨"ShipsThatMeet$New", "gift", "(LShipsThatMeet$Fleet;I)I"⟩ ∈ ah_tb := List.mem_filter.mpr ⟨List.mem_of_getElem? (i := 396) (by decide +kernel), by decide +kernel⟩
theorem q_397 : Cond.code ⟨"ShipsThatMeet$New", "gift", "(LShipsThatMeet$Fleet;I)I"⟩ prog_7_method_2_code 5 (Option.some FieldType.int) ∈ ah_tb := List.mem_filter.mpr ⟨List.mem_of_getElem? (i := 397) (by decide +kernel), by decide +kernel⟩
theorem q_398 : Cond.methodLinkNest "ShipsThatMeet$New" 9 ⟨"ShipsThatMeet", "has", "(II)Z"⟩ "ShipsThatMeet" ∈ lw_tbl := List.mem_of_getElem? (i := 398) (by decide +kernel)
theorem q_399 : Cond.selects "ShipsThatMeet$Old" ⟨"ShipsThatMeet$Captain", "gift", "(LShipsThatMeet$Fleet;I)I"⟩ ⟨"ShipsThatMeet$Old", "gift", "(LShipsThatMeet$Fleet;I)I"⟩ ∈ ah_tb := List.mem_filter.mpr ⟨List.mem_of_getElem? (i := 399) (by decide +kernel), by decide +kernel⟩
theorem q_400 : Cond.selects "ShipsThatMeet$Told" ⟨"ShipsThatMeet$Captain", "gift", "(LShipsThatMeet$Fleet;I)I"⟩ ⟨"ShipsThatMeet$Told", "gift", "(LShipsThatMeet$Fleet;I)I"⟩ ∈ ah_tb := List.mem_filter.mpr ⟨List.mem_of_getElem? (i := 400) (by decide +kernel), by decide +kernel⟩
theorem q_401 : Cond.instanceMethod ⟨"ShipsThatMeet$Told", "gift", "(LShipsThatMeet$Fleet;I)I"⟩ ∈ ah_tb := List.mem_filter.mpr ⟨List.mem_of_getElem? (i := 401) (by decide +kernel), by decide +kernel⟩
theorem q_402 : Cond.code ⟨"ShipsThatMeet$Told", "gift", "(LShipsThatMeet$Fleet;I)I"⟩ prog_10_method_2_code 3 (Option.some FieldType.int) ∈ ah_tb := List.mem_filter.mpr ⟨List.mem_of_getElem? (i := 402) (by decide +kernel), by decide +kernel⟩
theorem q_403 : Cond.methodLinkNest "ShipsThatMeet$Told" 13 ⟨"ShipsThatMeet", "has", "(II)Z"⟩ "ShipsThatMeet" ∈ lw_tbl := List.mem_of_getElem? (i := 403) (by decide +kernel)
theorem q_404 : Cond.methodLink "ShipsThatMeet$Told" 19 ⟨"ShipsThatMeet$Captain", "gift", "(LShipsThatMeet$Fleet;I)I"⟩ ∈ ah_tb := List.mem_filter.mpr ⟨List.mem_of_getElem? (i := 404) (by decide +kernel), by decide +kernel⟩
theorem q_405 : Cond.selects "ShipsThatMeet$Want" ⟨"ShipsThatMeet$Captain", "gift", "(LShipsThatMeet$Fleet;I)I"⟩ ⟨"ShipsThatMeet$Want", "gift", "(LShipsThatMeet$Fleet;I)I"⟩ ∈ ah_tb := List.mem_filter.mpr ⟨List.mem_of_getElem? (i := 405) (by decide +kernel), by decide +kernel⟩
theorem q_406 : Cond.instanceMethod ⟨"ShipsThatMeet$Want", "gift", "(LShipsThatMeet$Fleet;I)I"⟩ ∈ ah_tb := List.mem_filter.mpr ⟨List.mem_of_getElem? (i := 406) (by decide +kernel), by decide +kernel⟩
theorem q_407 : Cond.code ⟨"ShipsThatMeet$Want", "gift", "(LShipsThatMeet$Fleet;I)I"⟩ prog_11_method_3_code 3 (Option.some FieldType.int) ∈ ah_tb := List.mem_filter.mpr ⟨List.mem_of_getElem? (i := 407) (by decide +kernel), by decide +kernel⟩
theorem q_408 : Cond.methodLink "ShipsThatMeet$Want" 25 ⟨"ShipsThatMeet$Want", "unwanted", "(LShipsThatMeet$Fleet;I)I"⟩ ∈ ah_tb := List.mem_filter.mpr ⟨List.mem_of_getElem? (i := 408) (by decide +kernel), by decide +kernel⟩
theorem q_409 : Cond.methodLink "ShipsThatMeet$Want" 29 ⟨"ShipsThatMeet$Captain", "gift", "(LShipsThatMeet$Fleet;I)I"⟩ ∈ ah_tb := List.mem_filter.mpr ⟨List.mem_of_getElem? (i := 409) (by decide +kernel), by decide +kernel⟩
theorem q_410 : Cond.code ⟨"ShipsThatMeet$Captain", "gift", "(LShipsThatMeet$Fleet;I)I"⟩ prog_3_method_2_code 4 (Option.some FieldType.int) ∈ ah_tb := List.mem_filter.mpr ⟨List.mem_of_getElem? (i := 410) (by decide +kernel), by decide +kernel⟩
theorem q_411 : Cond.methodLinkNest "ShipsThatMeet$Captain" 18 ⟨"ShipsThatMeet", "has", "(II)Z"⟩ "ShipsThatMeet" ∈ lw_tbl := List.mem_of_getElem? (i := 411) (by decide +kernel)
theorem q_412 : Cond.methodLink "ShipsThatMeet$Fleet" 84 ⟨"ShipsThatMeet$Fleet", "exchange", "(IIII)V"⟩ ∈ ah_tb := List.mem_filter.mpr ⟨List.mem_of_getElem? (i := 412) (by decide +kernel), by decide +kernel⟩
theorem q_413 : Cond.instanceMethod ⟨"ShipsThatMeet$Fleet", "exchange", "(IIII)V"⟩ ∈ ah_tb := List.mem_filter.mpr ⟨List.mem_of_getElem? (i := 413) (by decide +kernel), by decide +kernel⟩
theorem q_414 : Cond.selects "ShipsThatMeet$Fleet" ⟨"ShipsThatMeet$Fleet", "exchange", "(IIII)V"⟩ ⟨"ShipsThatMeet$Fleet", "exchange", "(IIII)V"⟩ ∈ ah_tb := List.mem_filter.mpr ⟨List.mem_of_getElem? (i := 414) (by decide +kernel), by decide +kernel⟩
theorem q_415 : Cond.code ⟨"ShipsThatMeet$Fleet", "exchange", "(IIII)V"⟩ prog_4_method_14_code 5 none ∈ ah_tb := List.mem_filter.mpr ⟨List.mem_of_getElem? (i := 415) (by decide +kernel), by decide +kernel⟩
theorem q_416 : Cond.methodLink "ShipsThatMeet$Fleet" 99 ⟨"ShipsThatMeet$Fleet", "isMan", "(I)Z"⟩ ∈ ah_tb := List.mem_filter.mpr ⟨List.mem_of_getElem? (i := 416) (by decide +kernel), by decide +kernel⟩
theorem q_417 : Cond.instanceMethod ⟨"ShipsThatMeet$Fleet", "isMan", "(I)Z"⟩ ∈ ah_tb := List.mem_filter.mpr ⟨List.mem_of_getElem? (i := 417) (by decide +kernel), by decide +kernel⟩
theorem q_418 : Cond.selects "ShipsThatMeet$Fleet" ⟨"ShipsThatMeet$Fleet", "isMan", "(I)Z"⟩ ⟨"ShipsThatMeet$Fleet", "isMan", "(I)Z"⟩ ∈ ah_tb := List.mem_filter.mpr ⟨List.mem_of_getElem? (i := 418) (by decide +kernel), by decide +kernel⟩
theorem q_419 : Cond.code ⟨"ShipsThatMeet$Fleet", "isMan", "(I)Z"⟩ prog_4_method_4_code 2 (Option.some FieldType.boolean) ∈ ah_tb := List.mem_filter.mpr ⟨List.mem_of_getElem? (i := 419) (by decide +kernel), by decide +kernel⟩
theorem q_420 : Cond.methodLink "ShipsThatMeet$Fleet" 102 ⟨"ShipsThatMeet$Fleet", "bring", "(III)V"⟩ ∈ ah_tb := List.mem_filter.mpr ⟨List.mem_of_getElem? (i := 420) (by decide +kernel), by decide +kernel⟩
theorem q_421 : Cond.instanceMethod ⟨"ShipsThatMeet$Fleet", "bring", "(III)V"⟩ ∈ ah_tb := List.mem_filter.mpr ⟨List.mem_of_getElem? (i := 421) (by decide +kernel), by decide +kernel⟩
theorem q_422 : Cond.selects "ShipsThatMeet$Fleet" ⟨"ShipsThatMeet$Fleet", "bring", "(III)V"⟩ ⟨"ShipsThatMeet$Fleet", "bring", "(III)V"⟩ ∈ ah_tb := List.mem_filter.mpr ⟨List.mem_of_getElem? (i := 422) (by decide +kernel), by decide +kernel⟩
theorem q_423 : Cond.code ⟨"ShipsThatMeet$Fleet", "bring", "(III)V"⟩ prog_4_method_16_code 4 none ∈ ah_tb := List.mem_filter.mpr ⟨List.mem_of_getElem? (i := 423) (by decide +kernel), by decide +kernel⟩
theorem q_424 : Cond.methodLink "ShipsThatMeetLaw" 26 ⟨"ShipsThatMeet", "ship", "(II)I"⟩ ∈ ah_tb := List.mem_filter.mpr ⟨List.mem_of_getElem? (i := 424) (by decide +kernel), by decide +kernel⟩
theorem q_425 : Cond.instanceMethod ⟨"ShipsThatMeet", "ship", "(II)I"⟩ ∈ ah_tb := List.mem_filter.mpr ⟨List.mem_of_getElem? (i := 425) (by decide +kernel), by decide +kernel⟩
theorem q_426 : Cond.selects "ShipsThatMeet" ⟨"ShipsThatMeet", "ship", "(II)I"⟩ ⟨"ShipsThatMeet", "ship", "(II)I"⟩ ∈ ah_tb := List.mem_filter.mpr ⟨List.mem_of_getElem? (i := 426) (by decide +kernel), by decide +kernel⟩
theorem q_427 : Cond.code ⟨"ShipsThatMeet", "ship", "(II)I"⟩ prog_1_method_3_code 3 (Option.some FieldType.int) ∈ ah_tb := List.mem_filter.mpr ⟨List.mem_of_getElem? (i := 427) (by decide +kernel), by decide +kernel⟩
theorem q_428 : Cond.methodLink "ShipsThatMeet" 72 ⟨"ShipsThatMeet$Fleet", "isShip", "(I)Z"⟩ ∈ ah_tb := List.mem_filter.mpr ⟨List.mem_of_getElem? (i := 428) (by decide +kernel), by decide +kernel⟩
theorem q_429 : Cond.methodLink "ShipsThatMeet" 91 ⟨"java/lang/Integer", "bitCount", "(I)I"⟩ ∈ ah_tb := List.mem_filter.mpr ⟨List.mem_of_getElem? (i := 429) (by decide +kernel), by decide +kernel⟩
theorem q_430 : Cond.methodLink "ShipsThatMeet" 96 ⟨"ShipsThatMeet$Fleet", "giver", "(I)I"⟩ ∈ ah_tb := List.mem_filter.mpr ⟨List.mem_of_getElem? (i := 430) (by decide +kernel), by decide +kernel⟩
theorem q_431 : Cond.methodLink "ShipsThatMeetLaw" 31 ⟨"ShipsThatMeet", "man", "(II)I"⟩ ∈ ah_tb := List.mem_filter.mpr ⟨List.mem_of_getElem? (i := 431) (by decide +kernel), by decide +kernel⟩
theorem q_432 : Cond.instanceMethod ⟨"ShipsThatMeet", "man", "(II)I"⟩ ∈ ah_tb := List.mem_filter.mpr ⟨List.mem_of_getElem? (i := 432) (by decide +kernel), by decide +kernel⟩
theorem q_433 : Cond.selects "ShipsThatMeet" ⟨"ShipsThatMeet", "man", "(II)I"⟩ ⟨"ShipsThatMeet", "man", "(II)I"⟩ ∈ ah_tb := List.mem_filter.mpr ⟨List.mem_of_getElem? (i := 433) (by decide +kernel), by decide +kernel⟩
theorem q_434 : Cond.code ⟨"ShipsThatMeet", "man", "(II)I"⟩ prog_1_method_4_code 3 (Option.some FieldType.int) ∈ ah_tb := List.mem_filter.mpr ⟨List.mem_of_getElem? (i := 434) (by decide +kernel), by decide +kernel⟩
theorem q_435 : Cond.methodLink "ShipsThatMeet" 99 ⟨"ShipsThatMeet$Fleet", "isMan", "(I)Z"⟩ ∈ ah_tb := List.mem_filter.mpr ⟨List.mem_of_getElem? (i := 435) (by decide +kernel), by decide +kernel⟩
theorem q_436 : Cond.methodLink "ShipsThatMeetLaw" 35 ⟨"ShipsThatMeet", "commands", "(II)I"⟩ ∈ ah_tb := List.mem_filter.mpr ⟨List.mem_of_getElem? (i := 436) (by decide +kernel), by decide +kernel⟩
theorem q_437 : Cond.instanceMethod ⟨"ShipsThatMeet", "commands", "(II)I"⟩ ∈ ah_tb := List.mem_filter.mpr ⟨List.mem_of_getElem? (i := 437) (by decide +kernel), by decide +kernel⟩
theorem q_438 : Cond.selects "ShipsThatMeet" ⟨"ShipsThatMeet", "commands", "(II)I"⟩ ⟨"ShipsThatMeet", "commands", "(II)I"⟩ ∈ ah_tb := List.mem_filter.mpr ⟨List.mem_of_getElem? (i := 438) (by decide +kernel), by decide +kernel⟩
theorem q_439 : Cond.code ⟨"ShipsThatMeet", "commands", "(II)I"⟩ prog_1_method_5_code 4 (Option.some FieldType.int) ∈ ah_tb := List.mem_filter.mpr ⟨List.mem_of_getElem? (i := 439) (by decide +kernel), by decide +kernel⟩
theorem q_440 : Cond.methodLink "ShipsThatMeet" 114 ⟨"ShipsThatMeet", "refusalOfCaptain", "(I)I"⟩ ∈ ah_tb := List.mem_filter.mpr ⟨List.mem_of_getElem? (i := 440) (by decide +kernel), by decide +kernel⟩
theorem q_442 : Cond.instanceMethod ⟨"ShipsThatMeet", "refusalOfCaptain", "(I)I"⟩ ∈ ah_tb := List.mem_filter.mpr ⟨List.mem_of_getElem? (i := 442) (by decide +kernel), by decide +kernel⟩
theorem q_443 : Cond.code ⟨"ShipsThatMeet", "refusalOfCaptain", "(I)I"⟩ prog_1_method_36_code 2 (Option.some FieldType.int) ∈ ah_tb := List.mem_filter.mpr ⟨List.mem_of_getElem? (i := 443) (by decide +kernel), by decide +kernel⟩
theorem q_444 : Cond.methodLink "ShipsThatMeetLaw" 39 ⟨"ShipsThatMeet", "meet", "(II)I"⟩ ∈ ah_tb := List.mem_filter.mpr ⟨List.mem_of_getElem? (i := 444) (by decide +kernel), by decide +kernel⟩
theorem q_445 : Cond.instanceMethod ⟨"ShipsThatMeet", "meet", "(II)I"⟩ ∈ ah_tb := List.mem_filter.mpr ⟨List.mem_of_getElem? (i := 445) (by decide +kernel), by decide +kernel⟩
theorem q_446 : Cond.selects "ShipsThatMeet" ⟨"ShipsThatMeet", "meet", "(II)I"⟩ ⟨"ShipsThatMeet", "meet", "(II)I"⟩ ∈ ah_tb := List.mem_filter.mpr ⟨List.mem_of_getElem? (i := 446) (by decide +kernel), by decide +kernel⟩
theorem q_447 : Cond.code ⟨"ShipsThatMeet", "meet", "(II)I"⟩ prog_1_method_6_code 4 (Option.some FieldType.int) ∈ ah_tb := List.mem_filter.mpr ⟨List.mem_of_getElem? (i := 447) (by decide +kernel), by decide +kernel⟩
theorem q_448 : Cond.methodLink "ShipsThatMeet" 121 ⟨"ShipsThatMeet$Fleet", "areUnlikeShips", "(II)Z"⟩ ∈ ah_tb := List.mem_filter.mpr ⟨List.mem_of_getElem? (i := 448) (by decide +kernel), by decide +kernel⟩
theorem q_449 : Cond.methodLink "ShipsThatMeet" 125 ⟨"ShipsThatMeet$Fleet", "canMeet", "(II)Z"⟩ ∈ ah_tb := List.mem_filter.mpr ⟨List.mem_of_getElem? (i := 449) (by decide +kernel), by decide +kernel⟩
theorem q_450 : Cond.methodLink "ShipsThatMeetLaw" 43 ⟨"ShipsThatMeet", "where", "(II)I"⟩ ∈ ah_tb := List.mem_filter.mpr ⟨List.mem_of_getElem? (i := 450) (by decide +kernel), by decide +kernel⟩
theorem q_451 : Cond.instanceMethod ⟨"ShipsThatMeet", "where", "(II)I"⟩ ∈ ah_tb := List.mem_filter.mpr ⟨List.mem_of_getElem? (i := 451) (by decide +kernel), by decide +kernel⟩
theorem q_452 : Cond.selects "ShipsThatMeet" ⟨"ShipsThatMeet", "where", "(II)I"⟩ ⟨"ShipsThatMeet", "where", "(II)I"⟩ ∈ ah_tb := List.mem_filter.mpr ⟨List.mem_of_getElem? (i := 452) (by decide +kernel), by decide +kernel⟩
theorem q_453 : Cond.code ⟨"ShipsThatMeet", "where", "(II)I"⟩ prog_1_method_7_code 6 (Option.some FieldType.int) ∈ ah_tb := List.mem_filter.mpr ⟨List.mem_of_getElem? (i := 453) (by decide +kernel), by decide +kernel⟩
theorem q_454 : Cond.methodLink "ShipsThatMeet" 131 ⟨"ShipsThatMeet", "refusalOfManAndMeetings", "(II)I"⟩ ∈ ah_tb := List.mem_filter.mpr ⟨List.mem_of_getElem? (i := 454) (by decide +kernel), by decide +kernel⟩
theorem q_456 : Cond.instanceMethod ⟨"ShipsThatMeet", "refusalOfManAndMeetings", "(II)I"⟩ ∈ ah_tb := List.mem_filter.mpr ⟨List.mem_of_getElem? (i := 456) (by decide +kernel), by decide +kernel⟩
theorem q_457 : Cond.code ⟨"ShipsThatMeet", "refusalOfManAndMeetings", "(II)I"⟩ prog_1_method_40_code 3 (Option.some FieldType.int) ∈ ah_tb := List.mem_filter.mpr ⟨List.mem_of_getElem? (i := 457) (by decide +kernel), by decide +kernel⟩
theorem q_458 : Cond.methodLink "ShipsThatMeet" 214 ⟨"ShipsThatMeet", "refusalOfMeetings", "(I)I"⟩ ∈ ah_tb := List.mem_filter.mpr ⟨List.mem_of_getElem? (i := 458) (by decide +kernel), by decide +kernel⟩
theorem q_460 : Cond.instanceMethod ⟨"ShipsThatMeet", "refusalOfMeetings", "(I)I"⟩ ∈ ah_tb := List.mem_filter.mpr ⟨List.mem_of_getElem? (i := 460) (by decide +kernel), by decide +kernel⟩
theorem q_461 : Cond.code ⟨"ShipsThatMeet", "refusalOfMeetings", "(I)I"⟩ prog_1_method_39_code 5 (Option.some FieldType.int) ∈ ah_tb := List.mem_filter.mpr ⟨List.mem_of_getElem? (i := 461) (by decide +kernel), by decide +kernel⟩
theorem q_462 : Cond.methodLink "ShipsThatMeet" 135 ⟨"ShipsThatMeet$Shelf", "meetings", "()I"⟩ ∈ ah_tb := List.mem_filter.mpr ⟨List.mem_of_getElem? (i := 462) (by decide +kernel), by decide +kernel⟩
theorem q_463 : Cond.instanceMethod ⟨"ShipsThatMeet$Shelf", "meetings", "()I"⟩ ∈ ah_tb := List.mem_filter.mpr ⟨List.mem_of_getElem? (i := 463) (by decide +kernel), by decide +kernel⟩
theorem q_464 : Cond.selects "ShipsThatMeet$Shelf" ⟨"ShipsThatMeet$Shelf", "meetings", "()I"⟩ ⟨"ShipsThatMeet$Shelf", "meetings", "()I"⟩ ∈ ah_tb := List.mem_filter.mpr ⟨List.mem_of_getElem? (i := 464) (by decide +kernel), by decide +kernel⟩
theorem q_465 : Cond.code ⟨"ShipsThatMeet$Shelf", "meetings", "()I"⟩ prog_9_method_10_code 1 (Option.some FieldType.int) ∈ ah_tb := List.mem_filter.mpr ⟨List.mem_of_getElem? (i := 465) (by decide +kernel), by decide +kernel⟩
theorem q_466 : Cond.methodLink "ShipsThatMeet" 143 ⟨"ShipsThatMeet$Shelf", "one", "(I)I"⟩ ∈ ah_tb := List.mem_filter.mpr ⟨List.mem_of_getElem? (i := 466) (by decide +kernel), by decide +kernel⟩
theorem q_467 : Cond.instanceMethod ⟨"ShipsThatMeet$Shelf", "one", "(I)I"⟩ ∈ ah_tb := List.mem_filter.mpr ⟨List.mem_of_getElem? (i := 467) (by decide +kernel), by decide +kernel⟩
theorem q_468 : Cond.selects "ShipsThatMeet$Shelf" ⟨"ShipsThatMeet$Shelf", "one", "(I)I"⟩ ⟨"ShipsThatMeet$Shelf", "one", "(I)I"⟩ ∈ ah_tb := List.mem_filter.mpr ⟨List.mem_of_getElem? (i := 468) (by decide +kernel), by decide +kernel⟩
theorem q_469 : Cond.code ⟨"ShipsThatMeet$Shelf", "one", "(I)I"⟩ prog_9_method_11_code 2 (Option.some FieldType.int) ∈ ah_tb := List.mem_filter.mpr ⟨List.mem_of_getElem? (i := 469) (by decide +kernel), by decide +kernel⟩
theorem q_470 : Cond.methodLink "ShipsThatMeet$Shelf" 33 ⟨"ShipsThatMeet$Shelf", "at", "(I)I"⟩ ∈ ah_tb := List.mem_filter.mpr ⟨List.mem_of_getElem? (i := 470) (by decide +kernel), by decide +kernel⟩
theorem q_471 : Cond.methodLink "ShipsThatMeet" 146 ⟨"ShipsThatMeet$Shelf", "other", "(I)I"⟩ ∈ ah_tb := List.mem_filter.mpr ⟨List.mem_of_getElem? (i := 471) (by decide +kernel), by decide +kernel⟩
theorem q_472 : Cond.instanceMethod ⟨"ShipsThatMeet$Shelf", "other", "(I)I"⟩ ∈ ah_tb := List.mem_filter.mpr ⟨List.mem_of_getElem? (i := 472) (by decide +kernel), by decide +kernel⟩
theorem q_473 : Cond.selects "ShipsThatMeet$Shelf" ⟨"ShipsThatMeet$Shelf", "other", "(I)I"⟩ ⟨"ShipsThatMeet$Shelf", "other", "(I)I"⟩ ∈ ah_tb := List.mem_filter.mpr ⟨List.mem_of_getElem? (i := 473) (by decide +kernel), by decide +kernel⟩
theorem q_474 : Cond.code ⟨"ShipsThatMeet$Shelf", "other", "(I)I"⟩ prog_9_method_12_code 2 (Option.some FieldType.int) ∈ ah_tb := List.mem_filter.mpr ⟨List.mem_of_getElem? (i := 474) (by decide +kernel), by decide +kernel⟩
theorem q_475 : Cond.methodLink "ShipsThatMeet" 139 ⟨"ShipsThatMeet$Fleet", "holdTold", "(LShipsThatMeet$Shelf;I)V"⟩ ∈ ah_tb := List.mem_filter.mpr ⟨List.mem_of_getElem? (i := 475) (by decide +kernel), by decide +kernel⟩
theorem q_476 : Cond.instanceMethod ⟨"ShipsThatMeet$Fleet", "holdTold", "(LShipsThatMeet$Shelf;I)V"⟩ ∈ ah_tb := List.mem_filter.mpr ⟨List.mem_of_getElem? (i := 476) (by decide +kernel), by decide +kernel⟩
theorem q_477 : Cond.selects "ShipsThatMeet$Fleet" ⟨"ShipsThatMeet$Fleet", "holdTold", "(LShipsThatMeet$Shelf;I)V"⟩ ⟨"ShipsThatMeet$Fleet", "holdTold", "(LShipsThatMeet$Shelf;I)V"⟩ ∈ ah_tb := List.mem_filter.mpr ⟨List.mem_of_getElem? (i := 477) (by decide +kernel), by decide +kernel⟩
theorem q_478 : Cond.code ⟨"ShipsThatMeet$Fleet", "holdTold", "(LShipsThatMeet$Shelf;I)V"⟩ prog_4_method_13_code 3 none ∈ ah_tb := List.mem_filter.mpr ⟨List.mem_of_getElem? (i := 478) (by decide +kernel), by decide +kernel⟩
theorem q_479 : Cond.methodLink "ShipsThatMeet$Fleet" 88 ⟨"ShipsThatMeet$Shelf", "one", "(I)I"⟩ ∈ ah_tb := List.mem_filter.mpr ⟨List.mem_of_getElem? (i := 479) (by decide +kernel), by decide +kernel⟩
theorem q_480 : Cond.methodLink "ShipsThatMeet$Fleet" 93 ⟨"ShipsThatMeet$Shelf", "other", "(I)I"⟩ ∈ ah_tb := List.mem_filter.mpr ⟨List.mem_of_getElem? (i := 480) (by decide +kernel), by decide +kernel⟩
theorem q_481 : Cond.methodLink "ShipsThatMeet$Fleet" 96 ⟨"ShipsThatMeet$Fleet", "holdMeeting", "(II)Z"⟩ ∈ ah_tb := List.mem_filter.mpr ⟨List.mem_of_getElem? (i := 481) (by decide +kernel), by decide +kernel⟩
theorem q_482 : Cond.methodLink "ShipsThatMeetLaw" 47 ⟨"ShipsThatMeet", "can", "(II)I"⟩ ∈ ah_tb := List.mem_filter.mpr ⟨List.mem_of_getElem? (i := 482) (by decide +kernel), by decide +kernel⟩
theorem q_483 : Cond.instanceMethod ⟨"ShipsThatMeet", "can", "(II)I"⟩ ∈ ah_tb := List.mem_filter.mpr ⟨List.mem_of_getElem? (i := 483) (by decide +kernel), by decide +kernel⟩
theorem q_484 : Cond.selects "ShipsThatMeet" ⟨"ShipsThatMeet", "can", "(II)I"⟩ ⟨"ShipsThatMeet", "can", "(II)I"⟩ ∈ ah_tb := List.mem_filter.mpr ⟨List.mem_of_getElem? (i := 484) (by decide +kernel), by decide +kernel⟩
theorem q_485 : Cond.code ⟨"ShipsThatMeet", "can", "(II)I"⟩ prog_1_method_8_code 7 (Option.some FieldType.int) ∈ ah_tb := List.mem_filter.mpr ⟨List.mem_of_getElem? (i := 485) (by decide +kernel), by decide +kernel⟩
theorem q_486 : Cond.methodLink "ShipsThatMeet" 149 ⟨"ShipsThatMeet", "choicesBehind", "(III)I"⟩ ∈ ah_tb := List.mem_filter.mpr ⟨List.mem_of_getElem? (i := 486) (by decide +kernel), by decide +kernel⟩
theorem q_488 : Cond.instanceMethod ⟨"ShipsThatMeet", "choicesBehind", "(III)I"⟩ ∈ ah_tb := List.mem_filter.mpr ⟨List.mem_of_getElem? (i := 488) (by decide +kernel), by decide +kernel⟩
theorem q_489 : Cond.code ⟨"ShipsThatMeet", "choicesBehind", "(III)I"⟩ prog_1_method_48_code 5 (Option.some FieldType.int) ∈ ah_tb := List.mem_filter.mpr ⟨List.mem_of_getElem? (i := 489) (by decide +kernel), by decide +kernel⟩
theorem q_490 : Cond.methodLink "ShipsThatMeet" 153 ⟨"ShipsThatMeet", "has", "(II)Z"⟩ ∈ ah_tb := List.mem_filter.mpr ⟨List.mem_of_getElem? (i := 490) (by decide +kernel), by decide +kernel⟩
theorem q_491 : Cond.methodLink "ShipsThatMeet" 318 ⟨"ShipsThatMeet$Fleet", "isAlone", "(I)Z"⟩ ∈ ah_tb := List.mem_filter.mpr ⟨List.mem_of_getElem? (i := 491) (by decide +kernel), by decide +kernel⟩
theorem q_492 : Cond.instanceMethod ⟨"ShipsThatMeet$Fleet", "isAlone", "(I)Z"⟩ ∈ ah_tb := List.mem_filter.mpr ⟨List.mem_of_getElem? (i := 492) (by decide +kernel), by decide +kernel⟩
theorem q_493 : Cond.selects "ShipsThatMeet$Fleet" ⟨"ShipsThatMeet$Fleet", "isAlone", "(I)Z"⟩ ⟨"ShipsThatMeet$Fleet", "isAlone", "(I)Z"⟩ ∈ ah_tb := List.mem_filter.mpr ⟨List.mem_of_getElem? (i := 493) (by decide +kernel), by decide +kernel⟩
theorem q_494 : Cond.code ⟨"ShipsThatMeet$Fleet", "isAlone", "(I)Z"⟩ prog_4_method_7_code 2 (Option.some FieldType.boolean) ∈ ah_tb := List.mem_filter.mpr ⟨List.mem_of_getElem? (i := 494) (by decide +kernel), by decide +kernel⟩
theorem q_495 : Cond.methodLink "ShipsThatMeet$Fleet" 57 ⟨"java/lang/Integer", "bitCount", "(I)I"⟩ ∈ ah_tb := List.mem_filter.mpr ⟨List.mem_of_getElem? (i := 495) (by decide +kernel), by decide +kernel⟩
theorem q_496 : Cond.methodLink "ShipsThatMeetLaw" 51 ⟨"ShipsThatMeet", "soonest", "(III)I"⟩ ∈ ah_tb := List.mem_filter.mpr ⟨List.mem_of_getElem? (i := 496) (by decide +kernel), by decide +kernel⟩
theorem q_497 : Cond.instanceMethod ⟨"ShipsThatMeet", "soonest", "(III)I"⟩ ∈ ah_tb := List.mem_filter.mpr ⟨List.mem_of_getElem? (i := 497) (by decide +kernel), by decide +kernel⟩
theorem q_498 : Cond.selects "ShipsThatMeet" ⟨"ShipsThatMeet", "soonest", "(III)I"⟩ ⟨"ShipsThatMeet", "soonest", "(III)I"⟩ ∈ ah_tb := List.mem_filter.mpr ⟨List.mem_of_getElem? (i := 498) (by decide +kernel), by decide +kernel⟩
theorem q_499 : Cond.code ⟨"ShipsThatMeet", "soonest", "(III)I"⟩ prog_1_method_9_code 8 (Option.some FieldType.int) ∈ ah_tb := List.mem_filter.mpr ⟨List.mem_of_getElem? (i := 499) (by decide +kernel), by decide +kernel⟩
theorem q_500 : Cond.methodLink "ShipsThatMeetLaw" 56 ⟨"ShipsThatMeet", "likely", "(IIII)J"⟩ ∈ ah_tb := List.mem_filter.mpr ⟨List.mem_of_getElem? (i := 500) (by decide +kernel), by decide +kernel⟩
theorem q_501 : Cond.instanceMethod ⟨"ShipsThatMeet", "likely", "(IIII)J"⟩ ∈ ah_tb := List.mem_filter.mpr ⟨List.mem_of_getElem? (i := 501) (by decide +kernel), by decide +kernel⟩
theorem q_502 : Cond.selects "ShipsThatMeet" ⟨"ShipsThatMeet", "likely", "(IIII)J"⟩ ⟨"ShipsThatMeet", "likely", "(IIII)J"⟩ ∈ ah_tb := List.mem_filter.mpr ⟨List.mem_of_getElem? (i := 502) (by decide +kernel), by decide +kernel⟩
theorem q_503 : Cond.code ⟨"ShipsThatMeet", "likely", "(IIII)J"⟩ prog_1_method_10_code 12 (Option.some FieldType.long) ∈ ah_tb := List.mem_filter.mpr ⟨List.mem_of_getElem? (i := 503) (by decide +kernel), by decide +kernel⟩
theorem q_504 : Cond.constantLong "ShipsThatMeet" 156 (-1000000001 : Int64) ∈ ah_tb := List.mem_filter.mpr ⟨List.mem_of_getElem? (i := 504) (by decide +kernel), by decide +kernel⟩
theorem q_505 : Cond.constantLong "ShipsThatMeet" 158 (1000000000 : Int64) ∈ ah_tb := List.mem_filter.mpr ⟨List.mem_of_getElem? (i := 505) (by decide +kernel), by decide +kernel⟩
theorem q_506 : Cond.methodLink "ShipsThatMeet" 160 ⟨"ShipsThatMeet", "fillChances", "(ILShipsThatMeet$Shelf;)J"⟩ ∈ ah_tb := List.mem_filter.mpr ⟨List.mem_of_getElem? (i := 506) (by decide +kernel), by decide +kernel⟩
theorem q_508 : Cond.instanceMethod ⟨"ShipsThatMeet", "fillChances", "(ILShipsThatMeet$Shelf;)J"⟩ ∈ ah_tb := List.mem_filter.mpr ⟨List.mem_of_getElem? (i := 508) (by decide +kernel), by decide +kernel⟩
theorem q_509 : Cond.code ⟨"ShipsThatMeet", "fillChances", "(ILShipsThatMeet$Shelf;)J"⟩ prog_1_method_49_code 6 (Option.some FieldType.long) ∈ ah_tb := List.mem_filter.mpr ⟨List.mem_of_getElem? (i := 509) (by decide +kernel), by decide +kernel⟩
theorem q_510 : Cond.methodLink "ShipsThatMeet" 321 ⟨"ShipsThatMeet", "spreadChances", "(II)J"⟩ ∈ ah_tb := List.mem_filter.mpr ⟨List.mem_of_getElem? (i := 510) (by decide +kernel), by decide +kernel⟩
theorem q_512 : Cond.instanceMethod ⟨"ShipsThatMeet", "spreadChances", "(II)J"⟩ ∈ ah_tb := List.mem_filter.mpr ⟨List.mem_of_getElem? (i := 512) (by decide +kernel), by decide +kernel⟩
theorem q_513 : Cond.code ⟨"ShipsThatMeet", "spreadChances", "(II)J"⟩ prog_1_method_50_code 14 (Option.some FieldType.long) ∈ ah_tb := List.mem_filter.mpr ⟨List.mem_of_getElem? (i := 513) (by decide +kernel), by decide +kernel⟩
theorem q_514 : Cond.methodLink "ShipsThatMeet" 164 ⟨"ShipsThatMeet", "commonDivisor", "(JJ)J"⟩ ∈ ah_tb := List.mem_filter.mpr ⟨List.mem_of_getElem? (i := 514) (by decide +kernel), by decide +kernel⟩
theorem q_515 : Cond.static ⟨"ShipsThatMeet", "commonDivisor", "(JJ)J"⟩ ∈ ah_tb := List.mem_filter.mpr ⟨List.mem_of_getElem? (i := 515) (by decide +kernel), by decide +kernel⟩
theorem q_516 : Cond.code ⟨"ShipsThatMeet", "commonDivisor", "(JJ)J"⟩ prog_1_method_51_code 11 (Option.some FieldType.long) ∈ ah_tb := List.mem_filter.mpr ⟨List.mem_of_getElem? (i := 516) (by decide +kernel), by decide +kernel⟩
theorem q_517 : Cond.methodLink "ShipsThatMeetLaw" 61 ⟨"ShipsThatMeet", "fewest", "(III)I"⟩ ∈ ah_tb := List.mem_filter.mpr ⟨List.mem_of_getElem? (i := 517) (by decide +kernel), by decide +kernel⟩
theorem q_518 : Cond.instanceMethod ⟨"ShipsThatMeet", "fewest", "(III)I"⟩ ∈ ah_tb := List.mem_filter.mpr ⟨List.mem_of_getElem? (i := 518) (by decide +kernel), by decide +kernel⟩
theorem q_519 : Cond.selects "ShipsThatMeet" ⟨"ShipsThatMeet", "fewest", "(III)I"⟩ ⟨"ShipsThatMeet", "fewest", "(III)I"⟩ ∈ ah_tb := List.mem_filter.mpr ⟨List.mem_of_getElem? (i := 519) (by decide +kernel), by decide +kernel⟩
theorem q_520 : Cond.code ⟨"ShipsThatMeet", "fewest", "(III)I"⟩ prog_1_method_11_code 5 (Option.some FieldType.int) ∈ ah_tb := List.mem_filter.mpr ⟨List.mem_of_getElem? (i := 520) (by decide +kernel), by decide +kernel⟩
theorem q_521 : Cond.methodLink "ShipsThatMeet" 168 ⟨"ShipsThatMeet", "fewestMeetings", "(I)I"⟩ ∈ ah_tb := List.mem_filter.mpr ⟨List.mem_of_getElem? (i := 521) (by decide +kernel), by decide +kernel⟩
theorem q_523 : Cond.instanceMethod ⟨"ShipsThatMeet", "fewestMeetings", "(I)I"⟩ ∈ ah_tb := List.mem_filter.mpr ⟨List.mem_of_getElem? (i := 523) (by decide +kernel), by decide +kernel⟩
theorem q_524 : Cond.code ⟨"ShipsThatMeet", "fewestMeetings", "(I)I"⟩ prog_1_method_52_code 3 (Option.some FieldType.int) ∈ ah_tb := List.mem_filter.mpr ⟨List.mem_of_getElem? (i := 524) (by decide +kernel), by decide +kernel⟩
theorem q_525 : Cond.methodLink "ShipsThatMeet" 325 ⟨"ShipsThatMeet$Fleet", "firstAstray", "([I)I"⟩ ∈ ah_tb := List.mem_filter.mpr ⟨List.mem_of_getElem? (i := 525) (by decide +kernel), by decide +kernel⟩
theorem q_526 : Cond.instanceMethod ⟨"ShipsThatMeet$Fleet", "firstAstray", "([I)I"⟩ ∈ ah_tb := List.mem_filter.mpr ⟨List.mem_of_getElem? (i := 526) (by decide +kernel), by decide +kernel⟩
theorem q_527 : Cond.selects "ShipsThatMeet$Fleet" ⟨"ShipsThatMeet$Fleet", "firstAstray", "([I)I"⟩ ⟨"ShipsThatMeet$Fleet", "firstAstray", "([I)I"⟩ ∈ ah_tb := List.mem_filter.mpr ⟨List.mem_of_getElem? (i := 527) (by decide +kernel), by decide +kernel⟩
theorem q_528 : Cond.code ⟨"ShipsThatMeet$Fleet", "firstAstray", "([I)I"⟩ prog_4_method_25_code 3 (Option.some FieldType.int) ∈ ah_tb := List.mem_filter.mpr ⟨List.mem_of_getElem? (i := 528) (by decide +kernel), by decide +kernel⟩
theorem q_529 : Cond.methodLink "ShipsThatMeet$Fleet" 109 ⟨"ShipsThatMeet$Fleet", "isAstray", "(I[I)Z"⟩ ∈ ah_tb := List.mem_filter.mpr ⟨List.mem_of_getElem? (i := 529) (by decide +kernel), by decide +kernel⟩
theorem q_530 : Cond.instanceMethod ⟨"ShipsThatMeet$Fleet", "isAstray", "(I[I)Z"⟩ ∈ ah_tb := List.mem_filter.mpr ⟨List.mem_of_getElem? (i := 530) (by decide +kernel), by decide +kernel⟩
theorem q_531 : Cond.selects "ShipsThatMeet$Fleet" ⟨"ShipsThatMeet$Fleet", "isAstray", "(I[I)Z"⟩ ⟨"ShipsThatMeet$Fleet", "isAstray", "(I[I)Z"⟩ ∈ ah_tb := List.mem_filter.mpr ⟨List.mem_of_getElem? (i := 531) (by decide +kernel), by decide +kernel⟩
theorem q_532 : Cond.code ⟨"ShipsThatMeet$Fleet", "isAstray", "(I[I)Z"⟩ prog_4_method_23_code 3 (Option.some FieldType.boolean) ∈ ah_tb := List.mem_filter.mpr ⟨List.mem_of_getElem? (i := 532) (by decide +kernel), by decide +kernel⟩
theorem q_533 : Cond.methodLink "ShipsThatMeet" 171 ⟨"ShipsThatMeet", "firstOfWay", "(LShipsThatMeet$Fleet;[[I[II)I"⟩ ∈ ah_tb := List.mem_filter.mpr ⟨List.mem_of_getElem? (i := 533) (by decide +kernel), by decide +kernel⟩
theorem q_534 : Cond.static ⟨"ShipsThatMeet", "firstOfWay", "(LShipsThatMeet$Fleet;[[I[II)I"⟩ ∈ ah_tb := List.mem_filter.mpr ⟨List.mem_of_getElem? (i := 534) (by decide +kernel), by decide +kernel⟩
theorem q_535 : Cond.code ⟨"ShipsThatMeet", "firstOfWay", "(LShipsThatMeet$Fleet;[[I[II)I"⟩ prog_1_method_53_code 10 (Option.some FieldType.int) ∈ ah_tb := List.mem_filter.mpr ⟨List.mem_of_getElem? (i := 535) (by decide +kernel), by decide +kernel⟩
theorem q_536 : Cond.methodLink "ShipsThatMeet" 329 ⟨"ShipsThatMeet$Fleet", "lastMeeting", "([I)I"⟩ ∈ ah_tb := List.mem_filter.mpr ⟨List.mem_of_getElem? (i := 536) (by decide +kernel), by decide +kernel⟩
theorem q_537 : Cond.instanceMethod ⟨"ShipsThatMeet$Fleet", "lastMeeting", "([I)I"⟩ ∈ ah_tb := List.mem_filter.mpr ⟨List.mem_of_getElem? (i := 537) (by decide +kernel), by decide +kernel⟩
theorem q_538 : Cond.selects "ShipsThatMeet$Fleet" ⟨"ShipsThatMeet$Fleet", "lastMeeting", "([I)I"⟩ ⟨"ShipsThatMeet$Fleet", "lastMeeting", "([I)I"⟩ ∈ ah_tb := List.mem_filter.mpr ⟨List.mem_of_getElem? (i := 538) (by decide +kernel), by decide +kernel⟩
theorem q_539 : Cond.code ⟨"ShipsThatMeet$Fleet", "lastMeeting", "([I)I"⟩ prog_4_method_26_code 9 (Option.some FieldType.int) ∈ ah_tb := List.mem_filter.mpr ⟨List.mem_of_getElem? (i := 539) (by decide +kernel), by decide +kernel⟩
theorem q_540 : Cond.methodLink "ShipsThatMeet$Fleet" 113 ⟨"ShipsThatMeet$Fleet", "firstAstray", "([I)I"⟩ ∈ ah_tb := List.mem_filter.mpr ⟨List.mem_of_getElem? (i := 540) (by decide +kernel), by decide +kernel⟩
theorem q_541 : Cond.methodLink "ShipsThatMeet$Fleet" 117 ⟨"ShipsThatMeet$Fleet", "takeBack", "(IIIIII)V"⟩ ∈ ah_tb := List.mem_filter.mpr ⟨List.mem_of_getElem? (i := 541) (by decide +kernel), by decide +kernel⟩
theorem q_542 : Cond.instanceMethod ⟨"ShipsThatMeet$Fleet", "takeBack", "(IIIIII)V"⟩ ∈ ah_tb := List.mem_filter.mpr ⟨List.mem_of_getElem? (i := 542) (by decide +kernel), by decide +kernel⟩
theorem q_543 : Cond.selects "ShipsThatMeet$Fleet" ⟨"ShipsThatMeet$Fleet", "takeBack", "(IIIIII)V"⟩ ⟨"ShipsThatMeet$Fleet", "takeBack", "(IIIIII)V"⟩ ∈ ah_tb := List.mem_filter.mpr ⟨List.mem_of_getElem? (i := 543) (by decide +kernel), by decide +kernel⟩
theorem q_544 : Cond.code ⟨"ShipsThatMeet$Fleet", "takeBack", "(IIIIII)V"⟩ prog_4_method_15_code 7 none ∈ ah_tb := List.mem_filter.mpr ⟨List.mem_of_getElem? (i := 544) (by decide +kernel), by decide +kernel⟩
theorem q_545 : Cond.methodLinkNest "ShipsThatMeet$Fleet" 121 ⟨"ShipsThatMeet", "nameOfMeeting", "(II)I"⟩ "ShipsThatMeet" ∈ lw_tbl := List.mem_of_getElem? (i := 545) (by decide +kernel)
theorem q_546 : Cond.static ⟨"ShipsThatMeet", "nameOfMeeting", "(II)I"⟩ ∈ ah_tb := List.mem_filter.mpr ⟨List.mem_of_getElem? (i := 546) (by decide +kernel), by decide +kernel⟩
theorem q_547 : Cond.code ⟨"ShipsThatMeet", "nameOfMeeting", "(II)I"⟩ prog_1_method_47_code 2 (Option.some FieldType.int) ∈ ah_tb := List.mem_filter.mpr ⟨List.mem_of_getElem? (i := 547) (by decide +kernel), by decide +kernel⟩
theorem q_548 : Cond.methodLink "ShipsThatMeet" 310 ⟨"java/lang/Math", "min", "(II)I"⟩ ∈ ah_tb := List.mem_filter.mpr ⟨List.mem_of_getElem? (i := 548) (by decide +kernel), by decide +kernel⟩
theorem q_549 : Cond.static ⟨"java/lang/Math", "min", "(II)I"⟩ ∈ ah_tb := List.mem_filter.mpr ⟨List.mem_of_getElem? (i := 549) (by decide +kernel), by decide +kernel⟩
theorem q_550 : Cond.code ⟨"java/lang/Math", "min", "(II)I"⟩ prog_18_method_69_code 2 (Option.some FieldType.int) ∈ ah_tb := List.mem_filter.mpr ⟨List.mem_of_getElem? (i := 550) (by decide +kernel), by decide +kernel⟩
theorem q_551 : Cond.methodLink "ShipsThatMeet" 315 ⟨"java/lang/Math", "max", "(II)I"⟩ ∈ ah_tb := List.mem_filter.mpr ⟨List.mem_of_getElem? (i := 551) (by decide +kernel), by decide +kernel⟩
theorem q_552 : Cond.static ⟨"java/lang/Math", "max", "(II)I"⟩ ∈ ah_tb := List.mem_filter.mpr ⟨List.mem_of_getElem? (i := 552) (by decide +kernel), by decide +kernel⟩
theorem q_553 : Cond.code ⟨"java/lang/Math", "max", "(II)I"⟩ prog_18_method_65_code 2 (Option.some FieldType.int) ∈ ah_tb := List.mem_filter.mpr ⟨List.mem_of_getElem? (i := 553) (by decide +kernel), by decide +kernel⟩
theorem q_554 : Cond.methodLink "ShipsThatMeet" 332 ⟨"ShipsThatMeet$Fleet", "astray", "([I)I"⟩ ∈ ah_tb := List.mem_filter.mpr ⟨List.mem_of_getElem? (i := 554) (by decide +kernel), by decide +kernel⟩
theorem q_555 : Cond.instanceMethod ⟨"ShipsThatMeet$Fleet", "astray", "([I)I"⟩ ∈ ah_tb := List.mem_filter.mpr ⟨List.mem_of_getElem? (i := 555) (by decide +kernel), by decide +kernel⟩
theorem q_556 : Cond.selects "ShipsThatMeet$Fleet" ⟨"ShipsThatMeet$Fleet", "astray", "([I)I"⟩ ⟨"ShipsThatMeet$Fleet", "astray", "([I)I"⟩ ∈ ah_tb := List.mem_filter.mpr ⟨List.mem_of_getElem? (i := 556) (by decide +kernel), by decide +kernel⟩
theorem q_557 : Cond.code ⟨"ShipsThatMeet$Fleet", "astray", "([I)I"⟩ prog_4_method_24_code 4 (Option.some FieldType.int) ∈ ah_tb := List.mem_filter.mpr ⟨List.mem_of_getElem? (i := 557) (by decide +kernel), by decide +kernel⟩
theorem q_558 : Cond.methodLink "ShipsThatMeet" 335 ⟨"ShipsThatMeet$Fleet", "fillGivers", "([I)V"⟩ ∈ ah_tb := List.mem_filter.mpr ⟨List.mem_of_getElem? (i := 558) (by decide +kernel), by decide +kernel⟩
theorem q_559 : Cond.instanceMethod ⟨"ShipsThatMeet$Fleet", "fillGivers", "([I)V"⟩ ∈ ah_tb := List.mem_filter.mpr ⟨List.mem_of_getElem? (i := 559) (by decide +kernel), by decide +kernel⟩
theorem q_560 : Cond.selects "ShipsThatMeet$Fleet" ⟨"ShipsThatMeet$Fleet", "fillGivers", "([I)V"⟩ ⟨"ShipsThatMeet$Fleet", "fillGivers", "([I)V"⟩ ∈ ah_tb := List.mem_filter.mpr ⟨List.mem_of_getElem? (i := 560) (by decide +kernel), by decide +kernel⟩
theorem q_561 : Cond.code ⟨"ShipsThatMeet$Fleet", "fillGivers", "([I)V"⟩ prog_4_method_11_code 3 none ∈ ah_tb := List.mem_filter.mpr ⟨List.mem_of_getElem? (i := 561) (by decide +kernel), by decide +kernel⟩
theorem q_562 : Cond.methodLink "ShipsThatMeet" 339 ⟨"ShipsThatMeet$Fleet", "exchange", "(IIII)V"⟩ ∈ ah_tb := List.mem_filter.mpr ⟨List.mem_of_getElem? (i := 562) (by decide +kernel), by decide +kernel⟩
theorem q_563 : Cond.methodLink "ShipsThatMeet" 343 ⟨"ShipsThatMeet$Fleet", "takeBack", "(IIIIII)V"⟩ ∈ ah_tb := List.mem_filter.mpr ⟨List.mem_of_getElem? (i := 563) (by decide +kernel), by decide +kernel⟩
theorem q_564 : Cond.methodLink "ShipsThatMeet" 191 ⟨"ShipsThatMeet", "nameOfMeeting", "(II)I"⟩ ∈ ah_tb := List.mem_filter.mpr ⟨List.mem_of_getElem? (i := 564) (by decide +kernel), by decide +kernel⟩
theorem q_565 : Cond.methodLink "ShipsThatMeetLaw" 65 ⟨"ShipsThatMeet", "crews", "(I)I"⟩ ∈ ah_tb := List.mem_filter.mpr ⟨List.mem_of_getElem? (i := 565) (by decide +kernel), by decide +kernel⟩
theorem q_566 : Cond.instanceMethod ⟨"ShipsThatMeet", "crews", "(I)I"⟩ ∈ ah_tb := List.mem_filter.mpr ⟨List.mem_of_getElem? (i := 566) (by decide +kernel), by decide +kernel⟩
theorem q_567 : Cond.selects "ShipsThatMeet" ⟨"ShipsThatMeet", "crews", "(I)I"⟩ ⟨"ShipsThatMeet", "crews", "(I)I"⟩ ∈ ah_tb := List.mem_filter.mpr ⟨List.mem_of_getElem? (i := 567) (by decide +kernel), by decide +kernel⟩
theorem q_568 : Cond.code ⟨"ShipsThatMeet", "crews", "(I)I"⟩ prog_1_method_12_code 5 (Option.some FieldType.int) ∈ ah_tb := List.mem_filter.mpr ⟨List.mem_of_getElem? (i := 568) (by decide +kernel), by decide +kernel⟩
theorem q_569 : Cond.methodLink "ShipsThatMeet" 175 ⟨"ShipsThatMeet", "tellsOfEachMan", "(LShipsThatMeet$Shelf;)Z"⟩ ∈ ah_tb := List.mem_filter.mpr ⟨List.mem_of_getElem? (i := 569) (by decide +kernel), by decide +kernel⟩
theorem q_571 : Cond.instanceMethod ⟨"ShipsThatMeet", "tellsOfEachMan", "(LShipsThatMeet$Shelf;)Z"⟩ ∈ ah_tb := List.mem_filter.mpr ⟨List.mem_of_getElem? (i := 571) (by decide +kernel), by decide +kernel⟩
theorem q_572 : Cond.code ⟨"ShipsThatMeet", "tellsOfEachMan", "(LShipsThatMeet$Shelf;)Z"⟩ prog_1_method_41_code 3 (Option.some FieldType.boolean) ∈ ah_tb := List.mem_filter.mpr ⟨List.mem_of_getElem? (i := 572) (by decide +kernel), by decide +kernel⟩
theorem q_573 : Cond.methodLink "ShipsThatMeetLaw" 69 ⟨"ShipsThatMeet", "sailed", "(I)I"⟩ ∈ ah_tb := List.mem_filter.mpr ⟨List.mem_of_getElem? (i := 573) (by decide +kernel), by decide +kernel⟩
theorem q_574 : Cond.instanceMethod ⟨"ShipsThatMeet", "sailed", "(I)I"⟩ ∈ ah_tb := List.mem_filter.mpr ⟨List.mem_of_getElem? (i := 574) (by decide +kernel), by decide +kernel⟩
theorem q_575 : Cond.selects "ShipsThatMeet" ⟨"ShipsThatMeet", "sailed", "(I)I"⟩ ⟨"ShipsThatMeet", "sailed", "(I)I"⟩ ∈ ah_tb := List.mem_filter.mpr ⟨List.mem_of_getElem? (i := 575) (by decide +kernel), by decide +kernel⟩
theorem q_576 : Cond.code ⟨"ShipsThatMeet", "sailed", "(I)I"⟩ prog_1_method_13_code 2 (Option.some FieldType.int) ∈ ah_tb := List.mem_filter.mpr ⟨List.mem_of_getElem? (i := 576) (by decide +kernel), by decide +kernel⟩
theorem q_577 : Cond.methodLink "ShipsThatMeetLaw" 73 ⟨"ShipsThatMeet", "never", "()I"⟩ ∈ ah_tb := List.mem_filter.mpr ⟨List.mem_of_getElem? (i := 577) (by decide +kernel), by decide +kernel⟩
theorem q_578 : Cond.instanceMethod ⟨"ShipsThatMeet", "never", "()I"⟩ ∈ ah_tb := List.mem_filter.mpr ⟨List.mem_of_getElem? (i := 578) (by decide +kernel), by decide +kernel⟩
theorem q_579 : Cond.selects "ShipsThatMeet" ⟨"ShipsThatMeet", "never", "()I"⟩ ⟨"ShipsThatMeet", "never", "()I"⟩ ∈ ah_tb := List.mem_filter.mpr ⟨List.mem_of_getElem? (i := 579) (by decide +kernel), by decide +kernel⟩
theorem q_580 : Cond.code ⟨"ShipsThatMeet", "never", "()I"⟩ prog_1_method_14_code 4 (Option.some FieldType.int) ∈ ah_tb := List.mem_filter.mpr ⟨List.mem_of_getElem? (i := 580) (by decide +kernel), by decide +kernel⟩
theorem q_581 : Cond.methodLink "ShipsThatMeetLaw" 78 ⟨"ShipsThatMeet", "mixed", "()I"⟩ ∈ ah_tb := List.mem_filter.mpr ⟨List.mem_of_getElem? (i := 581) (by decide +kernel), by decide +kernel⟩
theorem q_582 : Cond.instanceMethod ⟨"ShipsThatMeet", "mixed", "()I"⟩ ∈ ah_tb := List.mem_filter.mpr ⟨List.mem_of_getElem? (i := 582) (by decide +kernel), by decide +kernel⟩
theorem q_583 : Cond.selects "ShipsThatMeet" ⟨"ShipsThatMeet", "mixed", "()I"⟩ ⟨"ShipsThatMeet", "mixed", "()I"⟩ ∈ ah_tb := List.mem_filter.mpr ⟨List.mem_of_getElem? (i := 583) (by decide +kernel), by decide +kernel⟩
theorem q_584 : Cond.code ⟨"ShipsThatMeet", "mixed", "()I"⟩ prog_1_method_15_code 1 (Option.some FieldType.int) ∈ ah_tb := List.mem_filter.mpr ⟨List.mem_of_getElem? (i := 584) (by decide +kernel), by decide +kernel⟩
theorem q_585 : Cond.methodLink "ShipsThatMeet" 185 ⟨"ShipsThatMeet$Fleet", "mixedPairs", "()I"⟩ ∈ ah_tb := List.mem_filter.mpr ⟨List.mem_of_getElem? (i := 585) (by decide +kernel), by decide +kernel⟩
theorem q_586 : Cond.instanceMethod ⟨"ShipsThatMeet$Fleet", "mixedPairs", "()I"⟩ ∈ ah_tb := List.mem_filter.mpr ⟨List.mem_of_getElem? (i := 586) (by decide +kernel), by decide +kernel⟩
theorem q_587 : Cond.selects "ShipsThatMeet$Fleet" ⟨"ShipsThatMeet$Fleet", "mixedPairs", "()I"⟩ ⟨"ShipsThatMeet$Fleet", "mixedPairs", "()I"⟩ ∈ ah_tb := List.mem_filter.mpr ⟨List.mem_of_getElem? (i := 587) (by decide +kernel), by decide +kernel⟩
theorem q_588 : Cond.code ⟨"ShipsThatMeet$Fleet", "mixedPairs", "()I"⟩ prog_4_method_20_code 4 (Option.some FieldType.int) ∈ ah_tb := List.mem_filter.mpr ⟨List.mem_of_getElem? (i := 588) (by decide +kernel), by decide +kernel⟩
theorem q_589 : Cond.methodLink "ShipsThatMeetLaw" 82 ⟨"ShipsThatMeet", "mixesMost", "()I"⟩ ∈ ah_tb := List.mem_filter.mpr ⟨List.mem_of_getElem? (i := 589) (by decide +kernel), by decide +kernel⟩
theorem q_590 : Cond.instanceMethod ⟨"ShipsThatMeet", "mixesMost", "()I"⟩ ∈ ah_tb := List.mem_filter.mpr ⟨List.mem_of_getElem? (i := 590) (by decide +kernel), by decide +kernel⟩
theorem q_591 : Cond.selects "ShipsThatMeet" ⟨"ShipsThatMeet", "mixesMost", "()I"⟩ ⟨"ShipsThatMeet", "mixesMost", "()I"⟩ ∈ ah_tb := List.mem_filter.mpr ⟨List.mem_of_getElem? (i := 591) (by decide +kernel), by decide +kernel⟩
theorem q_592 : Cond.code ⟨"ShipsThatMeet", "mixesMost", "()I"⟩ prog_1_method_16_code 6 (Option.some FieldType.int) ∈ ah_tb := List.mem_filter.mpr ⟨List.mem_of_getElem? (i := 592) (by decide +kernel), by decide +kernel⟩
theorem q_593 : Cond.methodLink "ShipsThatMeetLaw" 86 ⟨"ShipsThatMeet", "lacks", "(I)I"⟩ ∈ ah_tb := List.mem_filter.mpr ⟨List.mem_of_getElem? (i := 593) (by decide +kernel), by decide +kernel⟩
theorem q_594 : Cond.instanceMethod ⟨"ShipsThatMeet", "lacks", "(I)I"⟩ ∈ ah_tb := List.mem_filter.mpr ⟨List.mem_of_getElem? (i := 594) (by decide +kernel), by decide +kernel⟩
theorem q_595 : Cond.selects "ShipsThatMeet" ⟨"ShipsThatMeet", "lacks", "(I)I"⟩ ⟨"ShipsThatMeet", "lacks", "(I)I"⟩ ∈ ah_tb := List.mem_filter.mpr ⟨List.mem_of_getElem? (i := 595) (by decide +kernel), by decide +kernel⟩
theorem q_596 : Cond.code ⟨"ShipsThatMeet", "lacks", "(I)I"⟩ prog_1_method_17_code 4 (Option.some FieldType.int) ∈ ah_tb := List.mem_filter.mpr ⟨List.mem_of_getElem? (i := 596) (by decide +kernel), by decide +kernel⟩
theorem q_597 : Cond.methodLink "ShipsThatMeet" 194 ⟨"ShipsThatMeet$Fleet", "hasTrade", "(II)Z"⟩ ∈ ah_tb := List.mem_filter.mpr ⟨List.mem_of_getElem? (i := 597) (by decide +kernel), by decide +kernel⟩
theorem q_598 : Cond.instanceMethod ⟨"ShipsThatMeet$Fleet", "hasTrade", "(II)Z"⟩ ∈ ah_tb := List.mem_filter.mpr ⟨List.mem_of_getElem? (i := 598) (by decide +kernel), by decide +kernel⟩
theorem q_599 : Cond.selects "ShipsThatMeet$Fleet" ⟨"ShipsThatMeet$Fleet", "hasTrade", "(II)Z"⟩ ⟨"ShipsThatMeet$Fleet", "hasTrade", "(II)Z"⟩ ∈ ah_tb := List.mem_filter.mpr ⟨List.mem_of_getElem? (i := 599) (by decide +kernel), by decide +kernel⟩
theorem q_600 : Cond.code ⟨"ShipsThatMeet$Fleet", "hasTrade", "(II)Z"⟩ prog_4_method_19_code 4 (Option.some FieldType.boolean) ∈ ah_tb := List.mem_filter.mpr ⟨List.mem_of_getElem? (i := 600) (by decide +kernel), by decide +kernel⟩
theorem q_601 : Cond.methodLink "ShipsThatMeetLaw" 90 ⟨"ShipsThatMeet", "letter", "(II)I"⟩ ∈ ah_tb := List.mem_filter.mpr ⟨List.mem_of_getElem? (i := 601) (by decide +kernel), by decide +kernel⟩
theorem q_602 : Cond.instanceMethod ⟨"ShipsThatMeet", "letter", "(II)I"⟩ ∈ ah_tb := List.mem_filter.mpr ⟨List.mem_of_getElem? (i := 602) (by decide +kernel), by decide +kernel⟩
theorem q_603 : Cond.selects "ShipsThatMeet" ⟨"ShipsThatMeet", "letter", "(II)I"⟩ ⟨"ShipsThatMeet", "letter", "(II)I"⟩ ∈ ah_tb := List.mem_filter.mpr ⟨List.mem_of_getElem? (i := 603) (by decide +kernel), by decide +kernel⟩
theorem q_604 : Cond.code ⟨"ShipsThatMeet", "letter", "(II)I"⟩ prog_1_method_18_code 7 (Option.some FieldType.int) ∈ ah_tb := List.mem_filter.mpr ⟨List.mem_of_getElem? (i := 604) (by decide +kernel), by decide +kernel⟩
theorem q_605 : Cond.methodLink "ShipsThatMeet" 197 ⟨"ShipsThatMeet$Fleet", "withShipmates", "(I)I"⟩ ∈ ah_tb := List.mem_filter.mpr ⟨List.mem_of_getElem? (i := 605) (by decide +kernel), by decide +kernel⟩
theorem q_606 : Cond.instanceMethod ⟨"ShipsThatMeet$Fleet", "withShipmates", "(I)I"⟩ ∈ ah_tb := List.mem_filter.mpr ⟨List.mem_of_getElem? (i := 606) (by decide +kernel), by decide +kernel⟩
theorem q_607 : Cond.selects "ShipsThatMeet$Fleet" ⟨"ShipsThatMeet$Fleet", "withShipmates", "(I)I"⟩ ⟨"ShipsThatMeet$Fleet", "withShipmates", "(I)I"⟩ ∈ ah_tb := List.mem_filter.mpr ⟨List.mem_of_getElem? (i := 607) (by decide +kernel), by decide +kernel⟩
theorem q_608 : Cond.code ⟨"ShipsThatMeet$Fleet", "withShipmates", "(I)I"⟩ prog_4_method_21_code 4 (Option.some FieldType.int) ∈ ah_tb := List.mem_filter.mpr ⟨List.mem_of_getElem? (i := 608) (by decide +kernel), by decide +kernel⟩
theorem q_609 : Cond.methodLink "ShipsThatMeetLaw" 94 ⟨"ShipsThatMeet", "law", "(IIII)I"⟩ ∈ ah_tb := List.mem_filter.mpr ⟨List.mem_of_getElem? (i := 609) (by decide +kernel), by decide +kernel⟩
theorem q_610 : Cond.instanceMethod ⟨"ShipsThatMeet", "law", "(IIII)I"⟩ ∈ ah_tb := List.mem_filter.mpr ⟨List.mem_of_getElem? (i := 610) (by decide +kernel), by decide +kernel⟩
theorem q_611 : Cond.selects "ShipsThatMeet" ⟨"ShipsThatMeet", "law", "(IIII)I"⟩ ⟨"ShipsThatMeet", "law", "(IIII)I"⟩ ∈ ah_tb := List.mem_filter.mpr ⟨List.mem_of_getElem? (i := 611) (by decide +kernel), by decide +kernel⟩
theorem q_612 : Cond.code ⟨"ShipsThatMeet", "law", "(IIII)I"⟩ prog_1_method_19_code 9 (Option.some FieldType.int) ∈ ah_tb := List.mem_filter.mpr ⟨List.mem_of_getElem? (i := 612) (by decide +kernel), by decide +kernel⟩
theorem q_613 : Cond.methodLink "ShipsThatMeet" 200 ⟨"ShipsThatMeet", "isKindAndFigure", "(II)Z"⟩ ∈ ah_tb := List.mem_filter.mpr ⟨List.mem_of_getElem? (i := 613) (by decide +kernel), by decide +kernel⟩
theorem q_614 : Cond.methodLink "ShipsThatMeet" 203 ⟨"ShipsThatMeet", "captainOf", "(II)LShipsThatMeet$Captain;"⟩ ∈ ah_tb := List.mem_filter.mpr ⟨List.mem_of_getElem? (i := 614) (by decide +kernel), by decide +kernel⟩
theorem q_615 : Cond.methodLink "ShipsThatMeet" 207 ⟨"ShipsThatMeet$Fleet", "setAllCaptains", "(LShipsThatMeet$Captain;)V"⟩ ∈ ah_tb := List.mem_filter.mpr ⟨List.mem_of_getElem? (i := 615) (by decide +kernel), by decide +kernel⟩
theorem q_616 : Cond.instanceMethod ⟨"ShipsThatMeet$Fleet", "setAllCaptains", "(LShipsThatMeet$Captain;)V"⟩ ∈ ah_tb := List.mem_filter.mpr ⟨List.mem_of_getElem? (i := 616) (by decide +kernel), by decide +kernel⟩
theorem q_617 : Cond.selects "ShipsThatMeet$Fleet" ⟨"ShipsThatMeet$Fleet", "setAllCaptains", "(LShipsThatMeet$Captain;)V"⟩ ⟨"ShipsThatMeet$Fleet", "setAllCaptains", "(LShipsThatMeet$Captain;)V"⟩ ∈ ah_tb := List.mem_filter.mpr ⟨List.mem_of_getElem? (i := 617) (by decide +kernel), by decide +kernel⟩
theorem q_618 : Cond.code ⟨"ShipsThatMeet$Fleet", "setAllCaptains", "(LShipsThatMeet$Captain;)V"⟩ prog_4_method_22_code 3 none ∈ ah_tb := List.mem_filter.mpr ⟨List.mem_of_getElem? (i := 618) (by decide +kernel), by decide +kernel⟩
theorem q_619 : Cond.methodLink "ShipsThatMeetLaw" 99 ⟨"ShipsThatMeet", "together", "(III)I"⟩ ∈ ah_tb := List.mem_filter.mpr ⟨List.mem_of_getElem? (i := 619) (by decide +kernel), by decide +kernel⟩
theorem q_620 : Cond.instanceMethod ⟨"ShipsThatMeet", "together", "(III)I"⟩ ∈ ah_tb := List.mem_filter.mpr ⟨List.mem_of_getElem? (i := 620) (by decide +kernel), by decide +kernel⟩
theorem q_621 : Cond.selects "ShipsThatMeet" ⟨"ShipsThatMeet", "together", "(III)I"⟩ ⟨"ShipsThatMeet", "together", "(III)I"⟩ ∈ ah_tb := List.mem_filter.mpr ⟨List.mem_of_getElem? (i := 621) (by decide +kernel), by decide +kernel⟩
theorem q_622 : Cond.code ⟨"ShipsThatMeet", "together", "(III)I"⟩ prog_1_method_20_code 7 (Option.some FieldType.int) ∈ ah_tb := List.mem_filter.mpr ⟨List.mem_of_getElem? (i := 622) (by decide +kernel), by decide +kernel⟩
theorem q_623 : Cond.methodLink "ShipsThatMeetLaw" 103 ⟨"ShipsThatMeet", "moved", "(II)I"⟩ ∈ ah_tb := List.mem_filter.mpr ⟨List.mem_of_getElem? (i := 623) (by decide +kernel), by decide +kernel⟩
theorem q_624 : Cond.instanceMethod ⟨"ShipsThatMeet", "moved", "(II)I"⟩ ∈ ah_tb := List.mem_filter.mpr ⟨List.mem_of_getElem? (i := 624) (by decide +kernel), by decide +kernel⟩
theorem q_625 : Cond.selects "ShipsThatMeet" ⟨"ShipsThatMeet", "moved", "(II)I"⟩ ⟨"ShipsThatMeet", "moved", "(II)I"⟩ ∈ ah_tb := List.mem_filter.mpr ⟨List.mem_of_getElem? (i := 625) (by decide +kernel), by decide +kernel⟩
theorem q_626 : Cond.code ⟨"ShipsThatMeet", "moved", "(II)I"⟩ prog_1_method_21_code 8 (Option.some FieldType.int) ∈ ah_tb := List.mem_filter.mpr ⟨List.mem_of_getElem? (i := 626) (by decide +kernel), by decide +kernel⟩
theorem q_627 : Cond.methodLink "ShipsThatMeetLaw" 107 ⟨"ShipsThatMeet", "seeded", "(III)I"⟩ ∈ ah_tb := List.mem_filter.mpr ⟨List.mem_of_getElem? (i := 627) (by decide +kernel), by decide +kernel⟩
theorem q_628 : Cond.instanceMethod ⟨"ShipsThatMeet", "seeded", "(III)I"⟩ ∈ ah_tb := List.mem_filter.mpr ⟨List.mem_of_getElem? (i := 628) (by decide +kernel), by decide +kernel⟩
theorem q_629 : Cond.selects "ShipsThatMeet" ⟨"ShipsThatMeet", "seeded", "(III)I"⟩ ⟨"ShipsThatMeet", "seeded", "(III)I"⟩ ∈ ah_tb := List.mem_filter.mpr ⟨List.mem_of_getElem? (i := 629) (by decide +kernel), by decide +kernel⟩
theorem q_630 : Cond.code ⟨"ShipsThatMeet", "seeded", "(III)I"⟩ prog_1_method_22_code 8 (Option.some FieldType.int) ∈ ah_tb := List.mem_filter.mpr ⟨List.mem_of_getElem? (i := 630) (by decide +kernel), by decide +kernel⟩
theorem q_631 : Cond.methodLink "ShipsThatMeet" 217 ⟨"ShipsThatMeet", "nextSeed", "(I)I"⟩ ∈ ah_tb := List.mem_filter.mpr ⟨List.mem_of_getElem? (i := 631) (by decide +kernel), by decide +kernel⟩
theorem q_632 : Cond.static ⟨"ShipsThatMeet", "nextSeed", "(I)I"⟩ ∈ ah_tb := List.mem_filter.mpr ⟨List.mem_of_getElem? (i := 632) (by decide +kernel), by decide +kernel⟩
theorem q_633 : Cond.code ⟨"ShipsThatMeet", "nextSeed", "(I)I"⟩ prog_1_method_54_code 1 (Option.some FieldType.int) ∈ ah_tb := List.mem_filter.mpr ⟨List.mem_of_getElem? (i := 633) (by decide +kernel), by decide +kernel⟩
theorem q_634 : Cond.constant "ShipsThatMeet" 347 (1103515245 : Int32) ∈ ah_tb := List.mem_filter.mpr ⟨List.mem_of_getElem? (i := 634) (by decide +kernel), by decide +kernel⟩
theorem q_635 : Cond.methodLink "ShipsThatMeet" 220 ⟨"ShipsThatMeet", "drawBelow", "(II)I"⟩ ∈ ah_tb := List.mem_filter.mpr ⟨List.mem_of_getElem? (i := 635) (by decide +kernel), by decide +kernel⟩
theorem q_636 : Cond.static ⟨"ShipsThatMeet", "drawBelow", "(II)I"⟩ ∈ ah_tb := List.mem_filter.mpr ⟨List.mem_of_getElem? (i := 636) (by decide +kernel), by decide +kernel⟩
theorem q_637 : Cond.code ⟨"ShipsThatMeet", "drawBelow", "(II)I"⟩ prog_1_method_55_code 2 (Option.some FieldType.int) ∈ ah_tb := List.mem_filter.mpr ⟨List.mem_of_getElem? (i := 637) (by decide +kernel), by decide +kernel⟩
theorem q_638 : Cond.constant "ShipsThatMeet" 348 (2147483647 : Int32) ∈ ah_tb := List.mem_filter.mpr ⟨List.mem_of_getElem? (i := 638) (by decide +kernel), by decide +kernel⟩
theorem q_639 : Cond.constant "ShipsThatMeet" 349 (65536 : Int32) ∈ ah_tb := List.mem_filter.mpr ⟨List.mem_of_getElem? (i := 639) (by decide +kernel), by decide +kernel⟩
theorem q_640 : Cond.methodLink "ShipsThatMeetLaw" 111 ⟨"ShipsThatMeet", "judge", "(I)I"⟩ ∈ ah_tb := List.mem_filter.mpr ⟨List.mem_of_getElem? (i := 640) (by decide +kernel), by decide +kernel⟩
theorem q_641 : Cond.instanceMethod ⟨"ShipsThatMeet", "judge", "(I)I"⟩ ∈ ah_tb := List.mem_filter.mpr ⟨List.mem_of_getElem? (i := 641) (by decide +kernel), by decide +kernel⟩
theorem q_642 : Cond.selects "ShipsThatMeet" ⟨"ShipsThatMeet", "judge", "(I)I"⟩ ⟨"ShipsThatMeet", "judge", "(I)I"⟩ ∈ ah_tb := List.mem_filter.mpr ⟨List.mem_of_getElem? (i := 642) (by decide +kernel), by decide +kernel⟩
theorem q_643 : Cond.code ⟨"ShipsThatMeet", "judge", "(I)I"⟩ prog_1_method_23_code 6 (Option.some FieldType.int) ∈ ah_tb := List.mem_filter.mpr ⟨List.mem_of_getElem? (i := 643) (by decide +kernel), by decide +kernel⟩
theorem q_644 : Cond.methodLink "ShipsThatMeet" 226 ⟨"ShipsThatMeet", "faultOfGifts", "(LShipsThatMeet$Fleet;LShipsThatMeet$Shelf;I)I"⟩ ∈ ah_tb := List.mem_filter.mpr ⟨List.mem_of_getElem? (i := 644) (by decide +kernel), by decide +kernel⟩
theorem q_645 : Cond.static ⟨"ShipsThatMeet", "faultOfGifts", "(LShipsThatMeet$Fleet;LShipsThatMeet$Shelf;I)I"⟩ ∈ ah_tb := List.mem_filter.mpr ⟨List.mem_of_getElem? (i := 645) (by decide +kernel), by decide +kernel⟩
theorem q_646 : Cond.code ⟨"ShipsThatMeet", "faultOfGifts", "(LShipsThatMeet$Fleet;LShipsThatMeet$Shelf;I)I"⟩ prog_1_method_56_code 5 (Option.some FieldType.int) ∈ ah_tb := List.mem_filter.mpr ⟨List.mem_of_getElem? (i := 646) (by decide +kernel), by decide +kernel⟩
theorem q_647 : Cond.methodLink "ShipsThatMeetLaw" 115 ⟨"ShipsThatMeet", "image", "()I"⟩ ∈ ah_tb := List.mem_filter.mpr ⟨List.mem_of_getElem? (i := 647) (by decide +kernel), by decide +kernel⟩
theorem q_648 : Cond.instanceMethod ⟨"ShipsThatMeet", "image", "()I"⟩ ∈ ah_tb := List.mem_filter.mpr ⟨List.mem_of_getElem? (i := 648) (by decide +kernel), by decide +kernel⟩
theorem q_649 : Cond.selects "ShipsThatMeet" ⟨"ShipsThatMeet", "image", "()I"⟩ ⟨"ShipsThatMeet", "image", "()I"⟩ ∈ ah_tb := List.mem_filter.mpr ⟨List.mem_of_getElem? (i := 649) (by decide +kernel), by decide +kernel⟩
theorem q_650 : Cond.code ⟨"ShipsThatMeet", "image", "()I"⟩ prog_1_method_24_code 1 (Option.some FieldType.int) ∈ ah_tb := List.mem_filter.mpr ⟨List.mem_of_getElem? (i := 650) (by decide +kernel), by decide +kernel⟩
theorem q_651 : Cond.methodLink "ShipsThatMeetLaw" 119 ⟨"ShipsThatMeet", "restore", "()I"⟩ ∈ ah_tb := List.mem_filter.mpr ⟨List.mem_of_getElem? (i := 651) (by decide +kernel), by decide +kernel⟩
theorem q_652 : Cond.instanceMethod ⟨"ShipsThatMeet", "restore", "()I"⟩ ∈ ah_tb := List.mem_filter.mpr ⟨List.mem_of_getElem? (i := 652) (by decide +kernel), by decide +kernel⟩
theorem q_653 : Cond.selects "ShipsThatMeet" ⟨"ShipsThatMeet", "restore", "()I"⟩ ⟨"ShipsThatMeet", "restore", "()I"⟩ ∈ ah_tb := List.mem_filter.mpr ⟨List.mem_of_getElem? (i := 653) (by decide +kernel), by decide +kernel⟩
theorem q_654 : Cond.code ⟨"ShipsThatMeet", "restore", "()I"⟩ prog_1_method_25_code 1 (Option.some FieldType.int) ∈ ah_tb := List.mem_filter.mpr ⟨List.mem_of_getElem? (i := 654) (by decide +kernel), by decide +kernel⟩
theorem q_655 : Cond.methodLink "ShipsThatMeetLaw" 123 ⟨"ShipsThatMeet", "count", "(I)I"⟩ ∈ ah_tb := List.mem_filter.mpr ⟨List.mem_of_getElem? (i := 655) (by decide +kernel), by decide +kernel⟩
theorem q_656 : Cond.instanceMethod ⟨"ShipsThatMeet", "count", "(I)I"⟩ ∈ ah_tb := List.mem_filter.mpr ⟨List.mem_of_getElem? (i := 656) (by decide +kernel), by decide +kernel⟩
theorem q_657 : Cond.selects "ShipsThatMeet" ⟨"ShipsThatMeet", "count", "(I)I"⟩ ⟨"ShipsThatMeet", "count", "(I)I"⟩ ∈ ah_tb := List.mem_filter.mpr ⟨List.mem_of_getElem? (i := 657) (by decide +kernel), by decide +kernel⟩
theorem q_658 : Cond.code ⟨"ShipsThatMeet", "count", "(I)I"⟩ prog_1_method_26_code 2 (Option.some FieldType.int) ∈ ah_tb := List.mem_filter.mpr ⟨List.mem_of_getElem? (i := 658) (by decide +kernel), by decide +kernel⟩
theorem q_659 : Cond.methodLink "ShipsThatMeet" 232 ⟨"ShipsThatMeet$Fleet", "shipsWithoutMen", "()I"⟩ ∈ ah_tb := List.mem_filter.mpr ⟨List.mem_of_getElem? (i := 659) (by decide +kernel), by decide +kernel⟩
theorem q_660 : Cond.instanceMethod ⟨"ShipsThatMeet$Fleet", "shipsWithoutMen", "()I"⟩ ∈ ah_tb := List.mem_filter.mpr ⟨List.mem_of_getElem? (i := 660) (by decide +kernel), by decide +kernel⟩
theorem q_661 : Cond.selects "ShipsThatMeet$Fleet" ⟨"ShipsThatMeet$Fleet", "shipsWithoutMen", "()I"⟩ ⟨"ShipsThatMeet$Fleet", "shipsWithoutMen", "()I"⟩ ∈ ah_tb := List.mem_filter.mpr ⟨List.mem_of_getElem? (i := 661) (by decide +kernel), by decide +kernel⟩
theorem q_662 : Cond.code ⟨"ShipsThatMeet$Fleet", "shipsWithoutMen", "()I"⟩ prog_4_method_27_code 3 (Option.some FieldType.int) ∈ ah_tb := List.mem_filter.mpr ⟨List.mem_of_getElem? (i := 662) (by decide +kernel), by decide +kernel⟩
theorem q_663 : Cond.methodLink "ShipsThatMeet" 235 ⟨"ShipsThatMeet$Fleet", "mostAboard", "()I"⟩ ∈ ah_tb := List.mem_filter.mpr ⟨List.mem_of_getElem? (i := 663) (by decide +kernel), by decide +kernel⟩
theorem q_664 : Cond.instanceMethod ⟨"ShipsThatMeet$Fleet", "mostAboard", "()I"⟩ ∈ ah_tb := List.mem_filter.mpr ⟨List.mem_of_getElem? (i := 664) (by decide +kernel), by decide +kernel⟩
theorem q_665 : Cond.selects "ShipsThatMeet$Fleet" ⟨"ShipsThatMeet$Fleet", "mostAboard", "()I"⟩ ⟨"ShipsThatMeet$Fleet", "mostAboard", "()I"⟩ ∈ ah_tb := List.mem_filter.mpr ⟨List.mem_of_getElem? (i := 665) (by decide +kernel), by decide +kernel⟩
theorem q_666 : Cond.code ⟨"ShipsThatMeet$Fleet", "mostAboard", "()I"⟩ prog_4_method_28_code 3 (Option.some FieldType.int) ∈ ah_tb := List.mem_filter.mpr ⟨List.mem_of_getElem? (i := 666) (by decide +kernel), by decide +kernel⟩
theorem q_667 : Cond.methodLink "ShipsThatMeet$Fleet" 125 ⟨"java/lang/Math", "max", "(II)I"⟩ ∈ ah_tb := List.mem_filter.mpr ⟨List.mem_of_getElem? (i := 667) (by decide +kernel), by decide +kernel⟩
theorem q_668 : Cond.methodLink "ShipsThatMeetLaw" 127 ⟨"ShipsThatMeet", "keep", "(IIII)I"⟩ ∈ ah_tb := List.mem_filter.mpr ⟨List.mem_of_getElem? (i := 668) (by decide +kernel), by decide +kernel⟩
theorem q_669 : Cond.instanceMethod ⟨"ShipsThatMeet", "keep", "(IIII)I"⟩ ∈ ah_tb := List.mem_filter.mpr ⟨List.mem_of_getElem? (i := 669) (by decide +kernel), by decide +kernel⟩
theorem q_670 : Cond.selects "ShipsThatMeet" ⟨"ShipsThatMeet", "keep", "(IIII)I"⟩ ⟨"ShipsThatMeet", "keep", "(IIII)I"⟩ ∈ ah_tb := List.mem_filter.mpr ⟨List.mem_of_getElem? (i := 670) (by decide +kernel), by decide +kernel⟩
theorem q_671 : Cond.code ⟨"ShipsThatMeet", "keep", "(IIII)I"⟩ prog_1_method_27_code 5 (Option.some FieldType.int) ∈ ah_tb := List.mem_filter.mpr ⟨List.mem_of_getElem? (i := 671) (by decide +kernel), by decide +kernel⟩
theorem q_672 : Cond.methodLink "ShipsThatMeet" 238 ⟨"ShipsThatMeet$Shelf", "holdNothing", "()V"⟩ ∈ ah_tb := List.mem_filter.mpr ⟨List.mem_of_getElem? (i := 672) (by decide +kernel), by decide +kernel⟩
theorem q_673 : Cond.instanceMethod ⟨"ShipsThatMeet$Shelf", "holdNothing", "()V"⟩ ∈ ah_tb := List.mem_filter.mpr ⟨List.mem_of_getElem? (i := 673) (by decide +kernel), by decide +kernel⟩
theorem q_674 : Cond.selects "ShipsThatMeet$Shelf" ⟨"ShipsThatMeet$Shelf", "holdNothing", "()V"⟩ ⟨"ShipsThatMeet$Shelf", "holdNothing", "()V"⟩ ∈ ah_tb := List.mem_filter.mpr ⟨List.mem_of_getElem? (i := 674) (by decide +kernel), by decide +kernel⟩
theorem q_675 : Cond.code ⟨"ShipsThatMeet$Shelf", "holdNothing", "()V"⟩ prog_9_method_4_code 1 none ∈ ah_tb := List.mem_filter.mpr ⟨List.mem_of_getElem? (i := 675) (by decide +kernel), by decide +kernel⟩
theorem q_676 : Cond.methodLink "ShipsThatMeet" 241 ⟨"ShipsThatMeet$Shelf", "holdCaptain", "(LShipsThatMeet$Captain;)V"⟩ ∈ ah_tb := List.mem_filter.mpr ⟨List.mem_of_getElem? (i := 676) (by decide +kernel), by decide +kernel⟩
theorem q_677 : Cond.instanceMethod ⟨"ShipsThatMeet$Shelf", "holdCaptain", "(LShipsThatMeet$Captain;)V"⟩ ∈ ah_tb := List.mem_filter.mpr ⟨List.mem_of_getElem? (i := 677) (by decide +kernel), by decide +kernel⟩
theorem q_678 : Cond.selects "ShipsThatMeet$Shelf" ⟨"ShipsThatMeet$Shelf", "holdCaptain", "(LShipsThatMeet$Captain;)V"⟩ ⟨"ShipsThatMeet$Shelf", "holdCaptain", "(LShipsThatMeet$Captain;)V"⟩ ∈ ah_tb := List.mem_filter.mpr ⟨List.mem_of_getElem? (i := 678) (by decide +kernel), by decide +kernel⟩
theorem q_679 : Cond.code ⟨"ShipsThatMeet$Shelf", "holdCaptain", "(LShipsThatMeet$Captain;)V"⟩ prog_9_method_5_code 2 none ∈ ah_tb := List.mem_filter.mpr ⟨List.mem_of_getElem? (i := 679) (by decide +kernel), by decide +kernel⟩
theorem q_680 : Cond.methodLink "ShipsThatMeet$Shelf" 26 ⟨"ShipsThatMeet$Shelf", "holdNothing", "()V"⟩ ∈ ah_tb := List.mem_filter.mpr ⟨List.mem_of_getElem? (i := 680) (by decide +kernel), by decide +kernel⟩
theorem q_681 : Cond.methodLink "ShipsThatMeetLaw" 131 ⟨"ShipsThatMeet", "row", "(III)I"⟩ ∈ ah_tb := List.mem_filter.mpr ⟨List.mem_of_getElem? (i := 681) (by decide +kernel), by decide +kernel⟩
theorem q_682 : Cond.instanceMethod ⟨"ShipsThatMeet", "row", "(III)I"⟩ ∈ ah_tb := List.mem_filter.mpr ⟨List.mem_of_getElem? (i := 682) (by decide +kernel), by decide +kernel⟩
theorem q_683 : Cond.selects "ShipsThatMeet" ⟨"ShipsThatMeet", "row", "(III)I"⟩ ⟨"ShipsThatMeet", "row", "(III)I"⟩ ∈ ah_tb := List.mem_filter.mpr ⟨List.mem_of_getElem? (i := 683) (by decide +kernel), by decide +kernel⟩
theorem q_684 : Cond.code ⟨"ShipsThatMeet", "row", "(III)I"⟩ prog_1_method_28_code 4 (Option.some FieldType.int) ∈ ah_tb := List.mem_filter.mpr ⟨List.mem_of_getElem? (i := 684) (by decide +kernel), by decide +kernel⟩
theorem q_685 : Cond.methodLink "ShipsThatMeet" 244 ⟨"ShipsThatMeet$Shelf", "holdRow", "(II)V"⟩ ∈ ah_tb := List.mem_filter.mpr ⟨List.mem_of_getElem? (i := 685) (by decide +kernel), by decide +kernel⟩
theorem q_686 : Cond.instanceMethod ⟨"ShipsThatMeet$Shelf", "holdRow", "(II)V"⟩ ∈ ah_tb := List.mem_filter.mpr ⟨List.mem_of_getElem? (i := 686) (by decide +kernel), by decide +kernel⟩
theorem q_687 : Cond.selects "ShipsThatMeet$Shelf" ⟨"ShipsThatMeet$Shelf", "holdRow", "(II)V"⟩ ⟨"ShipsThatMeet$Shelf", "holdRow", "(II)V"⟩ ∈ ah_tb := List.mem_filter.mpr ⟨List.mem_of_getElem? (i := 687) (by decide +kernel), by decide +kernel⟩
theorem q_688 : Cond.code ⟨"ShipsThatMeet$Shelf", "holdRow", "(II)V"⟩ prog_9_method_6_code 4 none ∈ ah_tb := List.mem_filter.mpr ⟨List.mem_of_getElem? (i := 688) (by decide +kernel), by decide +kernel⟩
theorem q_689 : Cond.methodLink "ShipsThatMeetLaw" 135 ⟨"ShipsThatMeet", "put", "(III)I"⟩ ∈ ah_tb := List.mem_filter.mpr ⟨List.mem_of_getElem? (i := 689) (by decide +kernel), by decide +kernel⟩
theorem q_690 : Cond.instanceMethod ⟨"ShipsThatMeet", "put", "(III)I"⟩ ∈ ah_tb := List.mem_filter.mpr ⟨List.mem_of_getElem? (i := 690) (by decide +kernel), by decide +kernel⟩
theorem q_691 : Cond.selects "ShipsThatMeet" ⟨"ShipsThatMeet", "put", "(III)I"⟩ ⟨"ShipsThatMeet", "put", "(III)I"⟩ ∈ ah_tb := List.mem_filter.mpr ⟨List.mem_of_getElem? (i := 691) (by decide +kernel), by decide +kernel⟩
theorem q_692 : Cond.code ⟨"ShipsThatMeet", "put", "(III)I"⟩ prog_1_method_29_code 5 (Option.some FieldType.int) ∈ ah_tb := List.mem_filter.mpr ⟨List.mem_of_getElem? (i := 692) (by decide +kernel), by decide +kernel⟩
theorem q_693 : Cond.methodLink "ShipsThatMeet" 248 ⟨"ShipsThatMeet$Shelf", "hasPlace", "(I)Z"⟩ ∈ ah_tb := List.mem_filter.mpr ⟨List.mem_of_getElem? (i := 693) (by decide +kernel), by decide +kernel⟩
theorem q_694 : Cond.methodLink "ShipsThatMeet" 251 ⟨"ShipsThatMeet$Shelf", "write", "(II)V"⟩ ∈ ah_tb := List.mem_filter.mpr ⟨List.mem_of_getElem? (i := 694) (by decide +kernel), by decide +kernel⟩
theorem q_695 : Cond.instanceMethod ⟨"ShipsThatMeet$Shelf", "write", "(II)V"⟩ ∈ ah_tb := List.mem_filter.mpr ⟨List.mem_of_getElem? (i := 695) (by decide +kernel), by decide +kernel⟩
theorem q_696 : Cond.selects "ShipsThatMeet$Shelf" ⟨"ShipsThatMeet$Shelf", "write", "(II)V"⟩ ⟨"ShipsThatMeet$Shelf", "write", "(II)V"⟩ ∈ ah_tb := List.mem_filter.mpr ⟨List.mem_of_getElem? (i := 696) (by decide +kernel), by decide +kernel⟩
theorem q_697 : Cond.code ⟨"ShipsThatMeet$Shelf", "write", "(II)V"⟩ prog_9_method_13_code 3 none ∈ ah_tb := List.mem_filter.mpr ⟨List.mem_of_getElem? (i := 697) (by decide +kernel), by decide +kernel⟩
theorem q_698 : Cond.methodLink "ShipsThatMeetLaw" 148 ⟨"ShipsThatMeet", "copy", "(IIIII)I"⟩ ∈ ah_tb := List.mem_filter.mpr ⟨List.mem_of_getElem? (i := 698) (by decide +kernel), by decide +kernel⟩
theorem q_699 : Cond.instanceMethod ⟨"ShipsThatMeet", "copy", "(IIIII)I"⟩ ∈ ah_tb := List.mem_filter.mpr ⟨List.mem_of_getElem? (i := 699) (by decide +kernel), by decide +kernel⟩
theorem q_700 : Cond.selects "ShipsThatMeet" ⟨"ShipsThatMeet", "copy", "(IIIII)I"⟩ ⟨"ShipsThatMeet", "copy", "(IIIII)I"⟩ ∈ ah_tb := List.mem_filter.mpr ⟨List.mem_of_getElem? (i := 700) (by decide +kernel), by decide +kernel⟩
theorem q_701 : Cond.code ⟨"ShipsThatMeet", "copy", "(IIIII)I"⟩ prog_1_method_31_code 8 (Option.some FieldType.int) ∈ ah_tb := List.mem_filter.mpr ⟨List.mem_of_getElem? (i := 701) (by decide +kernel), by decide +kernel⟩
theorem q_702 : Cond.methodLink "ShipsThatMeet" 278 ⟨"ShipsThatMeet$Shelf", "hasStretch", "(II)Z"⟩ ∈ ah_tb := List.mem_filter.mpr ⟨List.mem_of_getElem? (i := 702) (by decide +kernel), by decide +kernel⟩
theorem q_703 : Cond.instanceMethod ⟨"ShipsThatMeet$Shelf", "hasStretch", "(II)Z"⟩ ∈ ah_tb := List.mem_filter.mpr ⟨List.mem_of_getElem? (i := 703) (by decide +kernel), by decide +kernel⟩
theorem q_704 : Cond.selects "ShipsThatMeet$Shelf" ⟨"ShipsThatMeet$Shelf", "hasStretch", "(II)Z"⟩ ⟨"ShipsThatMeet$Shelf", "hasStretch", "(II)Z"⟩ ∈ ah_tb := List.mem_filter.mpr ⟨List.mem_of_getElem? (i := 704) (by decide +kernel), by decide +kernel⟩
theorem q_705 : Cond.code ⟨"ShipsThatMeet$Shelf", "hasStretch", "(II)Z"⟩ prog_9_method_8_code 3 (Option.some FieldType.boolean) ∈ ah_tb := List.mem_filter.mpr ⟨List.mem_of_getElem? (i := 705) (by decide +kernel), by decide +kernel⟩
theorem q_706 : Cond.methodLink "ShipsThatMeet" 284 ⟨"java/lang/System", "arraycopy", "(Ljava/lang/Object;ILjava/lang/Object;II)V"⟩ ∈ ah_tb := List.mem_filter.mpr ⟨List.mem_of_getElem? (i := 706) (by decide +kernel), by decide +kernel⟩
theorem q_707 : Cond.static ⟨"java/lang/System", "arraycopy", "(Ljava/lang/Object;ILjava/lang/Object;II)V"⟩ ∈ ah_tb := List.mem_filter.mpr ⟨List.mem_of_getElem? (i := 707) (by decide +kernel), by decide +kernel⟩
theorem q_709 : Cond.methodLink "ShipsThatMeetLaw" 153 ⟨"ShipsThatMeet", "pay", "(I)I"⟩ ∈ ah_tb := List.mem_filter.mpr ⟨List.mem_of_getElem? (i := 709) (by decide +kernel), by decide +kernel⟩
theorem q_710 : Cond.instanceMethod ⟨"ShipsThatMeet", "pay", "(I)I"⟩ ∈ ah_tb := List.mem_filter.mpr ⟨List.mem_of_getElem? (i := 710) (by decide +kernel), by decide +kernel⟩
theorem q_711 : Cond.selects "ShipsThatMeet" ⟨"ShipsThatMeet", "pay", "(I)I"⟩ ⟨"ShipsThatMeet", "pay", "(I)I"⟩ ∈ ah_tb := List.mem_filter.mpr ⟨List.mem_of_getElem? (i := 711) (by decide +kernel), by decide +kernel⟩
theorem q_712 : Cond.code ⟨"ShipsThatMeet", "pay", "(I)I"⟩ prog_1_method_32_code 3 (Option.some FieldType.int) ∈ ah_tb := List.mem_filter.mpr ⟨List.mem_of_getElem? (i := 712) (by decide +kernel), by decide +kernel⟩
theorem q_713 : Cond.methodLink "ShipsThatMeet" 290 ⟨"ShipsThatMeet$Captain", "wages", "()I"⟩ ∈ ah_tb := List.mem_filter.mpr ⟨List.mem_of_getElem? (i := 713) (by decide +kernel), by decide +kernel⟩
theorem q_714 : Cond.instanceMethod ⟨"ShipsThatMeet$Captain", "wages", "()I"⟩ ∈ ah_tb := List.mem_filter.mpr ⟨List.mem_of_getElem? (i := 714) (by decide +kernel), by decide +kernel⟩
theorem q_715 : Cond.selects "ShipsThatMeet$Captain" ⟨"ShipsThatMeet$Captain", "wages", "()I"⟩ ⟨"ShipsThatMeet$Captain", "wages", "()I"⟩ ∈ ah_tb := List.mem_filter.mpr ⟨List.mem_of_getElem? (i := 715) (by decide +kernel), by decide +kernel⟩
theorem q_716 : Cond.sameMethod "ShipsThatMeet$Captain" "ShipsThatMeet$Captain" "wages" "()I" ∈ ah_tb := List.mem_filter.mpr ⟨List.mem_of_getElem? (i := 716) (by decide +kernel), by decide +kernel⟩
theorem q_717 : Cond.selects "ShipsThatMeet$Best" ⟨"ShipsThatMeet$Captain", "wages", "()I"⟩ ⟨"ShipsThatMeet$Best", "wages", "()I"⟩ ∈ ah_tb := List.mem_filter.mpr ⟨List.mem_of_getElem? (i := 717) (by decide +kernel), by decide +kernel⟩
theorem q_718 : Cond.instanceMethod ⟨"ShipsThatMeet$Best", "wages", "()I"⟩ ∈ ah_tb := List.mem_filter.mpr ⟨List.mem_of_getElem? (i := 718) (by decide +kernel), by decide +kernel⟩
theorem q_719 : Cond.code ⟨"ShipsThatMeet$Best", "wages", "()I"⟩ prog_2_method_3_code 1 (Option.some FieldType.int) ∈ ah_tb := List.mem_filter.mpr ⟨List.mem_of_getElem? (i := 719) (by decide +kernel), by decide +kernel⟩
theorem q_720 : Cond.methodLink "ShipsThatMeet$Best" 29 ⟨"ShipsThatMeet$Want", "wages", "()I"⟩ ∈ ah_tb := List.mem_filter.mpr ⟨List.mem_of_getElem? (i := 720) (by decide +kernel), by decide +kernel⟩
theorem q_721 : Cond.instanceMethod ⟨"ShipsThatMeet$Want", "wages", "()I"⟩ ∈ ah_tb := List.mem_filter.mpr ⟨List.mem_of_getElem? (i := 721) (by decide +kernel), by decide +kernel⟩
theorem q_722 : Cond.code ⟨"ShipsThatMeet$Want", "wages", "()I"⟩ prog_11_method_4_code 1 (Option.some FieldType.int) ∈ ah_tb := List.mem_filter.mpr ⟨List.mem_of_getElem? (i := 722) (by decide +kernel), by decide +kernel⟩
theorem q_723 : Cond.methodLink "ShipsThatMeet$Want" 32 ⟨"ShipsThatMeet$Captain", "wages", "()I"⟩ ∈ ah_tb := List.mem_filter.mpr ⟨List.mem_of_getElem? (i := 723) (by decide +kernel), by decide +kernel⟩
theorem q_724 : Cond.selects "ShipsThatMeet$Keep" ⟨"ShipsThatMeet$Captain", "wages", "()I"⟩ ⟨"ShipsThatMeet$Keep", "wages", "()I"⟩ ∈ ah_tb := List.mem_filter.mpr ⟨List.mem_of_getElem? (i := 724) (by decide +kernel), by decide +kernel⟩
theorem q_725 : Cond.instanceMethod ⟨"ShipsThatMeet$Keep", "wages", "()I"⟩ ∈ ah_tb := List.mem_filter.mpr ⟨List.mem_of_getElem? (i := 725) (by decide +kernel), by decide +kernel⟩
theorem q_726 : Cond.code ⟨"ShipsThatMeet$Keep", "wages", "()I"⟩ prog_5_method_3_code 1 (Option.some FieldType.int) ∈ ah_tb := List.mem_filter.mpr ⟨List.mem_of_getElem? (i := 726) (by decide +kernel), by decide +kernel⟩
theorem q_727 : Cond.methodLink "ShipsThatMeet$Keep" 17 ⟨"ShipsThatMeet$Old", "wages", "()I"⟩ ∈ ah_tb := List.mem_filter.mpr ⟨List.mem_of_getElem? (i := 727) (by decide +kernel), by decide +kernel⟩
theorem q_728 : Cond.instanceMethod ⟨"ShipsThatMeet$Old", "wages", "()I"⟩ ∈ ah_tb := List.mem_filter.mpr ⟨List.mem_of_getElem? (i := 728) (by decide +kernel), by decide +kernel⟩
theorem q_729 : Cond.code ⟨"ShipsThatMeet$Old", "wages", "()I"⟩ prog_8_method_3_code 1 (Option.some FieldType.int) ∈ ah_tb := List.mem_filter.mpr ⟨List.mem_of_getElem? (i := 729) (by decide +kernel), by decide +kernel⟩
theorem q_730 : Cond.methodLink "ShipsThatMeet$Old" 19 ⟨"ShipsThatMeet$New", "wages", "()I"⟩ ∈ ah_tb := List.mem_filter.mpr ⟨List.mem_of_getElem? (i := 730) (by decide +kernel), by decide +kernel⟩
theorem q_731 : Cond.instanceMethod ⟨"ShipsThatMeet$New", "wages", "()I"⟩ ∈ ah_tb := List.mem_filter.mpr ⟨List.mem_of_getElem? (i := 731) (by decide +kernel), by decide +kernel⟩
theorem q_732 : Cond.code ⟨"ShipsThatMeet$New", "wages", "()I"⟩ prog_7_method_3_code 1 (Option.some FieldType.int) ∈ ah_tb := List.mem_filter.mpr ⟨List.mem_of_getElem? (i := 732) (by decide +kernel), by decide +kernel⟩
theorem q_733 : Cond.methodLink "ShipsThatMeet$New" 19 ⟨"ShipsThatMeet$Captain", "wages", "()I"⟩ ∈ ah_tb := List.mem_filter.mpr ⟨List.mem_of_getElem? (i := 733) (by decide +kernel), by decide +kernel⟩
theorem q_734 : Cond.selects "ShipsThatMeet$Lot" ⟨"ShipsThatMeet$Captain", "wages", "()I"⟩ ⟨"ShipsThatMeet$Lot", "wages", "()I"⟩ ∈ ah_tb := List.mem_filter.mpr ⟨List.mem_of_getElem? (i := 734) (by decide +kernel), by decide +kernel⟩
theorem q_735 : Cond.instanceMethod ⟨"ShipsThatMeet$Lot", "wages", "()I"⟩ ∈ ah_tb := List.mem_filter.mpr ⟨List.mem_of_getElem? (i := 735) (by decide +kernel), by decide +kernel⟩
theorem q_736 : Cond.code ⟨"ShipsThatMeet$Lot", "wages", "()I"⟩ prog_6_method_3_code 1 (Option.some FieldType.int) ∈ ah_tb := List.mem_filter.mpr ⟨List.mem_of_getElem? (i := 736) (by decide +kernel), by decide +kernel⟩
theorem q_737 : Cond.methodLink "ShipsThatMeet$Lot" 25 ⟨"ShipsThatMeet$Captain", "wages", "()I"⟩ ∈ ah_tb := List.mem_filter.mpr ⟨List.mem_of_getElem? (i := 737) (by decide +kernel), by decide +kernel⟩
theorem q_738 : Cond.selects "ShipsThatMeet$New" ⟨"ShipsThatMeet$Captain", "wages", "()I"⟩ ⟨"ShipsThatMeet$New", "wages", "()I"⟩ ∈ ah_tb := List.mem_filter.mpr ⟨List.mem_of_getElem? (i := 738) (by decide +kernel), by decide +kernel⟩
theorem q_739 : Cond.selects "ShipsThatMeet$Old" ⟨"ShipsThatMeet$Captain", "wages", "()I"⟩ ⟨"ShipsThatMeet$Old", "wages", "()I"⟩ ∈ ah_tb := List.mem_filter.mpr ⟨List.mem_of_getElem? (i := 739) (by decide +kernel), by decide +kernel⟩
theorem q_740 : Cond.selects "ShipsThatMeet$Told" ⟨"ShipsThatMeet$Captain", "wages", "()I"⟩ ⟨"ShipsThatMeet$Told", "wages", "()I"⟩ ∈ ah_tb := List.mem_filter.mpr ⟨List.mem_of_getElem? (i := 740) (by decide +kernel), by decide +kernel⟩
theorem q_741 : Cond.instanceMethod ⟨"ShipsThatMeet$Told", "wages", "()I"⟩ ∈ ah_tb := List.mem_filter.mpr ⟨List.mem_of_getElem? (i := 741) (by decide +kernel), by decide +kernel⟩
theorem q_742 : Cond.code ⟨"ShipsThatMeet$Told", "wages", "()I"⟩ prog_10_method_3_code 1 (Option.some FieldType.int) ∈ ah_tb := List.mem_filter.mpr ⟨List.mem_of_getElem? (i := 742) (by decide +kernel), by decide +kernel⟩
theorem q_743 : Cond.methodLink "ShipsThatMeet$Told" 23 ⟨"ShipsThatMeet$Captain", "wages", "()I"⟩ ∈ ah_tb := List.mem_filter.mpr ⟨List.mem_of_getElem? (i := 743) (by decide +kernel), by decide +kernel⟩
theorem q_744 : Cond.selects "ShipsThatMeet$Want" ⟨"ShipsThatMeet$Captain", "wages", "()I"⟩ ⟨"ShipsThatMeet$Want", "wages", "()I"⟩ ∈ ah_tb := List.mem_filter.mpr ⟨List.mem_of_getElem? (i := 744) (by decide +kernel), by decide +kernel⟩
theorem q_745 : Cond.code ⟨"ShipsThatMeet$Captain", "wages", "()I"⟩ prog_3_method_3_code 1 (Option.some FieldType.int) ∈ ah_tb := List.mem_filter.mpr ⟨List.mem_of_getElem? (i := 745) (by decide +kernel), by decide +kernel⟩
theorem q_746 : Cond.methodLink "ShipsThatMeetLaw" 157 ⟨"ShipsThatMeet", "toss", "(I)I"⟩ ∈ ah_tb := List.mem_filter.mpr ⟨List.mem_of_getElem? (i := 746) (by decide +kernel), by decide +kernel⟩
theorem q_747 : Cond.instanceMethod ⟨"ShipsThatMeet", "toss", "(I)I"⟩ ∈ ah_tb := List.mem_filter.mpr ⟨List.mem_of_getElem? (i := 747) (by decide +kernel), by decide +kernel⟩
theorem q_748 : Cond.selects "ShipsThatMeet" ⟨"ShipsThatMeet", "toss", "(I)I"⟩ ⟨"ShipsThatMeet", "toss", "(I)I"⟩ ∈ ah_tb := List.mem_filter.mpr ⟨List.mem_of_getElem? (i := 748) (by decide +kernel), by decide +kernel⟩
theorem q_749 : Cond.codeWith ⟨"ShipsThatMeet", "toss", "(I)I"⟩ prog_1_method_33_code 5 (Option.some FieldType.int) [(22, 26, 29, 265)] ∈ ah_tb := List.mem_filter.mpr ⟨List.mem_of_getElem? (i := 749) (by decide +kernel), by decide +kernel⟩
theorem q_750 : Cond.classLink "ShipsThatMeet" 265 "java/lang/IllegalStateException" ∈ ah_tb := List.mem_filter.mpr ⟨List.mem_of_getElem? (i := 750) (by decide +kernel), by decide +kernel⟩
theorem q_751 : Cond.methodLink "ShipsThatMeet" 293 ⟨"ShipsThatMeet$Captain", "fail", "()V"⟩ ∈ ah_tb := List.mem_filter.mpr ⟨List.mem_of_getElem? (i := 751) (by decide +kernel), by decide +kernel⟩
theorem q_752 : Cond.instanceMethod ⟨"ShipsThatMeet$Captain", "fail", "()V"⟩ ∈ ah_tb := List.mem_filter.mpr ⟨List.mem_of_getElem? (i := 752) (by decide +kernel), by decide +kernel⟩
theorem q_753 : Cond.selects "ShipsThatMeet$Captain" ⟨"ShipsThatMeet$Captain", "fail", "()V"⟩ ⟨"ShipsThatMeet$Captain", "fail", "()V"⟩ ∈ ah_tb := List.mem_filter.mpr ⟨List.mem_of_getElem? (i := 753) (by decide +kernel), by decide +kernel⟩
theorem q_754 : Cond.sameMethod "ShipsThatMeet$Captain" "ShipsThatMeet$Captain" "fail" "()V" ∈ ah_tb := List.mem_filter.mpr ⟨List.mem_of_getElem? (i := 754) (by decide +kernel), by decide +kernel⟩
theorem q_755 : Cond.selects "ShipsThatMeet$Best" ⟨"ShipsThatMeet$Captain", "fail", "()V"⟩ ⟨"ShipsThatMeet$Captain", "fail", "()V"⟩ ∈ ah_tb := List.mem_filter.mpr ⟨List.mem_of_getElem? (i := 755) (by decide +kernel), by decide +kernel⟩
theorem q_756 : Cond.selects "ShipsThatMeet$Keep" ⟨"ShipsThatMeet$Captain", "fail", "()V"⟩ ⟨"ShipsThatMeet$Captain", "fail", "()V"⟩ ∈ ah_tb := List.mem_filter.mpr ⟨List.mem_of_getElem? (i := 756) (by decide +kernel), by decide +kernel⟩
theorem q_757 : Cond.selects "ShipsThatMeet$Lot" ⟨"ShipsThatMeet$Captain", "fail", "()V"⟩ ⟨"ShipsThatMeet$Captain", "fail", "()V"⟩ ∈ ah_tb := List.mem_filter.mpr ⟨List.mem_of_getElem? (i := 757) (by decide +kernel), by decide +kernel⟩
theorem q_758 : Cond.selects "ShipsThatMeet$New" ⟨"ShipsThatMeet$Captain", "fail", "()V"⟩ ⟨"ShipsThatMeet$Captain", "fail", "()V"⟩ ∈ ah_tb := List.mem_filter.mpr ⟨List.mem_of_getElem? (i := 758) (by decide +kernel), by decide +kernel⟩
theorem q_759 : Cond.selects "ShipsThatMeet$Old" ⟨"ShipsThatMeet$Captain", "fail", "()V"⟩ ⟨"ShipsThatMeet$Captain", "fail", "()V"⟩ ∈ ah_tb := List.mem_filter.mpr ⟨List.mem_of_getElem? (i := 759) (by decide +kernel), by decide +kernel⟩
theorem q_760 : Cond.selects "ShipsThatMeet$Told" ⟨"ShipsThatMeet$Captain", "fail", "()V"⟩ ⟨"ShipsThatMeet$Told", "fail", "()V"⟩ ∈ ah_tb := List.mem_filter.mpr ⟨List.mem_of_getElem? (i := 760) (by decide +kernel), by decide +kernel⟩
theorem q_761 : Cond.instanceMethod ⟨"ShipsThatMeet$Told", "fail", "()V"⟩ ∈ ah_tb := List.mem_filter.mpr ⟨List.mem_of_getElem? (i := 761) (by decide +kernel), by decide +kernel⟩
theorem q_762 : Cond.code ⟨"ShipsThatMeet$Told", "fail", "()V"⟩ prog_10_method_4_code 1 none ∈ ah_tb := List.mem_filter.mpr ⟨List.mem_of_getElem? (i := 762) (by decide +kernel), by decide +kernel⟩
theorem q_763 : Cond.selects "ShipsThatMeet$Want" ⟨"ShipsThatMeet$Captain", "fail", "()V"⟩ ⟨"ShipsThatMeet$Captain", "fail", "()V"⟩ ∈ ah_tb := List.mem_filter.mpr ⟨List.mem_of_getElem? (i := 763) (by decide +kernel), by decide +kernel⟩
theorem q_764 : Cond.code ⟨"ShipsThatMeet$Captain", "fail", "()V"⟩ prog_3_method_4_code 1 none ∈ ah_tb := List.mem_filter.mpr ⟨List.mem_of_getElem? (i := 764) (by decide +kernel), by decide +kernel⟩
theorem q_765 : Cond.classLink "ShipsThatMeet$Captain" 22 "java/lang/IllegalStateException" ∈ ah_tb := List.mem_filter.mpr ⟨List.mem_of_getElem? (i := 765) (by decide +kernel), by decide +kernel⟩
theorem q_766 : Cond.instantiable "java/lang/IllegalStateException" 6 ∈ ah_tb := List.mem_filter.mpr ⟨List.mem_of_getElem? (i := 766) (by decide +kernel), by decide +kernel⟩
theorem q_768 : Cond.declares ⟨"java/lang/RuntimeException", "<init>", "()V"⟩ ∈ lw_tbl := List.mem_of_getElem? (i := 768) (by decide +kernel)
theorem q_769 : Cond.declares ⟨"java/lang/RuntimeException", "<init>", "(Ljava/lang/String;)V"⟩ ∈ lw_tbl := List.mem_of_getElem? (i := 769) (by decide +kernel)
theorem q_770 : Cond.declares ⟨"java/lang/Exception", "<init>", "()V"⟩ ∈ lw_tbl := List.mem_of_getElem? (i := 770) (by decide +kernel)
theorem q_771 : Cond.declares ⟨"java/lang/Exception", "<init>", "(Ljava/lang/String;)V"⟩ ∈ lw_tbl := List.mem_of_getElem? (i := 771) (by decide +kernel)
theorem q_806 : Cond.methodLink "ShipsThatMeet$Captain" 26 ⟨"java/lang/IllegalStateException", "<init>", "(Ljava/lang/String;)V"⟩ ∈ ah_tb := List.mem_filter.mpr ⟨List.mem_of_getElem? (i := 806) (by decide +kernel), by decide +kernel⟩
theorem q_807 : Cond.instanceMethod ⟨"java/lang/IllegalStateException", "<init>", "(Ljava/lang/String;)V"⟩ ∈ ah_tb := List.mem_filter.mpr ⟨List.mem_of_getElem? (i := 807) (by decide +kernel), by decide +kernel⟩
theorem q_808 : Cond.code ⟨"java/lang/IllegalStateException", "<init>", "(Ljava/lang/String;)V"⟩ prog_16_method_2_code 2 none ∈ ah_tb := List.mem_filter.mpr ⟨List.mem_of_getElem? (i := 808) (by decide +kernel), by decide +kernel⟩
theorem q_809 : Cond.methodLink "java/lang/IllegalStateException" 7 ⟨"java/lang/RuntimeException", "<init>", "(Ljava/lang/String;)V"⟩ ∈ ah_tb := List.mem_filter.mpr ⟨List.mem_of_getElem? (i := 809) (by decide +kernel), by decide +kernel⟩
theorem q_810 : Cond.instanceMethod ⟨"java/lang/RuntimeException", "<init>", "(Ljava/lang/String;)V"⟩ ∈ ah_tb := List.mem_filter.mpr ⟨List.mem_of_getElem? (i := 810) (by decide +kernel), by decide +kernel⟩
theorem q_811 : Cond.code ⟨"java/lang/RuntimeException", "<init>", "(Ljava/lang/String;)V"⟩ prog_19_method_2_code 2 none ∈ ah_tb := List.mem_filter.mpr ⟨List.mem_of_getElem? (i := 811) (by decide +kernel), by decide +kernel⟩
theorem q_812 : Cond.methodLink "java/lang/RuntimeException" 7 ⟨"java/lang/Exception", "<init>", "(Ljava/lang/String;)V"⟩ ∈ ah_tb := List.mem_filter.mpr ⟨List.mem_of_getElem? (i := 812) (by decide +kernel), by decide +kernel⟩
theorem q_813 : Cond.instanceMethod ⟨"java/lang/Exception", "<init>", "(Ljava/lang/String;)V"⟩ ∈ ah_tb := List.mem_filter.mpr ⟨List.mem_of_getElem? (i := 813) (by decide +kernel), by decide +kernel⟩
theorem q_814 : Cond.code ⟨"java/lang/Exception", "<init>", "(Ljava/lang/String;)V"⟩ prog_14_method_2_code 2 none ∈ ah_tb := List.mem_filter.mpr ⟨List.mem_of_getElem? (i := 814) (by decide +kernel), by decide +kernel⟩
theorem q_830 : Cond.superclass "java/lang/IllegalStateException" "java/lang/RuntimeException" ∈ ah_tb := List.mem_filter.mpr ⟨List.mem_of_getElem? (i := 830) (by decide +kernel), by decide +kernel⟩
theorem q_831 : Cond.arrayClass FieldType.byte ∈ ah_tb := List.mem_filter.mpr ⟨List.mem_of_getElem? (i := 831) (by decide +kernel), by decide +kernel⟩
theorem q_832 : Cond.methodLink "ShipsThatMeet" 296 ⟨"ShipsThatMeet$Captain", "worthOfFailure", "()I"⟩ ∈ ah_tb := List.mem_filter.mpr ⟨List.mem_of_getElem? (i := 832) (by decide +kernel), by decide +kernel⟩
theorem q_833 : Cond.instanceMethod ⟨"ShipsThatMeet$Captain", "worthOfFailure", "()I"⟩ ∈ ah_tb := List.mem_filter.mpr ⟨List.mem_of_getElem? (i := 833) (by decide +kernel), by decide +kernel⟩
theorem q_834 : Cond.selects "ShipsThatMeet$Captain" ⟨"ShipsThatMeet$Captain", "worthOfFailure", "()I"⟩ ⟨"ShipsThatMeet$Captain", "worthOfFailure", "()I"⟩ ∈ ah_tb := List.mem_filter.mpr ⟨List.mem_of_getElem? (i := 834) (by decide +kernel), by decide +kernel⟩
theorem q_835 : Cond.sameMethod "ShipsThatMeet$Captain" "ShipsThatMeet$Captain" "worthOfFailure" "()I" ∈ ah_tb := List.mem_filter.mpr ⟨List.mem_of_getElem? (i := 835) (by decide +kernel), by decide +kernel⟩
theorem q_836 : Cond.selects "ShipsThatMeet$Best" ⟨"ShipsThatMeet$Captain", "worthOfFailure", "()I"⟩ ⟨"ShipsThatMeet$Best", "worthOfFailure", "()I"⟩ ∈ ah_tb := List.mem_filter.mpr ⟨List.mem_of_getElem? (i := 836) (by decide +kernel), by decide +kernel⟩
theorem q_837 : Cond.instanceMethod ⟨"ShipsThatMeet$Best", "worthOfFailure", "()I"⟩ ∈ ah_tb := List.mem_filter.mpr ⟨List.mem_of_getElem? (i := 837) (by decide +kernel), by decide +kernel⟩
theorem q_838 : Cond.code ⟨"ShipsThatMeet$Best", "worthOfFailure", "()I"⟩ prog_2_method_4_code 1 (Option.some FieldType.int) ∈ ah_tb := List.mem_filter.mpr ⟨List.mem_of_getElem? (i := 838) (by decide +kernel), by decide +kernel⟩
theorem q_839 : Cond.methodLink "ShipsThatMeet$Best" 33 ⟨"ShipsThatMeet$Want", "worthOfFailure", "()I"⟩ ∈ ah_tb := List.mem_filter.mpr ⟨List.mem_of_getElem? (i := 839) (by decide +kernel), by decide +kernel⟩
theorem q_840 : Cond.sameMethod "ShipsThatMeet$Want" "ShipsThatMeet$Captain" "worthOfFailure" "()I" ∈ ah_tb := List.mem_filter.mpr ⟨List.mem_of_getElem? (i := 840) (by decide +kernel), by decide +kernel⟩
theorem q_841 : Cond.declares ⟨"ShipsThatMeet$Captain", "worthOfFailure", "()I"⟩ ∈ lw_tbl := List.mem_of_getElem? (i := 841) (by decide +kernel)
theorem q_842 : Cond.selects "ShipsThatMeet$Keep" ⟨"ShipsThatMeet$Captain", "worthOfFailure", "()I"⟩ ⟨"ShipsThatMeet$Keep", "worthOfFailure", "()I"⟩ ∈ ah_tb := List.mem_filter.mpr ⟨List.mem_of_getElem? (i := 842) (by decide +kernel), by decide +kernel⟩
theorem q_843 : Cond.instanceMethod ⟨"ShipsThatMeet$Keep", "worthOfFailure", "()I"⟩ ∈ ah_tb := List.mem_filter.mpr ⟨List.mem_of_getElem? (i := 843) (by decide +kernel), by decide +kernel⟩
theorem q_844 : Cond.code ⟨"ShipsThatMeet$Keep", "worthOfFailure", "()I"⟩ prog_5_method_4_code 1 (Option.some FieldType.int) ∈ ah_tb := List.mem_filter.mpr ⟨List.mem_of_getElem? (i := 844) (by decide +kernel), by decide +kernel⟩
theorem q_845 : Cond.methodLink "ShipsThatMeet$Keep" 21 ⟨"ShipsThatMeet$Keep", "wages", "()I"⟩ ∈ ah_tb := List.mem_filter.mpr ⟨List.mem_of_getElem? (i := 845) (by decide +kernel), by decide +kernel⟩
theorem q_846 : Cond.selects "ShipsThatMeet$Lot" ⟨"ShipsThatMeet$Captain", "worthOfFailure", "()I"⟩ ⟨"ShipsThatMeet$Captain", "worthOfFailure", "()I"⟩ ∈ ah_tb := List.mem_filter.mpr ⟨List.mem_of_getElem? (i := 846) (by decide +kernel), by decide +kernel⟩
theorem q_847 : Cond.selects "ShipsThatMeet$New" ⟨"ShipsThatMeet$Captain", "worthOfFailure", "()I"⟩ ⟨"ShipsThatMeet$Captain", "worthOfFailure", "()I"⟩ ∈ ah_tb := List.mem_filter.mpr ⟨List.mem_of_getElem? (i := 847) (by decide +kernel), by decide +kernel⟩
theorem q_848 : Cond.selects "ShipsThatMeet$Old" ⟨"ShipsThatMeet$Captain", "worthOfFailure", "()I"⟩ ⟨"ShipsThatMeet$Captain", "worthOfFailure", "()I"⟩ ∈ ah_tb := List.mem_filter.mpr ⟨List.mem_of_getElem? (i := 848) (by decide +kernel), by decide +kernel⟩
theorem q_849 : Cond.selects "ShipsThatMeet$Told" ⟨"ShipsThatMeet$Captain", "worthOfFailure", "()I"⟩ ⟨"ShipsThatMeet$Captain", "worthOfFailure", "()I"⟩ ∈ ah_tb := List.mem_filter.mpr ⟨List.mem_of_getElem? (i := 849) (by decide +kernel), by decide +kernel⟩
theorem q_850 : Cond.selects "ShipsThatMeet$Want" ⟨"ShipsThatMeet$Captain", "worthOfFailure", "()I"⟩ ⟨"ShipsThatMeet$Captain", "worthOfFailure", "()I"⟩ ∈ ah_tb := List.mem_filter.mpr ⟨List.mem_of_getElem? (i := 850) (by decide +kernel), by decide +kernel⟩
theorem q_851 : Cond.code ⟨"ShipsThatMeet$Captain", "worthOfFailure", "()I"⟩ prog_3_method_5_code 1 (Option.some FieldType.int) ∈ ah_tb := List.mem_filter.mpr ⟨List.mem_of_getElem? (i := 851) (by decide +kernel), by decide +kernel⟩
theorem q_852 : Cond.methodLink "ShipsThatMeetLaw" 139 ⟨"ShipsThatMeetLaw", "element", "(LShipsThatMeet;II[J)I"⟩ ∈ ah_tb := List.mem_filter.mpr ⟨List.mem_of_getElem? (i := 852) (by decide +kernel), by decide +kernel⟩
theorem q_853 : Cond.static ⟨"ShipsThatMeetLaw", "element", "(LShipsThatMeet;II[J)I"⟩ ∈ ah_tb := List.mem_filter.mpr ⟨List.mem_of_getElem? (i := 853) (by decide +kernel), by decide +kernel⟩
theorem q_854 : Cond.codeWith ⟨"ShipsThatMeetLaw", "element", "(LShipsThatMeet;II[J)I"⟩ method_3_code 5 (Option.some FieldType.int) [(0, 9, 12, 13), (0, 9, 16, 15)] ∈ ah_tb := List.mem_filter.mpr ⟨List.mem_of_getElem? (i := 854) (by decide +kernel), by decide +kernel⟩
theorem q_855 : Cond.classLink "ShipsThatMeetLaw" 13 "java/lang/IllegalArgumentException" ∈ ah_tb := List.mem_filter.mpr ⟨List.mem_of_getElem? (i := 855) (by decide +kernel), by decide +kernel⟩
theorem q_856 : Cond.classLink "ShipsThatMeetLaw" 15 "java/lang/IllegalStateException" ∈ ah_tb := List.mem_filter.mpr ⟨List.mem_of_getElem? (i := 856) (by decide +kernel), by decide +kernel⟩
theorem q_857 : Cond.methodLink "ShipsThatMeetLaw" 7 ⟨"ShipsThatMeet", "element", "(II)J"⟩ ∈ ah_tb := List.mem_filter.mpr ⟨List.mem_of_getElem? (i := 857) (by decide +kernel), by decide +kernel⟩
theorem q_858 : Cond.instanceMethod ⟨"ShipsThatMeet", "element", "(II)J"⟩ ∈ ah_tb := List.mem_filter.mpr ⟨List.mem_of_getElem? (i := 858) (by decide +kernel), by decide +kernel⟩
theorem q_859 : Cond.selects "ShipsThatMeet" ⟨"ShipsThatMeet", "element", "(II)J"⟩ ⟨"ShipsThatMeet", "element", "(II)J"⟩ ∈ ah_tb := List.mem_filter.mpr ⟨List.mem_of_getElem? (i := 859) (by decide +kernel), by decide +kernel⟩
theorem q_860 : Cond.code ⟨"ShipsThatMeet", "element", "(II)J"⟩ prog_1_method_30_code 3 (Option.some FieldType.long) ∈ ah_tb := List.mem_filter.mpr ⟨List.mem_of_getElem? (i := 860) (by decide +kernel), by decide +kernel⟩
theorem q_861 : Cond.classLink "ShipsThatMeet" 254 "java/lang/IllegalArgumentException" ∈ ah_tb := List.mem_filter.mpr ⟨List.mem_of_getElem? (i := 861) (by decide +kernel), by decide +kernel⟩
theorem q_862 : Cond.instantiable "java/lang/IllegalArgumentException" 6 ∈ ah_tb := List.mem_filter.mpr ⟨List.mem_of_getElem? (i := 862) (by decide +kernel), by decide +kernel⟩
theorem q_871 : Cond.methodLink "ShipsThatMeet" 258 ⟨"java/lang/IllegalArgumentException", "<init>", "(Ljava/lang/String;)V"⟩ ∈ ah_tb := List.mem_filter.mpr ⟨List.mem_of_getElem? (i := 871) (by decide +kernel), by decide +kernel⟩
theorem q_872 : Cond.instanceMethod ⟨"java/lang/IllegalArgumentException", "<init>", "(Ljava/lang/String;)V"⟩ ∈ ah_tb := List.mem_filter.mpr ⟨List.mem_of_getElem? (i := 872) (by decide +kernel), by decide +kernel⟩
theorem q_873 : Cond.code ⟨"java/lang/IllegalArgumentException", "<init>", "(Ljava/lang/String;)V"⟩ prog_15_method_2_code 2 none ∈ ah_tb := List.mem_filter.mpr ⟨List.mem_of_getElem? (i := 873) (by decide +kernel), by decide +kernel⟩
theorem q_874 : Cond.methodLink "java/lang/IllegalArgumentException" 7 ⟨"java/lang/RuntimeException", "<init>", "(Ljava/lang/String;)V"⟩ ∈ ah_tb := List.mem_filter.mpr ⟨List.mem_of_getElem? (i := 874) (by decide +kernel), by decide +kernel⟩
theorem q_876 : Cond.superclass "java/lang/IllegalArgumentException" "java/lang/RuntimeException" ∈ ah_tb := List.mem_filter.mpr ⟨List.mem_of_getElem? (i := 876) (by decide +kernel), by decide +kernel⟩
theorem q_878 : Cond.methodLink "ShipsThatMeet" 269 ⟨"java/lang/IllegalStateException", "<init>", "(Ljava/lang/String;)V"⟩ ∈ ah_tb := List.mem_filter.mpr ⟨List.mem_of_getElem? (i := 878) (by decide +kernel), by decide +kernel⟩
theorem q_880 : Cond.classLink "ShipsThatMeetLaw" 18 "ShipsThatMeetModel" ∈ ah_tb := List.mem_filter.mpr ⟨List.mem_of_getElem? (i := 880) (by decide +kernel), by decide +kernel⟩
theorem q_881 : Cond.instantiable "ShipsThatMeetModel" 24 ∈ ah_tb := List.mem_filter.mpr ⟨List.mem_of_getElem? (i := 881) (by decide +kernel), by decide +kernel⟩
theorem q_882 : Cond.methodLink "ShipsThatMeetLaw" 20 ⟨"ShipsThatMeetModel", "<init>", "()V"⟩ ∈ ah_tb := List.mem_filter.mpr ⟨List.mem_of_getElem? (i := 882) (by decide +kernel), by decide +kernel⟩
theorem q_883 : Cond.instanceMethod ⟨"ShipsThatMeetModel", "<init>", "()V"⟩ ∈ ah_tb := List.mem_filter.mpr ⟨List.mem_of_getElem? (i := 883) (by decide +kernel), by decide +kernel⟩
theorem q_884 : Cond.code ⟨"ShipsThatMeetModel", "<init>", "()V"⟩ prog_13_method_1_code 1 none ∈ ah_tb := List.mem_filter.mpr ⟨List.mem_of_getElem? (i := 884) (by decide +kernel), by decide +kernel⟩
theorem q_885 : Cond.methodLink "ShipsThatMeetModel" 1 ⟨"java/lang/Object", "<init>", "()V"⟩ ∈ ah_tb := List.mem_filter.mpr ⟨List.mem_of_getElem? (i := 885) (by decide +kernel), by decide +kernel⟩
theorem q_886 : Cond.fieldLink "ShipsThatMeetModel" 9 "ShipsThatMeetModel" "s" "[I" ∈ ah_tb := List.mem_filter.mpr ⟨List.mem_of_getElem? (i := 886) (by decide +kernel), by decide +kernel⟩
theorem q_887 : Cond.fieldLink "ShipsThatMeetModel" 13 "ShipsThatMeetModel" "image" "[I" ∈ ah_tb := List.mem_filter.mpr ⟨List.mem_of_getElem? (i := 887) (by decide +kernel), by decide +kernel⟩
theorem q_888 : Cond.fieldLink "ShipsThatMeetModel" 16 "ShipsThatMeetModel" "read" "[I" ∈ ah_tb := List.mem_filter.mpr ⟨List.mem_of_getElem? (i := 888) (by decide +kernel), by decide +kernel⟩
theorem q_889 : Cond.fieldLink "ShipsThatMeetModel" 19 "ShipsThatMeetModel" "mind" "[I" ∈ ah_tb := List.mem_filter.mpr ⟨List.mem_of_getElem? (i := 889) (by decide +kernel), by decide +kernel⟩
theorem q_890 : Cond.fieldLink "ShipsThatMeetModel" 22 "ShipsThatMeetModel" "kept" "[I" ∈ ah_tb := List.mem_filter.mpr ⟨List.mem_of_getElem? (i := 890) (by decide +kernel), by decide +kernel⟩
theorem q_891 : Cond.fieldLink "ShipsThatMeetModel" 25 "ShipsThatMeetModel" "sort" "[I" ∈ ah_tb := List.mem_filter.mpr ⟨List.mem_of_getElem? (i := 891) (by decide +kernel), by decide +kernel⟩
theorem q_892 : Cond.fieldLink "ShipsThatMeetModel" 28 "ShipsThatMeetModel" "size" "[I" ∈ ah_tb := List.mem_filter.mpr ⟨List.mem_of_getElem? (i := 892) (by decide +kernel), by decide +kernel⟩
theorem q_893 : Cond.fieldLink "ShipsThatMeetModel" 31 "ShipsThatMeetModel" "element" "[I" ∈ ah_tb := List.mem_filter.mpr ⟨List.mem_of_getElem? (i := 893) (by decide +kernel), by decide +kernel⟩
theorem q_894 : Cond.fieldLink "ShipsThatMeetModel" 34 "ShipsThatMeetModel" "keptKind" "[I" ∈ ah_tb := List.mem_filter.mpr ⟨List.mem_of_getElem? (i := 894) (by decide +kernel), by decide +kernel⟩
theorem q_895 : Cond.fieldLink "ShipsThatMeetModel" 37 "ShipsThatMeetModel" "keptFigure" "[I" ∈ ah_tb := List.mem_filter.mpr ⟨List.mem_of_getElem? (i := 895) (by decide +kernel), by decide +kernel⟩
theorem q_896 : Cond.fieldLink "ShipsThatMeetModel" 240 "ShipsThatMeetModel" "hasImage" "Z" ∈ ah_tb := List.mem_filter.mpr ⟨List.mem_of_getElem? (i := 896) (by decide +kernel), by decide +kernel⟩
theorem q_897 : Cond.fieldLink "ShipsThatMeetModel" 53 "ShipsThatMeetModel" "thrown" "I" ∈ ah_tb := List.mem_filter.mpr ⟨List.mem_of_getElem? (i := 897) (by decide +kernel), by decide +kernel⟩
theorem q_898 : Cond.fieldLink "ShipsThatMeetModel" 111 "ShipsThatMeetModel" "firstGiven" "I" ∈ ah_tb := List.mem_filter.mpr ⟨List.mem_of_getElem? (i := 898) (by decide +kernel), by decide +kernel⟩
theorem q_899 : Cond.fieldLink "ShipsThatMeetModel" 114 "ShipsThatMeetModel" "otherGiven" "I" ∈ ah_tb := List.mem_filter.mpr ⟨List.mem_of_getElem? (i := 899) (by decide +kernel), by decide +kernel⟩
theorem q_900 : Cond.fieldLink "ShipsThatMeetModel" 121 "ShipsThatMeetModel" "pos" "I" ∈ ah_tb := List.mem_filter.mpr ⟨List.mem_of_getElem? (i := 900) (by decide +kernel), by decide +kernel⟩
theorem q_901 : Cond.fieldLink "ShipsThatMeetModel" 127 "ShipsThatMeetModel" "base" "I" ∈ ah_tb := List.mem_filter.mpr ⟨List.mem_of_getElem? (i := 901) (by decide +kernel), by decide +kernel⟩
theorem q_902 : Cond.fieldLink "ShipsThatMeetModel" 124 "ShipsThatMeetModel" "end" "I" ∈ ah_tb := List.mem_filter.mpr ⟨List.mem_of_getElem? (i := 902) (by decide +kernel), by decide +kernel⟩
theorem q_903 : Cond.fieldLink "ShipsThatMeetModel" 40 "ShipsThatMeetModel" "numbers" "[I" ∈ ah_tb := List.mem_filter.mpr ⟨List.mem_of_getElem? (i := 903) (by decide +kernel), by decide +kernel⟩
theorem q_904 : Cond.fieldLink "ShipsThatMeetModel" 43 "ShipsThatMeetModel" "likely" "[J" ∈ ah_tb := List.mem_filter.mpr ⟨List.mem_of_getElem? (i := 904) (by decide +kernel), by decide +kernel⟩
theorem q_905 : Cond.fieldLink "ShipsThatMeetModel" 47 "ShipsThatMeetModel" "stack" "[I" ∈ ah_tb := List.mem_filter.mpr ⟨List.mem_of_getElem? (i := 905) (by decide +kernel), by decide +kernel⟩
theorem q_906 : Cond.fieldLink "ShipsThatMeetModel" 212 "ShipsThatMeetModel" "firstMeeting" "I" ∈ ah_tb := List.mem_filter.mpr ⟨List.mem_of_getElem? (i := 906) (by decide +kernel), by decide +kernel⟩
theorem q_907 : Cond.fieldLink "ShipsThatMeetModel" 50 "ShipsThatMeetModel" "wanted" "[I" ∈ ah_tb := List.mem_filter.mpr ⟨List.mem_of_getElem? (i := 907) (by decide +kernel), by decide +kernel⟩
theorem q_908 : Cond.fieldLink "ShipsThatMeetModel" 226 "ShipsThatMeetModel" "seed" "I" ∈ ah_tb := List.mem_filter.mpr ⟨List.mem_of_getElem? (i := 908) (by decide +kernel), by decide +kernel⟩
theorem q_909 : Cond.laysFinal "ShipsThatMeetModel" "ShipsThatMeetModel" "s" "[I" ∈ ah_tb := List.mem_filter.mpr ⟨List.mem_of_getElem? (i := 909) (by decide +kernel), by decide +kernel⟩
theorem q_911 : Cond.laysFinal "ShipsThatMeetModel" "ShipsThatMeetModel" "image" "[I" ∈ ah_tb := List.mem_filter.mpr ⟨List.mem_of_getElem? (i := 911) (by decide +kernel), by decide +kernel⟩
theorem q_913 : Cond.laysFinal "ShipsThatMeetModel" "ShipsThatMeetModel" "read" "[I" ∈ ah_tb := List.mem_filter.mpr ⟨List.mem_of_getElem? (i := 913) (by decide +kernel), by decide +kernel⟩
theorem q_915 : Cond.laysFinal "ShipsThatMeetModel" "ShipsThatMeetModel" "mind" "[I" ∈ ah_tb := List.mem_filter.mpr ⟨List.mem_of_getElem? (i := 915) (by decide +kernel), by decide +kernel⟩
theorem q_917 : Cond.laysFinal "ShipsThatMeetModel" "ShipsThatMeetModel" "kept" "[I" ∈ ah_tb := List.mem_filter.mpr ⟨List.mem_of_getElem? (i := 917) (by decide +kernel), by decide +kernel⟩
theorem q_919 : Cond.laysFinal "ShipsThatMeetModel" "ShipsThatMeetModel" "sort" "[I" ∈ ah_tb := List.mem_filter.mpr ⟨List.mem_of_getElem? (i := 919) (by decide +kernel), by decide +kernel⟩
theorem q_921 : Cond.laysFinal "ShipsThatMeetModel" "ShipsThatMeetModel" "size" "[I" ∈ ah_tb := List.mem_filter.mpr ⟨List.mem_of_getElem? (i := 921) (by decide +kernel), by decide +kernel⟩
theorem q_923 : Cond.laysFinal "ShipsThatMeetModel" "ShipsThatMeetModel" "element" "[I" ∈ ah_tb := List.mem_filter.mpr ⟨List.mem_of_getElem? (i := 923) (by decide +kernel), by decide +kernel⟩
theorem q_925 : Cond.laysFinal "ShipsThatMeetModel" "ShipsThatMeetModel" "keptKind" "[I" ∈ ah_tb := List.mem_filter.mpr ⟨List.mem_of_getElem? (i := 925) (by decide +kernel), by decide +kernel⟩
theorem q_927 : Cond.laysFinal "ShipsThatMeetModel" "ShipsThatMeetModel" "keptFigure" "[I" ∈ ah_tb := List.mem_filter.mpr ⟨List.mem_of_getElem? (i := 927) (by decide +kernel), by decide +kernel⟩
theorem q_929 : Cond.lays "ShipsThatMeetModel" "ShipsThatMeetModel" "hasImage" "Z" ∈ ah_tb := List.mem_filter.mpr ⟨List.mem_of_getElem? (i := 929) (by decide +kernel), by decide +kernel⟩
theorem q_931 : Cond.lays "ShipsThatMeetModel" "ShipsThatMeetModel" "thrown" "I" ∈ ah_tb := List.mem_filter.mpr ⟨List.mem_of_getElem? (i := 931) (by decide +kernel), by decide +kernel⟩
theorem q_933 : Cond.lays "ShipsThatMeetModel" "ShipsThatMeetModel" "firstGiven" "I" ∈ ah_tb := List.mem_filter.mpr ⟨List.mem_of_getElem? (i := 933) (by decide +kernel), by decide +kernel⟩
theorem q_935 : Cond.lays "ShipsThatMeetModel" "ShipsThatMeetModel" "otherGiven" "I" ∈ ah_tb := List.mem_filter.mpr ⟨List.mem_of_getElem? (i := 935) (by decide +kernel), by decide +kernel⟩
theorem q_937 : Cond.lays "ShipsThatMeetModel" "ShipsThatMeetModel" "pos" "I" ∈ ah_tb := List.mem_filter.mpr ⟨List.mem_of_getElem? (i := 937) (by decide +kernel), by decide +kernel⟩
theorem q_939 : Cond.lays "ShipsThatMeetModel" "ShipsThatMeetModel" "base" "I" ∈ ah_tb := List.mem_filter.mpr ⟨List.mem_of_getElem? (i := 939) (by decide +kernel), by decide +kernel⟩
theorem q_941 : Cond.lays "ShipsThatMeetModel" "ShipsThatMeetModel" "end" "I" ∈ ah_tb := List.mem_filter.mpr ⟨List.mem_of_getElem? (i := 941) (by decide +kernel), by decide +kernel⟩
theorem q_943 : Cond.lays "ShipsThatMeetModel" "ShipsThatMeetModel" "told" "I" ∈ ah_tb := List.mem_filter.mpr ⟨List.mem_of_getElem? (i := 943) (by decide +kernel), by decide +kernel⟩
theorem q_945 : Cond.laysFinal "ShipsThatMeetModel" "ShipsThatMeetModel" "numbers" "[I" ∈ ah_tb := List.mem_filter.mpr ⟨List.mem_of_getElem? (i := 945) (by decide +kernel), by decide +kernel⟩
theorem q_947 : Cond.laysFinal "ShipsThatMeetModel" "ShipsThatMeetModel" "likely" "[J" ∈ ah_tb := List.mem_filter.mpr ⟨List.mem_of_getElem? (i := 947) (by decide +kernel), by decide +kernel⟩
theorem q_949 : Cond.laysFinal "ShipsThatMeetModel" "ShipsThatMeetModel" "stack" "[I" ∈ ah_tb := List.mem_filter.mpr ⟨List.mem_of_getElem? (i := 949) (by decide +kernel), by decide +kernel⟩
theorem q_951 : Cond.lays "ShipsThatMeetModel" "ShipsThatMeetModel" "firstMeeting" "I" ∈ ah_tb := List.mem_filter.mpr ⟨List.mem_of_getElem? (i := 951) (by decide +kernel), by decide +kernel⟩
theorem q_953 : Cond.laysFinal "ShipsThatMeetModel" "ShipsThatMeetModel" "wanted" "[I" ∈ ah_tb := List.mem_filter.mpr ⟨List.mem_of_getElem? (i := 953) (by decide +kernel), by decide +kernel⟩
theorem q_955 : Cond.lays "ShipsThatMeetModel" "ShipsThatMeetModel" "seed" "I" ∈ ah_tb := List.mem_filter.mpr ⟨List.mem_of_getElem? (i := 955) (by decide +kernel), by decide +kernel⟩
theorem q_957 : Cond.superclass "ShipsThatMeetModel" "java/lang/Object" ∈ ah_tb := List.mem_filter.mpr ⟨List.mem_of_getElem? (i := 957) (by decide +kernel), by decide +kernel⟩
theorem q_958 : Cond.methodLink "ShipsThatMeetLaw" 145 ⟨"ShipsThatMeetModel", "thrown", "()I"⟩ ∈ ah_tb := List.mem_filter.mpr ⟨List.mem_of_getElem? (i := 958) (by decide +kernel), by decide +kernel⟩
theorem q_959 : Cond.instanceMethod ⟨"ShipsThatMeetModel", "thrown", "()I"⟩ ∈ ah_tb := List.mem_filter.mpr ⟨List.mem_of_getElem? (i := 959) (by decide +kernel), by decide +kernel⟩
theorem q_960 : Cond.selects "ShipsThatMeetModel" ⟨"ShipsThatMeetModel", "thrown", "()I"⟩ ⟨"ShipsThatMeetModel", "thrown", "()I"⟩ ∈ ah_tb := List.mem_filter.mpr ⟨List.mem_of_getElem? (i := 960) (by decide +kernel), by decide +kernel⟩
theorem q_961 : Cond.code ⟨"ShipsThatMeetModel", "thrown", "()I"⟩ prog_13_method_2_code 1 (Option.some FieldType.int) ∈ ah_tb := List.mem_filter.mpr ⟨List.mem_of_getElem? (i := 961) (by decide +kernel), by decide +kernel⟩
theorem q_962 : Cond.methodLink "ShipsThatMeetLaw" 25 ⟨"ShipsThatMeetModel", "fleet", "(I)I"⟩ ∈ ah_tb := List.mem_filter.mpr ⟨List.mem_of_getElem? (i := 962) (by decide +kernel), by decide +kernel⟩
theorem q_963 : Cond.instanceMethod ⟨"ShipsThatMeetModel", "fleet", "(I)I"⟩ ∈ ah_tb := List.mem_filter.mpr ⟨List.mem_of_getElem? (i := 963) (by decide +kernel), by decide +kernel⟩
theorem q_964 : Cond.selects "ShipsThatMeetModel" ⟨"ShipsThatMeetModel", "fleet", "(I)I"⟩ ⟨"ShipsThatMeetModel", "fleet", "(I)I"⟩ ∈ ah_tb := List.mem_filter.mpr ⟨List.mem_of_getElem? (i := 964) (by decide +kernel), by decide +kernel⟩
theorem q_965 : Cond.code ⟨"ShipsThatMeetModel", "fleet", "(I)I"⟩ prog_13_method_29_code 7 (Option.some FieldType.int) ∈ ah_tb := List.mem_filter.mpr ⟨List.mem_of_getElem? (i := 965) (by decide +kernel), by decide +kernel⟩
theorem q_966 : Cond.methodLink "ShipsThatMeetModel" 152 ⟨"ShipsThatMeetModel", "wrongRow", "(II)I"⟩ ∈ ah_tb := List.mem_filter.mpr ⟨List.mem_of_getElem? (i := 966) (by decide +kernel), by decide +kernel⟩
theorem q_968 : Cond.instanceMethod ⟨"ShipsThatMeetModel", "wrongRow", "(II)I"⟩ ∈ ah_tb := List.mem_filter.mpr ⟨List.mem_of_getElem? (i := 968) (by decide +kernel), by decide +kernel⟩
theorem q_969 : Cond.code ⟨"ShipsThatMeetModel", "wrongRow", "(II)I"⟩ prog_13_method_28_code 3 (Option.some FieldType.int) ∈ ah_tb := List.mem_filter.mpr ⟨List.mem_of_getElem? (i := 969) (by decide +kernel), by decide +kernel⟩
theorem q_970 : Cond.methodLink "ShipsThatMeetModel" 149 ⟨"ShipsThatMeetModel", "isShelf", "(I)Z"⟩ ∈ ah_tb := List.mem_filter.mpr ⟨List.mem_of_getElem? (i := 970) (by decide +kernel), by decide +kernel⟩
theorem q_971 : Cond.static ⟨"ShipsThatMeetModel", "isShelf", "(I)Z"⟩ ∈ ah_tb := List.mem_filter.mpr ⟨List.mem_of_getElem? (i := 971) (by decide +kernel), by decide +kernel⟩
theorem q_972 : Cond.code ⟨"ShipsThatMeetModel", "isShelf", "(I)Z"⟩ prog_13_method_4_code 1 (Option.some FieldType.boolean) ∈ ah_tb := List.mem_filter.mpr ⟨List.mem_of_getElem? (i := 972) (by decide +kernel), by decide +kernel⟩
theorem q_973 : Cond.constantLong "ShipsThatMeetModel" 57 (7 : Int64) ∈ ah_tb := List.mem_filter.mpr ⟨List.mem_of_getElem? (i := 973) (by decide +kernel), by decide +kernel⟩
theorem q_974 : Cond.methodLink "ShipsThatMeetModel" 59 ⟨"ShipsThatMeetModel", "isIn", "(JJJ)Z"⟩ ∈ ah_tb := List.mem_filter.mpr ⟨List.mem_of_getElem? (i := 974) (by decide +kernel), by decide +kernel⟩
theorem q_975 : Cond.static ⟨"ShipsThatMeetModel", "isIn", "(JJJ)Z"⟩ ∈ ah_tb := List.mem_filter.mpr ⟨List.mem_of_getElem? (i := 975) (by decide +kernel), by decide +kernel⟩
theorem q_976 : Cond.code ⟨"ShipsThatMeetModel", "isIn", "(JJJ)Z"⟩ prog_13_method_3_code 6 (Option.some FieldType.boolean) ∈ ah_tb := List.mem_filter.mpr ⟨List.mem_of_getElem? (i := 976) (by decide +kernel), by decide +kernel⟩
theorem q_977 : Cond.methodLink "ShipsThatMeetModel" 155 ⟨"ShipsThatMeetModel", "readsStatement", "()Z"⟩ ∈ ah_tb := List.mem_filter.mpr ⟨List.mem_of_getElem? (i := 977) (by decide +kernel), by decide +kernel⟩
theorem q_979 : Cond.instanceMethod ⟨"ShipsThatMeetModel", "readsStatement", "()Z"⟩ ∈ ah_tb := List.mem_filter.mpr ⟨List.mem_of_getElem? (i := 979) (by decide +kernel), by decide +kernel⟩
theorem q_980 : Cond.code ⟨"ShipsThatMeetModel", "readsStatement", "()Z"⟩ prog_13_method_26_code 2 (Option.some FieldType.boolean) ∈ ah_tb := List.mem_filter.mpr ⟨List.mem_of_getElem? (i := 980) (by decide +kernel), by decide +kernel⟩
theorem q_981 : Cond.methodLink "ShipsThatMeetModel" 130 ⟨"ShipsThatMeetModel", "here", "()I"⟩ ∈ ah_tb := List.mem_filter.mpr ⟨List.mem_of_getElem? (i := 981) (by decide +kernel), by decide +kernel⟩
theorem q_983 : Cond.instanceMethod ⟨"ShipsThatMeetModel", "here", "()I"⟩ ∈ ah_tb := List.mem_filter.mpr ⟨List.mem_of_getElem? (i := 983) (by decide +kernel), by decide +kernel⟩
theorem q_984 : Cond.code ⟨"ShipsThatMeetModel", "here", "()I"⟩ prog_13_method_24_code 1 (Option.some FieldType.int) ∈ ah_tb := List.mem_filter.mpr ⟨List.mem_of_getElem? (i := 984) (by decide +kernel), by decide +kernel⟩
theorem q_985 : Cond.methodLink "ShipsThatMeetModel" 138 ⟨"ShipsThatMeetModel", "readsDigits", "(I)Z"⟩ ∈ ah_tb := List.mem_filter.mpr ⟨List.mem_of_getElem? (i := 985) (by decide +kernel), by decide +kernel⟩
theorem q_987 : Cond.instanceMethod ⟨"ShipsThatMeetModel", "readsDigits", "(I)Z"⟩ ∈ ah_tb := List.mem_filter.mpr ⟨List.mem_of_getElem? (i := 987) (by decide +kernel), by decide +kernel⟩
theorem q_988 : Cond.code ⟨"ShipsThatMeetModel", "readsDigits", "(I)Z"⟩ prog_13_method_25_code 3 (Option.some FieldType.boolean) ∈ ah_tb := List.mem_filter.mpr ⟨List.mem_of_getElem? (i := 988) (by decide +kernel), by decide +kernel⟩
theorem q_989 : Cond.constantLong "ShipsThatMeetModel" 134 (48 : Int64) ∈ ah_tb := List.mem_filter.mpr ⟨List.mem_of_getElem? (i := 989) (by decide +kernel), by decide +kernel⟩
theorem q_990 : Cond.constantLong "ShipsThatMeetModel" 136 (57 : Int64) ∈ ah_tb := List.mem_filter.mpr ⟨List.mem_of_getElem? (i := 990) (by decide +kernel), by decide +kernel⟩
theorem q_991 : Cond.methodLink "ShipsThatMeetModel" 159 ⟨"ShipsThatMeetModel", "copies", "([I[I)V"⟩ ∈ ah_tb := List.mem_filter.mpr ⟨List.mem_of_getElem? (i := 991) (by decide +kernel), by decide +kernel⟩
theorem q_992 : Cond.static ⟨"ShipsThatMeetModel", "copies", "([I[I)V"⟩ ∈ ah_tb := List.mem_filter.mpr ⟨List.mem_of_getElem? (i := 992) (by decide +kernel), by decide +kernel⟩
theorem q_993 : Cond.code ⟨"ShipsThatMeetModel", "copies", "([I[I)V"⟩ prog_13_method_11_code 3 none ∈ ah_tb := List.mem_filter.mpr ⟨List.mem_of_getElem? (i := 993) (by decide +kernel), by decide +kernel⟩
theorem q_994 : Cond.methodLink "ShipsThatMeetModel" 163 ⟨"ShipsThatMeetModel", "comes", "(I)Z"⟩ ∈ ah_tb := List.mem_filter.mpr ⟨List.mem_of_getElem? (i := 994) (by decide +kernel), by decide +kernel⟩
theorem q_996 : Cond.instanceMethod ⟨"ShipsThatMeetModel", "comes", "(I)Z"⟩ ∈ ah_tb := List.mem_filter.mpr ⟨List.mem_of_getElem? (i := 996) (by decide +kernel), by decide +kernel⟩
theorem q_997 : Cond.code ⟨"ShipsThatMeetModel", "comes", "(I)Z"⟩ prog_13_method_27_code 5 (Option.some FieldType.boolean) ∈ ah_tb := List.mem_filter.mpr ⟨List.mem_of_getElem? (i := 997) (by decide +kernel), by decide +kernel⟩
theorem q_998 : Cond.methodLink "ShipsThatMeetModel" 104 ⟨"ShipsThatMeetModel", "isShip", "(I)Z"⟩ ∈ ah_tb := List.mem_filter.mpr ⟨List.mem_of_getElem? (i := 998) (by decide +kernel), by decide +kernel⟩
theorem q_1000 : Cond.instanceMethod ⟨"ShipsThatMeetModel", "isShip", "(I)Z"⟩ ∈ ah_tb := List.mem_filter.mpr ⟨List.mem_of_getElem? (i := 1000) (by decide +kernel), by decide +kernel⟩
theorem q_1001 : Cond.code ⟨"ShipsThatMeetModel", "isShip", "(I)Z"⟩ prog_13_method_5_code 2 (Option.some FieldType.boolean) ∈ ah_tb := List.mem_filter.mpr ⟨List.mem_of_getElem? (i := 1001) (by decide +kernel), by decide +kernel⟩
theorem q_1002 : Cond.methodLink "ShipsThatMeetModel" 100 ⟨"ShipsThatMeetModel", "puts", "(III)V"⟩ ∈ ah_tb := List.mem_filter.mpr ⟨List.mem_of_getElem? (i := 1002) (by decide +kernel), by decide +kernel⟩
theorem q_1004 : Cond.instanceMethod ⟨"ShipsThatMeetModel", "puts", "(III)V"⟩ ∈ ah_tb := List.mem_filter.mpr ⟨List.mem_of_getElem? (i := 1004) (by decide +kernel), by decide +kernel⟩
theorem q_1005 : Cond.code ⟨"ShipsThatMeetModel", "puts", "(III)V"⟩ prog_13_method_10_code 4 none ∈ ah_tb := List.mem_filter.mpr ⟨List.mem_of_getElem? (i := 1005) (by decide +kernel), by decide +kernel⟩
theorem q_1006 : Cond.methodLink "ShipsThatMeetModel" 117 ⟨"ShipsThatMeetModel", "sails", "(I)V"⟩ ∈ ah_tb := List.mem_filter.mpr ⟨List.mem_of_getElem? (i := 1006) (by decide +kernel), by decide +kernel⟩
theorem q_1008 : Cond.instanceMethod ⟨"ShipsThatMeetModel", "sails", "(I)V"⟩ ∈ ah_tb := List.mem_filter.mpr ⟨List.mem_of_getElem? (i := 1008) (by decide +kernel), by decide +kernel⟩
theorem q_1009 : Cond.code ⟨"ShipsThatMeetModel", "sails", "(I)V"⟩ prog_13_method_21_code 4 none ∈ ah_tb := List.mem_filter.mpr ⟨List.mem_of_getElem? (i := 1009) (by decide +kernel), by decide +kernel⟩
theorem q_1010 : Cond.methodLink "ShipsThatMeetModel" 74 ⟨"ShipsThatMeetModel", "aboard", "(I)I"⟩ ∈ ah_tb := List.mem_filter.mpr ⟨List.mem_of_getElem? (i := 1010) (by decide +kernel), by decide +kernel⟩
theorem q_1012 : Cond.instanceMethod ⟨"ShipsThatMeetModel", "aboard", "(I)I"⟩ ∈ ah_tb := List.mem_filter.mpr ⟨List.mem_of_getElem? (i := 1012) (by decide +kernel), by decide +kernel⟩
theorem q_1013 : Cond.code ⟨"ShipsThatMeetModel", "aboard", "(I)I"⟩ prog_13_method_13_code 4 (Option.some FieldType.int) ∈ ah_tb := List.mem_filter.mpr ⟨List.mem_of_getElem? (i := 1013) (by decide +kernel), by decide +kernel⟩
theorem q_1014 : Cond.methodLink "ShipsThatMeetModel" 67 ⟨"ShipsThatMeetModel", "get", "(II)I"⟩ ∈ ah_tb := List.mem_filter.mpr ⟨List.mem_of_getElem? (i := 1014) (by decide +kernel), by decide +kernel⟩
theorem q_1016 : Cond.instanceMethod ⟨"ShipsThatMeetModel", "get", "(II)I"⟩ ∈ ah_tb := List.mem_filter.mpr ⟨List.mem_of_getElem? (i := 1016) (by decide +kernel), by decide +kernel⟩
theorem q_1017 : Cond.code ⟨"ShipsThatMeetModel", "get", "(II)I"⟩ prog_13_method_9_code 3 (Option.some FieldType.int) ∈ ah_tb := List.mem_filter.mpr ⟨List.mem_of_getElem? (i := 1017) (by decide +kernel), by decide +kernel⟩
theorem q_1018 : Cond.methodLink "ShipsThatMeetModel" 141 ⟨"ShipsThatMeetModel", "mayMeet", "(II)Z"⟩ ∈ ah_tb := List.mem_filter.mpr ⟨List.mem_of_getElem? (i := 1018) (by decide +kernel), by decide +kernel⟩
theorem q_1020 : Cond.instanceMethod ⟨"ShipsThatMeetModel", "mayMeet", "(II)Z"⟩ ∈ ah_tb := List.mem_filter.mpr ⟨List.mem_of_getElem? (i := 1020) (by decide +kernel), by decide +kernel⟩
theorem q_1021 : Cond.code ⟨"ShipsThatMeetModel", "mayMeet", "(II)Z"⟩ prog_13_method_22_code 3 (Option.some FieldType.boolean) ∈ ah_tb := List.mem_filter.mpr ⟨List.mem_of_getElem? (i := 1021) (by decide +kernel), by decide +kernel⟩
theorem q_1022 : Cond.methodLink "ShipsThatMeetModel" 145 ⟨"ShipsThatMeetModel", "meets", "(II)V"⟩ ∈ ah_tb := List.mem_filter.mpr ⟨List.mem_of_getElem? (i := 1022) (by decide +kernel), by decide +kernel⟩
theorem q_1024 : Cond.instanceMethod ⟨"ShipsThatMeetModel", "meets", "(II)V"⟩ ∈ ah_tb := List.mem_filter.mpr ⟨List.mem_of_getElem? (i := 1024) (by decide +kernel), by decide +kernel⟩
theorem q_1025 : Cond.code ⟨"ShipsThatMeetModel", "meets", "(II)V"⟩ prog_13_method_23_code 3 none ∈ ah_tb := List.mem_filter.mpr ⟨List.mem_of_getElem? (i := 1025) (by decide +kernel), by decide +kernel⟩
theorem q_1026 : Cond.methodLink "ShipsThatMeetModel" 108 ⟨"ShipsThatMeetModel", "gives", "(I)I"⟩ ∈ ah_tb := List.mem_filter.mpr ⟨List.mem_of_getElem? (i := 1026) (by decide +kernel), by decide +kernel⟩
theorem q_1028 : Cond.instanceMethod ⟨"ShipsThatMeetModel", "gives", "(I)I"⟩ ∈ ah_tb := List.mem_filter.mpr ⟨List.mem_of_getElem? (i := 1028) (by decide +kernel), by decide +kernel⟩
theorem q_1029 : Cond.code ⟨"ShipsThatMeetModel", "gives", "(I)I"⟩ prog_13_method_20_code 5 (Option.some FieldType.int) ∈ ah_tb := List.mem_filter.mpr ⟨List.mem_of_getElem? (i := 1029) (by decide +kernel), by decide +kernel⟩
theorem q_1030 : Cond.methodLink "ShipsThatMeetModel" 78 ⟨"ShipsThatMeetModel", "figure", "(I)I"⟩ ∈ ah_tb := List.mem_filter.mpr ⟨List.mem_of_getElem? (i := 1030) (by decide +kernel), by decide +kernel⟩
theorem q_1032 : Cond.instanceMethod ⟨"ShipsThatMeetModel", "figure", "(I)I"⟩ ∈ ah_tb := List.mem_filter.mpr ⟨List.mem_of_getElem? (i := 1032) (by decide +kernel), by decide +kernel⟩
theorem q_1033 : Cond.code ⟨"ShipsThatMeetModel", "figure", "(I)I"⟩ prog_13_method_8_code 2 (Option.some FieldType.int) ∈ ah_tb := List.mem_filter.mpr ⟨List.mem_of_getElem? (i := 1033) (by decide +kernel), by decide +kernel⟩
theorem q_1034 : Cond.methodLink "ShipsThatMeetModel" 81 ⟨"ShipsThatMeetModel", "kind", "(I)I"⟩ ∈ ah_tb := List.mem_filter.mpr ⟨List.mem_of_getElem? (i := 1034) (by decide +kernel), by decide +kernel⟩
theorem q_1036 : Cond.instanceMethod ⟨"ShipsThatMeetModel", "kind", "(I)I"⟩ ∈ ah_tb := List.mem_filter.mpr ⟨List.mem_of_getElem? (i := 1036) (by decide +kernel), by decide +kernel⟩
theorem q_1037 : Cond.code ⟨"ShipsThatMeetModel", "kind", "(I)I"⟩ prog_13_method_7_code 2 (Option.some FieldType.int) ∈ ah_tb := List.mem_filter.mpr ⟨List.mem_of_getElem? (i := 1037) (by decide +kernel), by decide +kernel⟩
theorem q_1038 : Cond.methodLink "ShipsThatMeetModel" 84 ⟨"ShipsThatMeetModel", "bits", "(I)I"⟩ ∈ ah_tb := List.mem_filter.mpr ⟨List.mem_of_getElem? (i := 1038) (by decide +kernel), by decide +kernel⟩
theorem q_1039 : Cond.static ⟨"ShipsThatMeetModel", "bits", "(I)I"⟩ ∈ ah_tb := List.mem_filter.mpr ⟨List.mem_of_getElem? (i := 1039) (by decide +kernel), by decide +kernel⟩
theorem q_1040 : Cond.code ⟨"ShipsThatMeetModel", "bits", "(I)I"⟩ prog_13_method_14_code 3 (Option.some FieldType.int) ∈ ah_tb := List.mem_filter.mpr ⟨List.mem_of_getElem? (i := 1040) (by decide +kernel), by decide +kernel⟩
theorem q_1041 : Cond.methodLink "ShipsThatMeetModel" 87 ⟨"ShipsThatMeetModel", "at", "(II)I"⟩ ∈ ah_tb := List.mem_filter.mpr ⟨List.mem_of_getElem? (i := 1041) (by decide +kernel), by decide +kernel⟩
theorem q_1042 : Cond.static ⟨"ShipsThatMeetModel", "at", "(II)I"⟩ ∈ ah_tb := List.mem_filter.mpr ⟨List.mem_of_getElem? (i := 1042) (by decide +kernel), by decide +kernel⟩
theorem q_1043 : Cond.code ⟨"ShipsThatMeetModel", "at", "(II)I"⟩ prog_13_method_15_code 4 (Option.some FieldType.int) ∈ ah_tb := List.mem_filter.mpr ⟨List.mem_of_getElem? (i := 1043) (by decide +kernel), by decide +kernel⟩
theorem q_1044 : Cond.methodLink "ShipsThatMeetModel" 90 ⟨"ShipsThatMeetModel", "bySince", "(IZ)I"⟩ ∈ ah_tb := List.mem_filter.mpr ⟨List.mem_of_getElem? (i := 1044) (by decide +kernel), by decide +kernel⟩
theorem q_1046 : Cond.instanceMethod ⟨"ShipsThatMeetModel", "bySince", "(IZ)I"⟩ ∈ ah_tb := List.mem_filter.mpr ⟨List.mem_of_getElem? (i := 1046) (by decide +kernel), by decide +kernel⟩
theorem q_1047 : Cond.code ⟨"ShipsThatMeetModel", "bySince", "(IZ)I"⟩ prog_13_method_16_code 5 (Option.some FieldType.int) ∈ ah_tb := List.mem_filter.mpr ⟨List.mem_of_getElem? (i := 1047) (by decide +kernel), by decide +kernel⟩
theorem q_1048 : Cond.methodLink "ShipsThatMeetModel" 94 ⟨"ShipsThatMeetModel", "notOf", "(II)I"⟩ ∈ ah_tb := List.mem_filter.mpr ⟨List.mem_of_getElem? (i := 1048) (by decide +kernel), by decide +kernel⟩
theorem q_1050 : Cond.instanceMethod ⟨"ShipsThatMeetModel", "notOf", "(II)I"⟩ ∈ ah_tb := List.mem_filter.mpr ⟨List.mem_of_getElem? (i := 1050) (by decide +kernel), by decide +kernel⟩
theorem q_1051 : Cond.code ⟨"ShipsThatMeetModel", "notOf", "(II)I"⟩ prog_13_method_17_code 5 (Option.some FieldType.int) ∈ ah_tb := List.mem_filter.mpr ⟨List.mem_of_getElem? (i := 1051) (by decide +kernel), by decide +kernel⟩
theorem q_1052 : Cond.methodLink "ShipsThatMeetModel" 97 ⟨"ShipsThatMeetModel", "bestOf", "(II)I"⟩ ∈ ah_tb := List.mem_filter.mpr ⟨List.mem_of_getElem? (i := 1052) (by decide +kernel), by decide +kernel⟩
theorem q_1054 : Cond.instanceMethod ⟨"ShipsThatMeetModel", "bestOf", "(II)I"⟩ ∈ ah_tb := List.mem_filter.mpr ⟨List.mem_of_getElem? (i := 1054) (by decide +kernel), by decide +kernel⟩
theorem q_1055 : Cond.code ⟨"ShipsThatMeetModel", "bestOf", "(II)I"⟩ prog_13_method_19_code 5 (Option.some FieldType.int) ∈ ah_tb := List.mem_filter.mpr ⟨List.mem_of_getElem? (i := 1055) (by decide +kernel), by decide +kernel⟩
theorem q_1056 : Cond.methodLink "ShipsThatMeetModel" 71 ⟨"ShipsThatMeetModel", "likeTongue", "(II)I"⟩ ∈ ah_tb := List.mem_filter.mpr ⟨List.mem_of_getElem? (i := 1056) (by decide +kernel), by decide +kernel⟩
theorem q_1058 : Cond.instanceMethod ⟨"ShipsThatMeetModel", "likeTongue", "(II)I"⟩ ∈ ah_tb := List.mem_filter.mpr ⟨List.mem_of_getElem? (i := 1058) (by decide +kernel), by decide +kernel⟩
theorem q_1059 : Cond.code ⟨"ShipsThatMeetModel", "likeTongue", "(II)I"⟩ prog_13_method_18_code 5 (Option.some FieldType.int) ∈ ah_tb := List.mem_filter.mpr ⟨List.mem_of_getElem? (i := 1059) (by decide +kernel), by decide +kernel⟩
theorem q_1060 : Cond.methodLink "ShipsThatMeetLaw" 30 ⟨"ShipsThatMeetModel", "ship", "(II)I"⟩ ∈ ah_tb := List.mem_filter.mpr ⟨List.mem_of_getElem? (i := 1060) (by decide +kernel), by decide +kernel⟩
theorem q_1061 : Cond.instanceMethod ⟨"ShipsThatMeetModel", "ship", "(II)I"⟩ ∈ ah_tb := List.mem_filter.mpr ⟨List.mem_of_getElem? (i := 1061) (by decide +kernel), by decide +kernel⟩
theorem q_1062 : Cond.selects "ShipsThatMeetModel" ⟨"ShipsThatMeetModel", "ship", "(II)I"⟩ ⟨"ShipsThatMeetModel", "ship", "(II)I"⟩ ∈ ah_tb := List.mem_filter.mpr ⟨List.mem_of_getElem? (i := 1062) (by decide +kernel), by decide +kernel⟩
theorem q_1063 : Cond.code ⟨"ShipsThatMeetModel", "ship", "(II)I"⟩ prog_13_method_30_code 3 (Option.some FieldType.int) ∈ ah_tb := List.mem_filter.mpr ⟨List.mem_of_getElem? (i := 1063) (by decide +kernel), by decide +kernel⟩
theorem q_1064 : Cond.methodLink "ShipsThatMeetLaw" 34 ⟨"ShipsThatMeetModel", "man", "(II)I"⟩ ∈ ah_tb := List.mem_filter.mpr ⟨List.mem_of_getElem? (i := 1064) (by decide +kernel), by decide +kernel⟩
theorem q_1065 : Cond.instanceMethod ⟨"ShipsThatMeetModel", "man", "(II)I"⟩ ∈ ah_tb := List.mem_filter.mpr ⟨List.mem_of_getElem? (i := 1065) (by decide +kernel), by decide +kernel⟩
theorem q_1066 : Cond.selects "ShipsThatMeetModel" ⟨"ShipsThatMeetModel", "man", "(II)I"⟩ ⟨"ShipsThatMeetModel", "man", "(II)I"⟩ ∈ ah_tb := List.mem_filter.mpr ⟨List.mem_of_getElem? (i := 1066) (by decide +kernel), by decide +kernel⟩
theorem q_1067 : Cond.code ⟨"ShipsThatMeetModel", "man", "(II)I"⟩ prog_13_method_31_code 3 (Option.some FieldType.int) ∈ ah_tb := List.mem_filter.mpr ⟨List.mem_of_getElem? (i := 1067) (by decide +kernel), by decide +kernel⟩
theorem q_1068 : Cond.methodLink "ShipsThatMeetModel" 166 ⟨"ShipsThatMeetModel", "isMan", "(I)Z"⟩ ∈ ah_tb := List.mem_filter.mpr ⟨List.mem_of_getElem? (i := 1068) (by decide +kernel), by decide +kernel⟩
theorem q_1070 : Cond.instanceMethod ⟨"ShipsThatMeetModel", "isMan", "(I)Z"⟩ ∈ ah_tb := List.mem_filter.mpr ⟨List.mem_of_getElem? (i := 1070) (by decide +kernel), by decide +kernel⟩
theorem q_1071 : Cond.code ⟨"ShipsThatMeetModel", "isMan", "(I)Z"⟩ prog_13_method_6_code 2 (Option.some FieldType.boolean) ∈ ah_tb := List.mem_filter.mpr ⟨List.mem_of_getElem? (i := 1071) (by decide +kernel), by decide +kernel⟩
theorem q_1072 : Cond.constantLong "ShipsThatMeetModel" 169 (3 : Int64) ∈ ah_tb := List.mem_filter.mpr ⟨List.mem_of_getElem? (i := 1072) (by decide +kernel), by decide +kernel⟩
theorem q_1073 : Cond.methodLink "ShipsThatMeetLaw" 38 ⟨"ShipsThatMeetModel", "commands", "(II)I"⟩ ∈ ah_tb := List.mem_filter.mpr ⟨List.mem_of_getElem? (i := 1073) (by decide +kernel), by decide +kernel⟩
theorem q_1074 : Cond.instanceMethod ⟨"ShipsThatMeetModel", "commands", "(II)I"⟩ ∈ ah_tb := List.mem_filter.mpr ⟨List.mem_of_getElem? (i := 1074) (by decide +kernel), by decide +kernel⟩
theorem q_1075 : Cond.selects "ShipsThatMeetModel" ⟨"ShipsThatMeetModel", "commands", "(II)I"⟩ ⟨"ShipsThatMeetModel", "commands", "(II)I"⟩ ∈ ah_tb := List.mem_filter.mpr ⟨List.mem_of_getElem? (i := 1075) (by decide +kernel), by decide +kernel⟩
theorem q_1076 : Cond.code ⟨"ShipsThatMeetModel", "commands", "(II)I"⟩ prog_13_method_33_code 4 (Option.some FieldType.int) ∈ ah_tb := List.mem_filter.mpr ⟨List.mem_of_getElem? (i := 1076) (by decide +kernel), by decide +kernel⟩
theorem q_1077 : Cond.methodLink "ShipsThatMeetModel" 171 ⟨"ShipsThatMeetModel", "wrongKept", "(I)I"⟩ ∈ ah_tb := List.mem_filter.mpr ⟨List.mem_of_getElem? (i := 1077) (by decide +kernel), by decide +kernel⟩
theorem q_1079 : Cond.instanceMethod ⟨"ShipsThatMeetModel", "wrongKept", "(I)I"⟩ ∈ ah_tb := List.mem_filter.mpr ⟨List.mem_of_getElem? (i := 1079) (by decide +kernel), by decide +kernel⟩
theorem q_1080 : Cond.code ⟨"ShipsThatMeetModel", "wrongKept", "(I)I"⟩ prog_13_method_32_code 2 (Option.some FieldType.int) ∈ ah_tb := List.mem_filter.mpr ⟨List.mem_of_getElem? (i := 1080) (by decide +kernel), by decide +kernel⟩
theorem q_1081 : Cond.methodLink "ShipsThatMeetLaw" 42 ⟨"ShipsThatMeetModel", "meet", "(II)I"⟩ ∈ ah_tb := List.mem_filter.mpr ⟨List.mem_of_getElem? (i := 1081) (by decide +kernel), by decide +kernel⟩
theorem q_1082 : Cond.instanceMethod ⟨"ShipsThatMeetModel", "meet", "(II)I"⟩ ∈ ah_tb := List.mem_filter.mpr ⟨List.mem_of_getElem? (i := 1082) (by decide +kernel), by decide +kernel⟩
theorem q_1083 : Cond.selects "ShipsThatMeetModel" ⟨"ShipsThatMeetModel", "meet", "(II)I"⟩ ⟨"ShipsThatMeetModel", "meet", "(II)I"⟩ ∈ ah_tb := List.mem_filter.mpr ⟨List.mem_of_getElem? (i := 1083) (by decide +kernel), by decide +kernel⟩
theorem q_1084 : Cond.code ⟨"ShipsThatMeetModel", "meet", "(II)I"⟩ prog_13_method_34_code 3 (Option.some FieldType.int) ∈ ah_tb := List.mem_filter.mpr ⟨List.mem_of_getElem? (i := 1084) (by decide +kernel), by decide +kernel⟩
theorem q_1085 : Cond.methodLink "ShipsThatMeetLaw" 46 ⟨"ShipsThatMeetModel", "where", "(II)I"⟩ ∈ ah_tb := List.mem_filter.mpr ⟨List.mem_of_getElem? (i := 1085) (by decide +kernel), by decide +kernel⟩
theorem q_1086 : Cond.instanceMethod ⟨"ShipsThatMeetModel", "where", "(II)I"⟩ ∈ ah_tb := List.mem_filter.mpr ⟨List.mem_of_getElem? (i := 1086) (by decide +kernel), by decide +kernel⟩
theorem q_1087 : Cond.selects "ShipsThatMeetModel" ⟨"ShipsThatMeetModel", "where", "(II)I"⟩ ⟨"ShipsThatMeetModel", "where", "(II)I"⟩ ∈ ah_tb := List.mem_filter.mpr ⟨List.mem_of_getElem? (i := 1087) (by decide +kernel), by decide +kernel⟩
theorem q_1088 : Cond.code ⟨"ShipsThatMeetModel", "where", "(II)I"⟩ prog_13_method_42_code 6 (Option.some FieldType.int) ∈ ah_tb := List.mem_filter.mpr ⟨List.mem_of_getElem? (i := 1088) (by decide +kernel), by decide +kernel⟩
theorem q_1089 : Cond.methodLink "ShipsThatMeetModel" 180 ⟨"ShipsThatMeetModel", "wrongMeetings", "(I)I"⟩ ∈ ah_tb := List.mem_filter.mpr ⟨List.mem_of_getElem? (i := 1089) (by decide +kernel), by decide +kernel⟩
theorem q_1091 : Cond.instanceMethod ⟨"ShipsThatMeetModel", "wrongMeetings", "(I)I"⟩ ∈ ah_tb := List.mem_filter.mpr ⟨List.mem_of_getElem? (i := 1091) (by decide +kernel), by decide +kernel⟩
theorem q_1092 : Cond.code ⟨"ShipsThatMeetModel", "wrongMeetings", "(I)I"⟩ prog_13_method_35_code 6 (Option.some FieldType.int) ∈ ah_tb := List.mem_filter.mpr ⟨List.mem_of_getElem? (i := 1092) (by decide +kernel), by decide +kernel⟩
theorem q_1093 : Cond.methodLink "ShipsThatMeetModel" 183 ⟨"ShipsThatMeetModel", "begins", "()V"⟩ ∈ ah_tb := List.mem_filter.mpr ⟨List.mem_of_getElem? (i := 1093) (by decide +kernel), by decide +kernel⟩
theorem q_1095 : Cond.instanceMethod ⟨"ShipsThatMeetModel", "begins", "()V"⟩ ∈ ah_tb := List.mem_filter.mpr ⟨List.mem_of_getElem? (i := 1095) (by decide +kernel), by decide +kernel⟩
theorem q_1096 : Cond.code ⟨"ShipsThatMeetModel", "begins", "()V"⟩ prog_13_method_40_code 1 none ∈ ah_tb := List.mem_filter.mpr ⟨List.mem_of_getElem? (i := 1096) (by decide +kernel), by decide +kernel⟩
theorem q_1097 : Cond.methodLink "ShipsThatMeetModel" 186 ⟨"ShipsThatMeetModel", "meetings", "(I)I"⟩ ∈ ah_tb := List.mem_filter.mpr ⟨List.mem_of_getElem? (i := 1097) (by decide +kernel), by decide +kernel⟩
theorem q_1099 : Cond.instanceMethod ⟨"ShipsThatMeetModel", "meetings", "(I)I"⟩ ∈ ah_tb := List.mem_filter.mpr ⟨List.mem_of_getElem? (i := 1099) (by decide +kernel), by decide +kernel⟩
theorem q_1100 : Cond.code ⟨"ShipsThatMeetModel", "meetings", "(I)I"⟩ prog_13_method_38_code 2 (Option.some FieldType.int) ∈ ah_tb := List.mem_filter.mpr ⟨List.mem_of_getElem? (i := 1100) (by decide +kernel), by decide +kernel⟩
theorem q_1101 : Cond.methodLink "ShipsThatMeetModel" 189 ⟨"ShipsThatMeetModel", "meetsTold", "(II)Z"⟩ ∈ ah_tb := List.mem_filter.mpr ⟨List.mem_of_getElem? (i := 1101) (by decide +kernel), by decide +kernel⟩
theorem q_1103 : Cond.instanceMethod ⟨"ShipsThatMeetModel", "meetsTold", "(II)Z"⟩ ∈ ah_tb := List.mem_filter.mpr ⟨List.mem_of_getElem? (i := 1103) (by decide +kernel), by decide +kernel⟩
theorem q_1104 : Cond.code ⟨"ShipsThatMeetModel", "meetsTold", "(II)Z"⟩ prog_13_method_39_code 3 (Option.some FieldType.boolean) ∈ ah_tb := List.mem_filter.mpr ⟨List.mem_of_getElem? (i := 1104) (by decide +kernel), by decide +kernel⟩
theorem q_1105 : Cond.methodLink "ShipsThatMeetModel" 174 ⟨"ShipsThatMeetModel", "first", "(II)I"⟩ ∈ ah_tb := List.mem_filter.mpr ⟨List.mem_of_getElem? (i := 1105) (by decide +kernel), by decide +kernel⟩
theorem q_1107 : Cond.instanceMethod ⟨"ShipsThatMeetModel", "first", "(II)I"⟩ ∈ ah_tb := List.mem_filter.mpr ⟨List.mem_of_getElem? (i := 1107) (by decide +kernel), by decide +kernel⟩
theorem q_1108 : Cond.code ⟨"ShipsThatMeetModel", "first", "(II)I"⟩ prog_13_method_36_code 3 (Option.some FieldType.int) ∈ ah_tb := List.mem_filter.mpr ⟨List.mem_of_getElem? (i := 1108) (by decide +kernel), by decide +kernel⟩
theorem q_1109 : Cond.methodLink "ShipsThatMeetModel" 177 ⟨"ShipsThatMeetModel", "second", "(II)I"⟩ ∈ ah_tb := List.mem_filter.mpr ⟨List.mem_of_getElem? (i := 1109) (by decide +kernel), by decide +kernel⟩
theorem q_1111 : Cond.instanceMethod ⟨"ShipsThatMeetModel", "second", "(II)I"⟩ ∈ ah_tb := List.mem_filter.mpr ⟨List.mem_of_getElem? (i := 1111) (by decide +kernel), by decide +kernel⟩
theorem q_1112 : Cond.code ⟨"ShipsThatMeetModel", "second", "(II)I"⟩ prog_13_method_37_code 3 (Option.some FieldType.int) ∈ ah_tb := List.mem_filter.mpr ⟨List.mem_of_getElem? (i := 1112) (by decide +kernel), by decide +kernel⟩
theorem q_1113 : Cond.methodLink "ShipsThatMeetModel" 192 ⟨"ShipsThatMeetModel", "ends", "()V"⟩ ∈ ah_tb := List.mem_filter.mpr ⟨List.mem_of_getElem? (i := 1113) (by decide +kernel), by decide +kernel⟩
theorem q_1115 : Cond.instanceMethod ⟨"ShipsThatMeetModel", "ends", "()V"⟩ ∈ ah_tb := List.mem_filter.mpr ⟨List.mem_of_getElem? (i := 1115) (by decide +kernel), by decide +kernel⟩
theorem q_1116 : Cond.code ⟨"ShipsThatMeetModel", "ends", "()V"⟩ prog_13_method_41_code 1 none ∈ ah_tb := List.mem_filter.mpr ⟨List.mem_of_getElem? (i := 1116) (by decide +kernel), by decide +kernel⟩
theorem q_1117 : Cond.methodLink "ShipsThatMeetLaw" 50 ⟨"ShipsThatMeetModel", "can", "(II)I"⟩ ∈ ah_tb := List.mem_filter.mpr ⟨List.mem_of_getElem? (i := 1117) (by decide +kernel), by decide +kernel⟩
theorem q_1118 : Cond.instanceMethod ⟨"ShipsThatMeetModel", "can", "(II)I"⟩ ∈ ah_tb := List.mem_filter.mpr ⟨List.mem_of_getElem? (i := 1118) (by decide +kernel), by decide +kernel⟩
theorem q_1119 : Cond.selects "ShipsThatMeetModel" ⟨"ShipsThatMeetModel", "can", "(II)I"⟩ ⟨"ShipsThatMeetModel", "can", "(II)I"⟩ ∈ ah_tb := List.mem_filter.mpr ⟨List.mem_of_getElem? (i := 1119) (by decide +kernel), by decide +kernel⟩
theorem q_1120 : Cond.code ⟨"ShipsThatMeetModel", "can", "(II)I"⟩ prog_13_method_44_code 6 (Option.some FieldType.int) ∈ ah_tb := List.mem_filter.mpr ⟨List.mem_of_getElem? (i := 1120) (by decide +kernel), by decide +kernel⟩
theorem q_1121 : Cond.methodLink "ShipsThatMeetModel" 195 ⟨"ShipsThatMeetModel", "mayBe", "(III)I"⟩ ∈ ah_tb := List.mem_filter.mpr ⟨List.mem_of_getElem? (i := 1121) (by decide +kernel), by decide +kernel⟩
theorem q_1123 : Cond.instanceMethod ⟨"ShipsThatMeetModel", "mayBe", "(III)I"⟩ ∈ ah_tb := List.mem_filter.mpr ⟨List.mem_of_getElem? (i := 1123) (by decide +kernel), by decide +kernel⟩
theorem q_1124 : Cond.code ⟨"ShipsThatMeetModel", "mayBe", "(III)I"⟩ prog_13_method_43_code 5 (Option.some FieldType.int) ∈ ah_tb := List.mem_filter.mpr ⟨List.mem_of_getElem? (i := 1124) (by decide +kernel), by decide +kernel⟩
theorem q_1125 : Cond.methodLink "ShipsThatMeetLaw" 55 ⟨"ShipsThatMeetModel", "soonest", "(III)I"⟩ ∈ ah_tb := List.mem_filter.mpr ⟨List.mem_of_getElem? (i := 1125) (by decide +kernel), by decide +kernel⟩
theorem q_1126 : Cond.instanceMethod ⟨"ShipsThatMeetModel", "soonest", "(III)I"⟩ ∈ ah_tb := List.mem_filter.mpr ⟨List.mem_of_getElem? (i := 1126) (by decide +kernel), by decide +kernel⟩
theorem q_1127 : Cond.selects "ShipsThatMeetModel" ⟨"ShipsThatMeetModel", "soonest", "(III)I"⟩ ⟨"ShipsThatMeetModel", "soonest", "(III)I"⟩ ∈ ah_tb := List.mem_filter.mpr ⟨List.mem_of_getElem? (i := 1127) (by decide +kernel), by decide +kernel⟩
theorem q_1128 : Cond.code ⟨"ShipsThatMeetModel", "soonest", "(III)I"⟩ prog_13_method_45_code 7 (Option.some FieldType.int) ∈ ah_tb := List.mem_filter.mpr ⟨List.mem_of_getElem? (i := 1128) (by decide +kernel), by decide +kernel⟩
theorem q_1129 : Cond.methodLink "ShipsThatMeetLaw" 60 ⟨"ShipsThatMeetModel", "likely", "(IIII)J"⟩ ∈ ah_tb := List.mem_filter.mpr ⟨List.mem_of_getElem? (i := 1129) (by decide +kernel), by decide +kernel⟩
theorem q_1130 : Cond.instanceMethod ⟨"ShipsThatMeetModel", "likely", "(IIII)J"⟩ ∈ ah_tb := List.mem_filter.mpr ⟨List.mem_of_getElem? (i := 1130) (by decide +kernel), by decide +kernel⟩
theorem q_1131 : Cond.selects "ShipsThatMeetModel" ⟨"ShipsThatMeetModel", "likely", "(IIII)J"⟩ ⟨"ShipsThatMeetModel", "likely", "(IIII)J"⟩ ∈ ah_tb := List.mem_filter.mpr ⟨List.mem_of_getElem? (i := 1131) (by decide +kernel), by decide +kernel⟩
theorem q_1132 : Cond.code ⟨"ShipsThatMeetModel", "likely", "(IIII)J"⟩ prog_13_method_46_code 18 (Option.some FieldType.long) ∈ ah_tb := List.mem_filter.mpr ⟨List.mem_of_getElem? (i := 1132) (by decide +kernel), by decide +kernel⟩
theorem q_1133 : Cond.constant "ShipsThatMeetModel" 199 (-1000000000 : Int32) ∈ ah_tb := List.mem_filter.mpr ⟨List.mem_of_getElem? (i := 1133) (by decide +kernel), by decide +kernel⟩
theorem q_1134 : Cond.methodLink "ShipsThatMeetModel" 63 ⟨"ShipsThatMeetModel", "common", "(JJ)J"⟩ ∈ ah_tb := List.mem_filter.mpr ⟨List.mem_of_getElem? (i := 1134) (by decide +kernel), by decide +kernel⟩
theorem q_1135 : Cond.static ⟨"ShipsThatMeetModel", "common", "(JJ)J"⟩ ∈ ah_tb := List.mem_filter.mpr ⟨List.mem_of_getElem? (i := 1135) (by decide +kernel), by decide +kernel⟩
theorem q_1136 : Cond.code ⟨"ShipsThatMeetModel", "common", "(JJ)J"⟩ prog_13_method_12_code 4 (Option.some FieldType.long) ∈ ah_tb := List.mem_filter.mpr ⟨List.mem_of_getElem? (i := 1136) (by decide +kernel), by decide +kernel⟩
theorem q_1137 : Cond.methodLink "ShipsThatMeetLaw" 64 ⟨"ShipsThatMeetModel", "fewest", "(III)I"⟩ ∈ ah_tb := List.mem_filter.mpr ⟨List.mem_of_getElem? (i := 1137) (by decide +kernel), by decide +kernel⟩
theorem q_1138 : Cond.instanceMethod ⟨"ShipsThatMeetModel", "fewest", "(III)I"⟩ ∈ ah_tb := List.mem_filter.mpr ⟨List.mem_of_getElem? (i := 1138) (by decide +kernel), by decide +kernel⟩
theorem q_1139 : Cond.selects "ShipsThatMeetModel" ⟨"ShipsThatMeetModel", "fewest", "(III)I"⟩ ⟨"ShipsThatMeetModel", "fewest", "(III)I"⟩ ∈ ah_tb := List.mem_filter.mpr ⟨List.mem_of_getElem? (i := 1139) (by decide +kernel), by decide +kernel⟩
theorem q_1140 : Cond.code ⟨"ShipsThatMeetModel", "fewest", "(III)I"⟩ prog_13_method_52_code 5 (Option.some FieldType.int) ∈ ah_tb := List.mem_filter.mpr ⟨List.mem_of_getElem? (i := 1140) (by decide +kernel), by decide +kernel⟩
theorem q_1141 : Cond.methodLink "ShipsThatMeetModel" 215 ⟨"ShipsThatMeetModel", "fewestBy", "(I)I"⟩ ∈ ah_tb := List.mem_filter.mpr ⟨List.mem_of_getElem? (i := 1141) (by decide +kernel), by decide +kernel⟩
theorem q_1143 : Cond.instanceMethod ⟨"ShipsThatMeetModel", "fewestBy", "(I)I"⟩ ∈ ah_tb := List.mem_filter.mpr ⟨List.mem_of_getElem? (i := 1143) (by decide +kernel), by decide +kernel⟩
theorem q_1144 : Cond.code ⟨"ShipsThatMeetModel", "fewestBy", "(I)I"⟩ prog_13_method_51_code 3 (Option.some FieldType.int) ∈ ah_tb := List.mem_filter.mpr ⟨List.mem_of_getElem? (i := 1144) (by decide +kernel), by decide +kernel⟩
theorem q_1145 : Cond.methodLink "ShipsThatMeetModel" 206 ⟨"ShipsThatMeetModel", "comesBy", "(II)Z"⟩ ∈ ah_tb := List.mem_filter.mpr ⟨List.mem_of_getElem? (i := 1145) (by decide +kernel), by decide +kernel⟩
theorem q_1147 : Cond.instanceMethod ⟨"ShipsThatMeetModel", "comesBy", "(II)Z"⟩ ∈ ah_tb := List.mem_filter.mpr ⟨List.mem_of_getElem? (i := 1147) (by decide +kernel), by decide +kernel⟩
theorem q_1148 : Cond.code ⟨"ShipsThatMeetModel", "comesBy", "(II)Z"⟩ prog_13_method_50_code 6 (Option.some FieldType.boolean) ∈ ah_tb := List.mem_filter.mpr ⟨List.mem_of_getElem? (i := 1148) (by decide +kernel), by decide +kernel⟩
theorem q_1149 : Cond.methodLink "ShipsThatMeetModel" 200 ⟨"ShipsThatMeetModel", "isWanted", "()Z"⟩ ∈ ah_tb := List.mem_filter.mpr ⟨List.mem_of_getElem? (i := 1149) (by decide +kernel), by decide +kernel⟩
theorem q_1151 : Cond.instanceMethod ⟨"ShipsThatMeetModel", "isWanted", "()Z"⟩ ∈ ah_tb := List.mem_filter.mpr ⟨List.mem_of_getElem? (i := 1151) (by decide +kernel), by decide +kernel⟩
theorem q_1152 : Cond.code ⟨"ShipsThatMeetModel", "isWanted", "()Z"⟩ prog_13_method_49_code 2 (Option.some FieldType.boolean) ∈ ah_tb := List.mem_filter.mpr ⟨List.mem_of_getElem? (i := 1152) (by decide +kernel), by decide +kernel⟩
theorem q_1153 : Cond.methodLink "ShipsThatMeetModel" 203 ⟨"ShipsThatMeetModel", "keeps", "(I)V"⟩ ∈ ah_tb := List.mem_filter.mpr ⟨List.mem_of_getElem? (i := 1153) (by decide +kernel), by decide +kernel⟩
theorem q_1155 : Cond.instanceMethod ⟨"ShipsThatMeetModel", "keeps", "(I)V"⟩ ∈ ah_tb := List.mem_filter.mpr ⟨List.mem_of_getElem? (i := 1155) (by decide +kernel), by decide +kernel⟩
theorem q_1156 : Cond.code ⟨"ShipsThatMeetModel", "keeps", "(I)V"⟩ prog_13_method_47_code 3 none ∈ ah_tb := List.mem_filter.mpr ⟨List.mem_of_getElem? (i := 1156) (by decide +kernel), by decide +kernel⟩
theorem q_1157 : Cond.methodLink "ShipsThatMeetModel" 209 ⟨"ShipsThatMeetModel", "back", "(I)V"⟩ ∈ ah_tb := List.mem_filter.mpr ⟨List.mem_of_getElem? (i := 1157) (by decide +kernel), by decide +kernel⟩
theorem q_1159 : Cond.instanceMethod ⟨"ShipsThatMeetModel", "back", "(I)V"⟩ ∈ ah_tb := List.mem_filter.mpr ⟨List.mem_of_getElem? (i := 1159) (by decide +kernel), by decide +kernel⟩
theorem q_1160 : Cond.code ⟨"ShipsThatMeetModel", "back", "(I)V"⟩ prog_13_method_48_code 3 none ∈ ah_tb := List.mem_filter.mpr ⟨List.mem_of_getElem? (i := 1160) (by decide +kernel), by decide +kernel⟩
theorem q_1161 : Cond.methodLink "ShipsThatMeetLaw" 68 ⟨"ShipsThatMeetModel", "crews", "(I)I"⟩ ∈ ah_tb := List.mem_filter.mpr ⟨List.mem_of_getElem? (i := 1161) (by decide +kernel), by decide +kernel⟩
theorem q_1162 : Cond.instanceMethod ⟨"ShipsThatMeetModel", "crews", "(I)I"⟩ ∈ ah_tb := List.mem_filter.mpr ⟨List.mem_of_getElem? (i := 1162) (by decide +kernel), by decide +kernel⟩
theorem q_1163 : Cond.selects "ShipsThatMeetModel" ⟨"ShipsThatMeetModel", "crews", "(I)I"⟩ ⟨"ShipsThatMeetModel", "crews", "(I)I"⟩ ∈ ah_tb := List.mem_filter.mpr ⟨List.mem_of_getElem? (i := 1163) (by decide +kernel), by decide +kernel⟩
theorem q_1164 : Cond.code ⟨"ShipsThatMeetModel", "crews", "(I)I"⟩ prog_13_method_53_code 4 (Option.some FieldType.int) ∈ ah_tb := List.mem_filter.mpr ⟨List.mem_of_getElem? (i := 1164) (by decide +kernel), by decide +kernel⟩
theorem q_1165 : Cond.methodLink "ShipsThatMeetLaw" 72 ⟨"ShipsThatMeetModel", "sailed", "(I)I"⟩ ∈ ah_tb := List.mem_filter.mpr ⟨List.mem_of_getElem? (i := 1165) (by decide +kernel), by decide +kernel⟩
theorem q_1166 : Cond.instanceMethod ⟨"ShipsThatMeetModel", "sailed", "(I)I"⟩ ∈ ah_tb := List.mem_filter.mpr ⟨List.mem_of_getElem? (i := 1166) (by decide +kernel), by decide +kernel⟩
theorem q_1167 : Cond.selects "ShipsThatMeetModel" ⟨"ShipsThatMeetModel", "sailed", "(I)I"⟩ ⟨"ShipsThatMeetModel", "sailed", "(I)I"⟩ ∈ ah_tb := List.mem_filter.mpr ⟨List.mem_of_getElem? (i := 1167) (by decide +kernel), by decide +kernel⟩
theorem q_1168 : Cond.code ⟨"ShipsThatMeetModel", "sailed", "(I)I"⟩ prog_13_method_54_code 2 (Option.some FieldType.int) ∈ ah_tb := List.mem_filter.mpr ⟨List.mem_of_getElem? (i := 1168) (by decide +kernel), by decide +kernel⟩
theorem q_1169 : Cond.methodLink "ShipsThatMeetLaw" 77 ⟨"ShipsThatMeetModel", "never", "()I"⟩ ∈ ah_tb := List.mem_filter.mpr ⟨List.mem_of_getElem? (i := 1169) (by decide +kernel), by decide +kernel⟩
theorem q_1170 : Cond.instanceMethod ⟨"ShipsThatMeetModel", "never", "()I"⟩ ∈ ah_tb := List.mem_filter.mpr ⟨List.mem_of_getElem? (i := 1170) (by decide +kernel), by decide +kernel⟩
theorem q_1171 : Cond.selects "ShipsThatMeetModel" ⟨"ShipsThatMeetModel", "never", "()I"⟩ ⟨"ShipsThatMeetModel", "never", "()I"⟩ ∈ ah_tb := List.mem_filter.mpr ⟨List.mem_of_getElem? (i := 1171) (by decide +kernel), by decide +kernel⟩
theorem q_1172 : Cond.code ⟨"ShipsThatMeetModel", "never", "()I"⟩ prog_13_method_55_code 4 (Option.some FieldType.int) ∈ ah_tb := List.mem_filter.mpr ⟨List.mem_of_getElem? (i := 1172) (by decide +kernel), by decide +kernel⟩
theorem q_1173 : Cond.methodLink "ShipsThatMeetLaw" 81 ⟨"ShipsThatMeetModel", "mixed", "()I"⟩ ∈ ah_tb := List.mem_filter.mpr ⟨List.mem_of_getElem? (i := 1173) (by decide +kernel), by decide +kernel⟩
theorem q_1174 : Cond.instanceMethod ⟨"ShipsThatMeetModel", "mixed", "()I"⟩ ∈ ah_tb := List.mem_filter.mpr ⟨List.mem_of_getElem? (i := 1174) (by decide +kernel), by decide +kernel⟩
theorem q_1175 : Cond.selects "ShipsThatMeetModel" ⟨"ShipsThatMeetModel", "mixed", "()I"⟩ ⟨"ShipsThatMeetModel", "mixed", "()I"⟩ ∈ ah_tb := List.mem_filter.mpr ⟨List.mem_of_getElem? (i := 1175) (by decide +kernel), by decide +kernel⟩
theorem q_1176 : Cond.code ⟨"ShipsThatMeetModel", "mixed", "()I"⟩ prog_13_method_57_code 1 (Option.some FieldType.int) ∈ ah_tb := List.mem_filter.mpr ⟨List.mem_of_getElem? (i := 1176) (by decide +kernel), by decide +kernel⟩
theorem q_1177 : Cond.methodLink "ShipsThatMeetModel" 218 ⟨"ShipsThatMeetModel", "mixedNow", "()I"⟩ ∈ ah_tb := List.mem_filter.mpr ⟨List.mem_of_getElem? (i := 1177) (by decide +kernel), by decide +kernel⟩
theorem q_1179 : Cond.instanceMethod ⟨"ShipsThatMeetModel", "mixedNow", "()I"⟩ ∈ ah_tb := List.mem_filter.mpr ⟨List.mem_of_getElem? (i := 1179) (by decide +kernel), by decide +kernel⟩
theorem q_1180 : Cond.code ⟨"ShipsThatMeetModel", "mixedNow", "()I"⟩ prog_13_method_56_code 4 (Option.some FieldType.int) ∈ ah_tb := List.mem_filter.mpr ⟨List.mem_of_getElem? (i := 1180) (by decide +kernel), by decide +kernel⟩
theorem q_1181 : Cond.methodLink "ShipsThatMeetLaw" 85 ⟨"ShipsThatMeetModel", "mixesMost", "()I"⟩ ∈ ah_tb := List.mem_filter.mpr ⟨List.mem_of_getElem? (i := 1181) (by decide +kernel), by decide +kernel⟩
theorem q_1182 : Cond.instanceMethod ⟨"ShipsThatMeetModel", "mixesMost", "()I"⟩ ∈ ah_tb := List.mem_filter.mpr ⟨List.mem_of_getElem? (i := 1182) (by decide +kernel), by decide +kernel⟩
theorem q_1183 : Cond.selects "ShipsThatMeetModel" ⟨"ShipsThatMeetModel", "mixesMost", "()I"⟩ ⟨"ShipsThatMeetModel", "mixesMost", "()I"⟩ ∈ ah_tb := List.mem_filter.mpr ⟨List.mem_of_getElem? (i := 1183) (by decide +kernel), by decide +kernel⟩
theorem q_1184 : Cond.code ⟨"ShipsThatMeetModel", "mixesMost", "()I"⟩ prog_13_method_58_code 6 (Option.some FieldType.int) ∈ ah_tb := List.mem_filter.mpr ⟨List.mem_of_getElem? (i := 1184) (by decide +kernel), by decide +kernel⟩
theorem q_1185 : Cond.methodLink "ShipsThatMeetLaw" 89 ⟨"ShipsThatMeetModel", "lacks", "(I)I"⟩ ∈ ah_tb := List.mem_filter.mpr ⟨List.mem_of_getElem? (i := 1185) (by decide +kernel), by decide +kernel⟩
theorem q_1186 : Cond.instanceMethod ⟨"ShipsThatMeetModel", "lacks", "(I)I"⟩ ∈ ah_tb := List.mem_filter.mpr ⟨List.mem_of_getElem? (i := 1186) (by decide +kernel), by decide +kernel⟩
theorem q_1187 : Cond.selects "ShipsThatMeetModel" ⟨"ShipsThatMeetModel", "lacks", "(I)I"⟩ ⟨"ShipsThatMeetModel", "lacks", "(I)I"⟩ ∈ ah_tb := List.mem_filter.mpr ⟨List.mem_of_getElem? (i := 1187) (by decide +kernel), by decide +kernel⟩
theorem q_1188 : Cond.code ⟨"ShipsThatMeetModel", "lacks", "(I)I"⟩ prog_13_method_59_code 4 (Option.some FieldType.int) ∈ ah_tb := List.mem_filter.mpr ⟨List.mem_of_getElem? (i := 1188) (by decide +kernel), by decide +kernel⟩
theorem q_1189 : Cond.methodLink "ShipsThatMeetLaw" 93 ⟨"ShipsThatMeetModel", "letter", "(II)I"⟩ ∈ ah_tb := List.mem_filter.mpr ⟨List.mem_of_getElem? (i := 1189) (by decide +kernel), by decide +kernel⟩
theorem q_1190 : Cond.instanceMethod ⟨"ShipsThatMeetModel", "letter", "(II)I"⟩ ∈ ah_tb := List.mem_filter.mpr ⟨List.mem_of_getElem? (i := 1190) (by decide +kernel), by decide +kernel⟩
theorem q_1191 : Cond.selects "ShipsThatMeetModel" ⟨"ShipsThatMeetModel", "letter", "(II)I"⟩ ⟨"ShipsThatMeetModel", "letter", "(II)I"⟩ ∈ ah_tb := List.mem_filter.mpr ⟨List.mem_of_getElem? (i := 1191) (by decide +kernel), by decide +kernel⟩
theorem q_1192 : Cond.code ⟨"ShipsThatMeetModel", "letter", "(II)I"⟩ prog_13_method_61_code 7 (Option.some FieldType.int) ∈ ah_tb := List.mem_filter.mpr ⟨List.mem_of_getElem? (i := 1192) (by decide +kernel), by decide +kernel⟩
theorem q_1193 : Cond.methodLink "ShipsThatMeetModel" 221 ⟨"ShipsThatMeetModel", "spreads", "(I)I"⟩ ∈ ah_tb := List.mem_filter.mpr ⟨List.mem_of_getElem? (i := 1193) (by decide +kernel), by decide +kernel⟩
theorem q_1195 : Cond.instanceMethod ⟨"ShipsThatMeetModel", "spreads", "(I)I"⟩ ∈ ah_tb := List.mem_filter.mpr ⟨List.mem_of_getElem? (i := 1195) (by decide +kernel), by decide +kernel⟩
theorem q_1196 : Cond.code ⟨"ShipsThatMeetModel", "spreads", "(I)I"⟩ prog_13_method_60_code 4 (Option.some FieldType.int) ∈ ah_tb := List.mem_filter.mpr ⟨List.mem_of_getElem? (i := 1196) (by decide +kernel), by decide +kernel⟩
theorem q_1197 : Cond.methodLink "ShipsThatMeetLaw" 98 ⟨"ShipsThatMeetModel", "law", "(IIII)I"⟩ ∈ ah_tb := List.mem_filter.mpr ⟨List.mem_of_getElem? (i := 1197) (by decide +kernel), by decide +kernel⟩
theorem q_1198 : Cond.instanceMethod ⟨"ShipsThatMeetModel", "law", "(IIII)I"⟩ ∈ ah_tb := List.mem_filter.mpr ⟨List.mem_of_getElem? (i := 1198) (by decide +kernel), by decide +kernel⟩
theorem q_1199 : Cond.selects "ShipsThatMeetModel" ⟨"ShipsThatMeetModel", "law", "(IIII)I"⟩ ⟨"ShipsThatMeetModel", "law", "(IIII)I"⟩ ∈ ah_tb := List.mem_filter.mpr ⟨List.mem_of_getElem? (i := 1199) (by decide +kernel), by decide +kernel⟩
theorem q_1200 : Cond.code ⟨"ShipsThatMeetModel", "law", "(IIII)I"⟩ prog_13_method_62_code 10 (Option.some FieldType.int) ∈ ah_tb := List.mem_filter.mpr ⟨List.mem_of_getElem? (i := 1200) (by decide +kernel), by decide +kernel⟩
theorem q_1201 : Cond.constantLong "ShipsThatMeetModel" 224 (9 : Int64) ∈ ah_tb := List.mem_filter.mpr ⟨List.mem_of_getElem? (i := 1201) (by decide +kernel), by decide +kernel⟩
theorem q_1202 : Cond.methodLink "ShipsThatMeetLaw" 102 ⟨"ShipsThatMeetModel", "together", "(III)I"⟩ ∈ ah_tb := List.mem_filter.mpr ⟨List.mem_of_getElem? (i := 1202) (by decide +kernel), by decide +kernel⟩
theorem q_1203 : Cond.instanceMethod ⟨"ShipsThatMeetModel", "together", "(III)I"⟩ ∈ ah_tb := List.mem_filter.mpr ⟨List.mem_of_getElem? (i := 1203) (by decide +kernel), by decide +kernel⟩
theorem q_1204 : Cond.selects "ShipsThatMeetModel" ⟨"ShipsThatMeetModel", "together", "(III)I"⟩ ⟨"ShipsThatMeetModel", "together", "(III)I"⟩ ∈ ah_tb := List.mem_filter.mpr ⟨List.mem_of_getElem? (i := 1204) (by decide +kernel), by decide +kernel⟩
theorem q_1205 : Cond.code ⟨"ShipsThatMeetModel", "together", "(III)I"⟩ prog_13_method_63_code 8 (Option.some FieldType.int) ∈ ah_tb := List.mem_filter.mpr ⟨List.mem_of_getElem? (i := 1205) (by decide +kernel), by decide +kernel⟩
theorem q_1206 : Cond.methodLink "ShipsThatMeetLaw" 106 ⟨"ShipsThatMeetModel", "moved", "(II)I"⟩ ∈ ah_tb := List.mem_filter.mpr ⟨List.mem_of_getElem? (i := 1206) (by decide +kernel), by decide +kernel⟩
theorem q_1207 : Cond.instanceMethod ⟨"ShipsThatMeetModel", "moved", "(II)I"⟩ ∈ ah_tb := List.mem_filter.mpr ⟨List.mem_of_getElem? (i := 1207) (by decide +kernel), by decide +kernel⟩
theorem q_1208 : Cond.selects "ShipsThatMeetModel" ⟨"ShipsThatMeetModel", "moved", "(II)I"⟩ ⟨"ShipsThatMeetModel", "moved", "(II)I"⟩ ∈ ah_tb := List.mem_filter.mpr ⟨List.mem_of_getElem? (i := 1208) (by decide +kernel), by decide +kernel⟩
theorem q_1209 : Cond.code ⟨"ShipsThatMeetModel", "moved", "(II)I"⟩ prog_13_method_64_code 6 (Option.some FieldType.int) ∈ ah_tb := List.mem_filter.mpr ⟨List.mem_of_getElem? (i := 1209) (by decide +kernel), by decide +kernel⟩
theorem q_1210 : Cond.methodLink "ShipsThatMeetLaw" 110 ⟨"ShipsThatMeetModel", "seeded", "(III)I"⟩ ∈ ah_tb := List.mem_filter.mpr ⟨List.mem_of_getElem? (i := 1210) (by decide +kernel), by decide +kernel⟩
theorem q_1211 : Cond.instanceMethod ⟨"ShipsThatMeetModel", "seeded", "(III)I"⟩ ∈ ah_tb := List.mem_filter.mpr ⟨List.mem_of_getElem? (i := 1211) (by decide +kernel), by decide +kernel⟩
theorem q_1212 : Cond.selects "ShipsThatMeetModel" ⟨"ShipsThatMeetModel", "seeded", "(III)I"⟩ ⟨"ShipsThatMeetModel", "seeded", "(III)I"⟩ ∈ ah_tb := List.mem_filter.mpr ⟨List.mem_of_getElem? (i := 1212) (by decide +kernel), by decide +kernel⟩
theorem q_1213 : Cond.code ⟨"ShipsThatMeetModel", "seeded", "(III)I"⟩ prog_13_method_66_code 7 (Option.some FieldType.int) ∈ ah_tb := List.mem_filter.mpr ⟨List.mem_of_getElem? (i := 1213) (by decide +kernel), by decide +kernel⟩
theorem q_1214 : Cond.constantLong "ShipsThatMeetModel" 232 (40 : Int64) ∈ ah_tb := List.mem_filter.mpr ⟨List.mem_of_getElem? (i := 1214) (by decide +kernel), by decide +kernel⟩
theorem q_1215 : Cond.methodLink "ShipsThatMeetModel" 234 ⟨"ShipsThatMeetModel", "drawn", "(I)I"⟩ ∈ ah_tb := List.mem_filter.mpr ⟨List.mem_of_getElem? (i := 1215) (by decide +kernel), by decide +kernel⟩
theorem q_1217 : Cond.instanceMethod ⟨"ShipsThatMeetModel", "drawn", "(I)I"⟩ ∈ ah_tb := List.mem_filter.mpr ⟨List.mem_of_getElem? (i := 1217) (by decide +kernel), by decide +kernel⟩
theorem q_1218 : Cond.code ⟨"ShipsThatMeetModel", "drawn", "(I)I"⟩ prog_13_method_65_code 2 (Option.some FieldType.int) ∈ ah_tb := List.mem_filter.mpr ⟨List.mem_of_getElem? (i := 1218) (by decide +kernel), by decide +kernel⟩
theorem q_1219 : Cond.constant "ShipsThatMeetModel" 229 (1103515245 : Int32) ∈ ah_tb := List.mem_filter.mpr ⟨List.mem_of_getElem? (i := 1219) (by decide +kernel), by decide +kernel⟩
theorem q_1220 : Cond.constant "ShipsThatMeetModel" 230 (2147483647 : Int32) ∈ ah_tb := List.mem_filter.mpr ⟨List.mem_of_getElem? (i := 1220) (by decide +kernel), by decide +kernel⟩
theorem q_1221 : Cond.constant "ShipsThatMeetModel" 231 (65536 : Int32) ∈ ah_tb := List.mem_filter.mpr ⟨List.mem_of_getElem? (i := 1221) (by decide +kernel), by decide +kernel⟩
theorem q_1222 : Cond.methodLink "ShipsThatMeetLaw" 114 ⟨"ShipsThatMeetModel", "judge", "(I)I"⟩ ∈ ah_tb := List.mem_filter.mpr ⟨List.mem_of_getElem? (i := 1222) (by decide +kernel), by decide +kernel⟩
theorem q_1223 : Cond.instanceMethod ⟨"ShipsThatMeetModel", "judge", "(I)I"⟩ ∈ ah_tb := List.mem_filter.mpr ⟨List.mem_of_getElem? (i := 1223) (by decide +kernel), by decide +kernel⟩
theorem q_1224 : Cond.selects "ShipsThatMeetModel" ⟨"ShipsThatMeetModel", "judge", "(I)I"⟩ ⟨"ShipsThatMeetModel", "judge", "(I)I"⟩ ∈ ah_tb := List.mem_filter.mpr ⟨List.mem_of_getElem? (i := 1224) (by decide +kernel), by decide +kernel⟩
theorem q_1225 : Cond.code ⟨"ShipsThatMeetModel", "judge", "(I)I"⟩ prog_13_method_68_code 5 (Option.some FieldType.int) ∈ ah_tb := List.mem_filter.mpr ⟨List.mem_of_getElem? (i := 1225) (by decide +kernel), by decide +kernel⟩
theorem q_1226 : Cond.methodLink "ShipsThatMeetModel" 237 ⟨"ShipsThatMeetModel", "wrongFour", "(II)I"⟩ ∈ ah_tb := List.mem_filter.mpr ⟨List.mem_of_getElem? (i := 1226) (by decide +kernel), by decide +kernel⟩
theorem q_1228 : Cond.instanceMethod ⟨"ShipsThatMeetModel", "wrongFour", "(II)I"⟩ ∈ ah_tb := List.mem_filter.mpr ⟨List.mem_of_getElem? (i := 1228) (by decide +kernel), by decide +kernel⟩
theorem q_1229 : Cond.code ⟨"ShipsThatMeetModel", "wrongFour", "(II)I"⟩ prog_13_method_67_code 5 (Option.some FieldType.int) ∈ ah_tb := List.mem_filter.mpr ⟨List.mem_of_getElem? (i := 1229) (by decide +kernel), by decide +kernel⟩
theorem q_1230 : Cond.methodLink "ShipsThatMeetLaw" 118 ⟨"ShipsThatMeetModel", "image", "()I"⟩ ∈ ah_tb := List.mem_filter.mpr ⟨List.mem_of_getElem? (i := 1230) (by decide +kernel), by decide +kernel⟩
theorem q_1231 : Cond.instanceMethod ⟨"ShipsThatMeetModel", "image", "()I"⟩ ∈ ah_tb := List.mem_filter.mpr ⟨List.mem_of_getElem? (i := 1231) (by decide +kernel), by decide +kernel⟩
theorem q_1232 : Cond.selects "ShipsThatMeetModel" ⟨"ShipsThatMeetModel", "image", "()I"⟩ ⟨"ShipsThatMeetModel", "image", "()I"⟩ ∈ ah_tb := List.mem_filter.mpr ⟨List.mem_of_getElem? (i := 1232) (by decide +kernel), by decide +kernel⟩
theorem q_1233 : Cond.code ⟨"ShipsThatMeetModel", "image", "()I"⟩ prog_13_method_69_code 1 (Option.some FieldType.int) ∈ ah_tb := List.mem_filter.mpr ⟨List.mem_of_getElem? (i := 1233) (by decide +kernel), by decide +kernel⟩
theorem q_1234 : Cond.methodLink "ShipsThatMeetLaw" 122 ⟨"ShipsThatMeetModel", "restore", "()I"⟩ ∈ ah_tb := List.mem_filter.mpr ⟨List.mem_of_getElem? (i := 1234) (by decide +kernel), by decide +kernel⟩
theorem q_1235 : Cond.instanceMethod ⟨"ShipsThatMeetModel", "restore", "()I"⟩ ∈ ah_tb := List.mem_filter.mpr ⟨List.mem_of_getElem? (i := 1235) (by decide +kernel), by decide +kernel⟩
theorem q_1236 : Cond.selects "ShipsThatMeetModel" ⟨"ShipsThatMeetModel", "restore", "()I"⟩ ⟨"ShipsThatMeetModel", "restore", "()I"⟩ ∈ ah_tb := List.mem_filter.mpr ⟨List.mem_of_getElem? (i := 1236) (by decide +kernel), by decide +kernel⟩
theorem q_1237 : Cond.code ⟨"ShipsThatMeetModel", "restore", "()I"⟩ prog_13_method_70_code 1 (Option.some FieldType.int) ∈ ah_tb := List.mem_filter.mpr ⟨List.mem_of_getElem? (i := 1237) (by decide +kernel), by decide +kernel⟩
theorem q_1238 : Cond.methodLink "ShipsThatMeetLaw" 126 ⟨"ShipsThatMeetModel", "count", "(I)I"⟩ ∈ ah_tb := List.mem_filter.mpr ⟨List.mem_of_getElem? (i := 1238) (by decide +kernel), by decide +kernel⟩
theorem q_1239 : Cond.instanceMethod ⟨"ShipsThatMeetModel", "count", "(I)I"⟩ ∈ ah_tb := List.mem_filter.mpr ⟨List.mem_of_getElem? (i := 1239) (by decide +kernel), by decide +kernel⟩
theorem q_1240 : Cond.selects "ShipsThatMeetModel" ⟨"ShipsThatMeetModel", "count", "(I)I"⟩ ⟨"ShipsThatMeetModel", "count", "(I)I"⟩ ∈ ah_tb := List.mem_filter.mpr ⟨List.mem_of_getElem? (i := 1240) (by decide +kernel), by decide +kernel⟩
theorem q_1241 : Cond.code ⟨"ShipsThatMeetModel", "count", "(I)I"⟩ prog_13_method_71_code 5 (Option.some FieldType.int) ∈ ah_tb := List.mem_filter.mpr ⟨List.mem_of_getElem? (i := 1241) (by decide +kernel), by decide +kernel⟩
theorem q_1242 : Cond.methodLink "ShipsThatMeetLaw" 130 ⟨"ShipsThatMeetModel", "keep", "(IIII)I"⟩ ∈ ah_tb := List.mem_filter.mpr ⟨List.mem_of_getElem? (i := 1242) (by decide +kernel), by decide +kernel⟩
theorem q_1243 : Cond.instanceMethod ⟨"ShipsThatMeetModel", "keep", "(IIII)I"⟩ ∈ ah_tb := List.mem_filter.mpr ⟨List.mem_of_getElem? (i := 1243) (by decide +kernel), by decide +kernel⟩
theorem q_1244 : Cond.selects "ShipsThatMeetModel" ⟨"ShipsThatMeetModel", "keep", "(IIII)I"⟩ ⟨"ShipsThatMeetModel", "keep", "(IIII)I"⟩ ∈ ah_tb := List.mem_filter.mpr ⟨List.mem_of_getElem? (i := 1244) (by decide +kernel), by decide +kernel⟩
theorem q_1245 : Cond.code ⟨"ShipsThatMeetModel", "keep", "(IIII)I"⟩ prog_13_method_73_code 5 (Option.some FieldType.int) ∈ ah_tb := List.mem_filter.mpr ⟨List.mem_of_getElem? (i := 1245) (by decide +kernel), by decide +kernel⟩
theorem q_1246 : Cond.methodLink "ShipsThatMeetLaw" 134 ⟨"ShipsThatMeetModel", "row", "(III)I"⟩ ∈ ah_tb := List.mem_filter.mpr ⟨List.mem_of_getElem? (i := 1246) (by decide +kernel), by decide +kernel⟩
theorem q_1247 : Cond.instanceMethod ⟨"ShipsThatMeetModel", "row", "(III)I"⟩ ∈ ah_tb := List.mem_filter.mpr ⟨List.mem_of_getElem? (i := 1247) (by decide +kernel), by decide +kernel⟩
theorem q_1248 : Cond.selects "ShipsThatMeetModel" ⟨"ShipsThatMeetModel", "row", "(III)I"⟩ ⟨"ShipsThatMeetModel", "row", "(III)I"⟩ ∈ ah_tb := List.mem_filter.mpr ⟨List.mem_of_getElem? (i := 1248) (by decide +kernel), by decide +kernel⟩
theorem q_1249 : Cond.code ⟨"ShipsThatMeetModel", "row", "(III)I"⟩ prog_13_method_74_code 5 (Option.some FieldType.int) ∈ ah_tb := List.mem_filter.mpr ⟨List.mem_of_getElem? (i := 1249) (by decide +kernel), by decide +kernel⟩
theorem q_1250 : Cond.constantLong "ShipsThatMeetModel" 244 (2 : Int64) ∈ ah_tb := List.mem_filter.mpr ⟨List.mem_of_getElem? (i := 1250) (by decide +kernel), by decide +kernel⟩
theorem q_1251 : Cond.methodLink "ShipsThatMeetLaw" 138 ⟨"ShipsThatMeetModel", "put", "(III)I"⟩ ∈ ah_tb := List.mem_filter.mpr ⟨List.mem_of_getElem? (i := 1251) (by decide +kernel), by decide +kernel⟩
theorem q_1252 : Cond.instanceMethod ⟨"ShipsThatMeetModel", "put", "(III)I"⟩ ∈ ah_tb := List.mem_filter.mpr ⟨List.mem_of_getElem? (i := 1252) (by decide +kernel), by decide +kernel⟩
theorem q_1253 : Cond.selects "ShipsThatMeetModel" ⟨"ShipsThatMeetModel", "put", "(III)I"⟩ ⟨"ShipsThatMeetModel", "put", "(III)I"⟩ ∈ ah_tb := List.mem_filter.mpr ⟨List.mem_of_getElem? (i := 1253) (by decide +kernel), by decide +kernel⟩
theorem q_1254 : Cond.code ⟨"ShipsThatMeetModel", "put", "(III)I"⟩ prog_13_method_75_code 5 (Option.some FieldType.int) ∈ ah_tb := List.mem_filter.mpr ⟨List.mem_of_getElem? (i := 1254) (by decide +kernel), by decide +kernel⟩
theorem q_1255 : Cond.methodLink "ShipsThatMeetLaw" 144 ⟨"ShipsThatMeetModel", "element", "(II)J"⟩ ∈ ah_tb := List.mem_filter.mpr ⟨List.mem_of_getElem? (i := 1255) (by decide +kernel), by decide +kernel⟩
theorem q_1256 : Cond.instanceMethod ⟨"ShipsThatMeetModel", "element", "(II)J"⟩ ∈ ah_tb := List.mem_filter.mpr ⟨List.mem_of_getElem? (i := 1256) (by decide +kernel), by decide +kernel⟩
theorem q_1257 : Cond.selects "ShipsThatMeetModel" ⟨"ShipsThatMeetModel", "element", "(II)J"⟩ ⟨"ShipsThatMeetModel", "element", "(II)J"⟩ ∈ ah_tb := List.mem_filter.mpr ⟨List.mem_of_getElem? (i := 1257) (by decide +kernel), by decide +kernel⟩
theorem q_1258 : Cond.code ⟨"ShipsThatMeetModel", "element", "(II)J"⟩ prog_13_method_76_code 3 (Option.some FieldType.long) ∈ ah_tb := List.mem_filter.mpr ⟨List.mem_of_getElem? (i := 1258) (by decide +kernel), by decide +kernel⟩
theorem q_1259 : Cond.methodLink "ShipsThatMeetLaw" 152 ⟨"ShipsThatMeetModel", "copy", "(IIIII)I"⟩ ∈ ah_tb := List.mem_filter.mpr ⟨List.mem_of_getElem? (i := 1259) (by decide +kernel), by decide +kernel⟩
theorem q_1260 : Cond.instanceMethod ⟨"ShipsThatMeetModel", "copy", "(IIIII)I"⟩ ∈ ah_tb := List.mem_filter.mpr ⟨List.mem_of_getElem? (i := 1260) (by decide +kernel), by decide +kernel⟩
theorem q_1261 : Cond.selects "ShipsThatMeetModel" ⟨"ShipsThatMeetModel", "copy", "(IIIII)I"⟩ ⟨"ShipsThatMeetModel", "copy", "(IIIII)I"⟩ ∈ ah_tb := List.mem_filter.mpr ⟨List.mem_of_getElem? (i := 1261) (by decide +kernel), by decide +kernel⟩
theorem q_1262 : Cond.code ⟨"ShipsThatMeetModel", "copy", "(IIIII)I"⟩ prog_13_method_77_code 8 (Option.some FieldType.int) ∈ ah_tb := List.mem_filter.mpr ⟨List.mem_of_getElem? (i := 1262) (by decide +kernel), by decide +kernel⟩
theorem q_1263 : Cond.methodLink "ShipsThatMeetLaw" 156 ⟨"ShipsThatMeetModel", "pay", "(I)I"⟩ ∈ ah_tb := List.mem_filter.mpr ⟨List.mem_of_getElem? (i := 1263) (by decide +kernel), by decide +kernel⟩
theorem q_1264 : Cond.instanceMethod ⟨"ShipsThatMeetModel", "pay", "(I)I"⟩ ∈ ah_tb := List.mem_filter.mpr ⟨List.mem_of_getElem? (i := 1264) (by decide +kernel), by decide +kernel⟩
theorem q_1265 : Cond.selects "ShipsThatMeetModel" ⟨"ShipsThatMeetModel", "pay", "(I)I"⟩ ⟨"ShipsThatMeetModel", "pay", "(I)I"⟩ ∈ ah_tb := List.mem_filter.mpr ⟨List.mem_of_getElem? (i := 1265) (by decide +kernel), by decide +kernel⟩
theorem q_1266 : Cond.code ⟨"ShipsThatMeetModel", "pay", "(I)I"⟩ prog_13_method_78_code 3 (Option.some FieldType.int) ∈ ah_tb := List.mem_filter.mpr ⟨List.mem_of_getElem? (i := 1266) (by decide +kernel), by decide +kernel⟩
theorem q_1267 : Cond.methodLink "ShipsThatMeetModel" 246 ⟨"ShipsThatMeetModel", "payBy", "(II)I"⟩ ∈ ah_tb := List.mem_filter.mpr ⟨List.mem_of_getElem? (i := 1267) (by decide +kernel), by decide +kernel⟩
theorem q_1268 : Cond.static ⟨"ShipsThatMeetModel", "payBy", "(II)I"⟩ ∈ ah_tb := List.mem_filter.mpr ⟨List.mem_of_getElem? (i := 1268) (by decide +kernel), by decide +kernel⟩
theorem q_1269 : Cond.code ⟨"ShipsThatMeetModel", "payBy", "(II)I"⟩ prog_13_method_72_code 2 (Option.some FieldType.int) ∈ ah_tb := List.mem_filter.mpr ⟨List.mem_of_getElem? (i := 1269) (by decide +kernel), by decide +kernel⟩
theorem q_1270 : Cond.methodLink "ShipsThatMeetLaw" 160 ⟨"ShipsThatMeetModel", "toss", "(I)I"⟩ ∈ ah_tb := List.mem_filter.mpr ⟨List.mem_of_getElem? (i := 1270) (by decide +kernel), by decide +kernel⟩
theorem q_1271 : Cond.instanceMethod ⟨"ShipsThatMeetModel", "toss", "(I)I"⟩ ∈ ah_tb := List.mem_filter.mpr ⟨List.mem_of_getElem? (i := 1271) (by decide +kernel), by decide +kernel⟩
theorem q_1272 : Cond.selects "ShipsThatMeetModel" ⟨"ShipsThatMeetModel", "toss", "(I)I"⟩ ⟨"ShipsThatMeetModel", "toss", "(I)I"⟩ ∈ ah_tb := List.mem_filter.mpr ⟨List.mem_of_getElem? (i := 1272) (by decide +kernel), by decide +kernel⟩
theorem q_1273 : Cond.code ⟨"ShipsThatMeetModel", "toss", "(I)I"⟩ prog_13_method_79_code 5 (Option.some FieldType.int) ∈ ah_tb := List.mem_filter.mpr ⟨List.mem_of_getElem? (i := 1273) (by decide +kernel), by decide +kernel⟩
theorem q_1274 : Cond.sameMethod "ShipsThatMeet$Old" "ShipsThatMeet$Old" "gift" "(LShipsThatMeet$Fleet;I)I" ∈ ah_tb := List.mem_filter.mpr ⟨List.mem_of_getElem? (i := 1274) (by decide +kernel), by decide +kernel⟩
theorem q_1275 : Cond.sameMethod "ShipsThatMeet$Want" "ShipsThatMeet$Want" "unwanted" "(LShipsThatMeet$Fleet;I)I" ∈ ah_tb := List.mem_filter.mpr ⟨List.mem_of_getElem? (i := 1275) (by decide +kernel), by decide +kernel⟩
theorem q_1276 : Cond.selects "ShipsThatMeet$Best" ⟨"ShipsThatMeet$Want", "unwanted", "(LShipsThatMeet$Fleet;I)I"⟩ ⟨"ShipsThatMeet$Want", "unwanted", "(LShipsThatMeet$Fleet;I)I"⟩ ∈ ah_tb := List.mem_filter.mpr ⟨List.mem_of_getElem? (i := 1276) (by decide +kernel), by decide +kernel⟩
theorem q_1277 : Cond.selects "ShipsThatMeet$Want" ⟨"ShipsThatMeet$Want", "unwanted", "(LShipsThatMeet$Fleet;I)I"⟩ ⟨"ShipsThatMeet$Want", "unwanted", "(LShipsThatMeet$Fleet;I)I"⟩ ∈ ah_tb := List.mem_filter.mpr ⟨List.mem_of_getElem? (i := 1277) (by decide +kernel), by decide +kernel⟩
theorem q_1278 : Cond.sameMethod "ShipsThatMeet$Want" "ShipsThatMeet$Want" "wages" "()I" ∈ ah_tb := List.mem_filter.mpr ⟨List.mem_of_getElem? (i := 1278) (by decide +kernel), by decide +kernel⟩
theorem q_1279 : Cond.sameMethod "ShipsThatMeet$Old" "ShipsThatMeet$Old" "wages" "()I" ∈ ah_tb := List.mem_filter.mpr ⟨List.mem_of_getElem? (i := 1279) (by decide +kernel), by decide +kernel⟩
theorem q_1280 : Cond.sameMethod "ShipsThatMeet$New" "ShipsThatMeet$New" "wages" "()I" ∈ ah_tb := List.mem_filter.mpr ⟨List.mem_of_getElem? (i := 1280) (by decide +kernel), by decide +kernel⟩
theorem q_1282 : Cond.selects "ShipsThatMeet$Keep" ⟨"ShipsThatMeet$Keep", "wages", "()I"⟩ ⟨"ShipsThatMeet$Keep", "wages", "()I"⟩ ∈ ah_tb := List.mem_filter.mpr ⟨List.mem_of_getElem? (i := 1282) (by decide +kernel), by decide +kernel⟩
end
section
/-! THE BASE: an abstract heap as a function of the address; a row for each instruction that reads or writes it; a contract form; calls by it. -/
/-- an abstract cell: an int array, a long array, an array of references (kind, length), an object (class number, fields) -/
abbrev ah_c : Type := (Nat × (Nat → Int32)) ⊕ (Nat × (Nat → Int64)) ⊕ (Nat × Nat × (Nat → Option Nat)) ⊕ (Nat × List Value)
abbrev ah_h : Type := Nat → Option ah_c
abbrev ah_I (n : Nat) (f : Nat → Int32) : ah_c := .inl (n, f)
abbrev ah_J (n : Nat) (f : Nat → Int64) : ah_c := .inr (.inl (n, f))
abbrev ah_R (t n : Nat) (f : Nat → Option Nat) : ah_c := .inr (.inr (.inl (t, n, f)))
abbrev ah_O (c : Nat) (fs : List Value) : ah_c := .inr (.inr (.inr (c, fs)))
def ah_e (ca : Nat → ClassId) : ah_c → va_E
  | .inl x => .inl (ca 0, x.1, .inl x.2)
  | .inr (.inl x) => .inl (ca 1, x.1, .inr (.inl x.2))
  | .inr (.inr (.inl x)) => .inl (ca x.1, x.2.1, .inr (.inr (.inr (.inr x.2.2))))
  | .inr (.inr (.inr x)) => .inr (x.1, x.2)
def ah_up (M : ah_h) (a : Nat) (e : ah_c) : ah_h := fun q => if q = a then some e else M q
theorem ah_up_self (M : ah_h) (a : Nat) (e : ah_c) : ah_up M a e a = some e := if_pos rfl
theorem ah_up_ne (M : ah_h) {a q : Nat} (e : ah_c) (h : q ≠ a) : ah_up M a e q = M q := if_neg h
def ah_ob (M : ah_h) (a ci : Nat) : Option (List Value) := match M a with
  | some (.inr (.inr (.inr x))) => if x.1 = ci then some x.2 else none
  | _ => none
def ah_vi : Option Value → Option Int32
  | some (.int x) => some x
  | _ => none
def ah_vr : Option Value → Option Nat
  | some (.ref x) => some x
  | _ => none
def ah_vq : Option Value → Option (Option Nat)
  | some (.ref x) => some (some x)
  | some .null => some none
  | _ => none
def ah_gi (M : ah_h) (a ci k : Nat) : Option Int32 := (ah_ob M a ci).bind fun fs => ah_vi fs[k]?
def ah_gr (M : ah_h) (a ci k : Nat) : Option Nat := (ah_ob M a ci).bind fun fs => ah_vr fs[k]?
def ah_gq (M : ah_h) (a ci k : Nat) : Option (Option Nat) := (ah_ob M a ci).bind fun fs => ah_vq fs[k]?
def ah_in (i : Int32) (n : Nat) : Bool := !(decide (i < 0) || decide (n ≤ i.toNatClampNeg))
theorem ah_in_vp {i : Int32} {n : Nat} (h : ah_in i n = true) : vp_in i n := by
  unfold ah_in at h
  simp only [Bool.not_eq_true', Bool.or_eq_false_iff, decide_eq_false_iff_not] at h
  exact fun z => z.elim h.1 h.2
def ah_ai (M : ah_h) (a : Nat) (i : Int32) : Option Int32 := match M a with
  | some (.inl x) => if ah_in i x.1 = true then some (x.2 i.toNatClampNeg) else none
  | _ => none
def ah_aj (M : ah_h) (a : Nat) (i : Int32) : Option Int64 := match M a with
  | some (.inr (.inl x)) => if ah_in i x.1 = true then some (x.2 i.toNatClampNeg) else none
  | _ => none
def ah_ar (M : ah_h) (a t : Nat) (i : Int32) : Option Nat := match M a with
  | some (.inr (.inr (.inl x))) => if x.1 = t ∧ ah_in i x.2.1 = true then x.2.2 i.toNatClampNeg else none
  | _ => none
def ah_al (M : ah_h) (a : Nat) : Option Int32 := match M a with
  | some (.inl x) => some (Int32.ofNat x.1)
  | some (.inr (.inl x)) => some (Int32.ofNat x.1)
  | _ => none
def ah_alr (M : ah_h) (a t : Nat) : Option Int32 := match M a with
  | some (.inr (.inr (.inl x))) => if x.1 = t then some (Int32.ofNat x.2.1) else none
  | _ => none
def ah_pf (M : ah_h) (a ci k : Nat) (v : Value) : Option ah_h := (ah_ob M a ci).bind fun fs => if k < fs.length then some (ah_up M a (ah_O ci (fs.set k v))) else none
def ah_si (M : ah_h) (a : Nat) (i : Int32) (v : Int32) : Option ah_h := match M a with
  | some (.inl x) => if ah_in i x.1 = true then some (ah_up M a (ah_I x.1 (upd x.2 i.toNatClampNeg v))) else none
  | _ => none
def ah_sj (M : ah_h) (a : Nat) (i : Int32) (v : Int64) : Option ah_h := match M a with
  | some (.inr (.inl x)) => if ah_in i x.1 = true then some (ah_up M a (ah_J x.1 (vp_updL x.2 i.toNatClampNeg v))) else none
  | _ => none
def ah_sr (M : ah_h) (a t : Nat) (i : Int32) (v : Nat) : Option ah_h := match M a with
  | some (.inr (.inr (.inl x))) => if x.1 = t ∧ ah_in i x.2.1 = true then some (ah_up M a (ah_R t x.2.1 (va_up x.2.2 i.toNatClampNeg (some v)))) else none
  | _ => none
/-- the captains' classes -/
def ah_cap (c : Nat) : Bool := c == 0 || c == 1 || c == 3 || c == 4 || c == 5 || c == 6 || c == 8 || c == 9
def ah_oc (M : ah_h) (a : Nat) : Option (Nat × List Value) := match M a with
  | some (.inr (.inr (.inr x))) => if ah_cap x.1 = true then some x else none
  | _ => none
def ah_gc (M : ah_h) (a k : Nat) : Option Int32 := (ah_oc M a).bind fun x => ah_vi x.2[k]?
theorem ah_ob_some {M : ah_h} {a ci : Nat} {fs : List Value} (h : ah_ob M a ci = some fs) : M a = some (ah_O ci fs) := by
  unfold ah_ob at h
  split at h
  · next x hx =>
    split at h
    · next hc =>
      cases h
      obtain ⟨c, fs⟩ := x
      cases hc
      exact hx
    · cases h
  · cases h
theorem ah_oc_some {M : ah_h} {a : Nat} {x : Nat × List Value} (h : ah_oc M a = some x) : M a = some (ah_O x.1 x.2) ∧ ah_cap x.1 = true := by
  unfold ah_oc at h
  split at h
  · next y hy =>
    split at h
    · next hc =>
      cases h
      exact ⟨hy, hc⟩
    · cases h
  · cases h
theorem ah_vi_some {o : Option Value} {x : Int32} (h : ah_vi o = some x) : o = some (.int x) := by
  unfold ah_vi at h
  split at h
  · cases h; rfl
  · cases h
theorem ah_vr_some {o : Option Value} {x : Nat} (h : ah_vr o = some x) : o = some (.ref x) := by
  unfold ah_vr at h
  split at h
  · cases h; rfl
  · cases h
theorem ah_vq_some {o : Option Value} {x : Option Nat} (h : ah_vq o = some x) : o = some (va_rf x) := by
  unfold ah_vq at h
  split at h
  · cases h; rfl
  · cases h; rfl
  · cases h
theorem ah_gi_some {M : ah_h} {a ci k : Nat} {x : Int32} (h : ah_gi M a ci k = some x) : ∃ fs, M a = some (ah_O ci fs) ∧ fs[k]? = some (.int x) := by
  obtain ⟨fs, h1, h2⟩ := Option.bind_eq_some_iff.mp h
  exact ⟨fs, ah_ob_some h1, ah_vi_some h2⟩
theorem ah_gr_some {M : ah_h} {a ci k : Nat} {x : Nat} (h : ah_gr M a ci k = some x) : ∃ fs, M a = some (ah_O ci fs) ∧ fs[k]? = some (.ref x) := by
  obtain ⟨fs, h1, h2⟩ := Option.bind_eq_some_iff.mp h
  exact ⟨fs, ah_ob_some h1, ah_vr_some h2⟩
theorem ah_gq_some {M : ah_h} {a ci k : Nat} {x : Option Nat} (h : ah_gq M a ci k = some x) : ∃ fs, M a = some (ah_O ci fs) ∧ fs[k]? = some (va_rf x) := by
  obtain ⟨fs, h1, h2⟩ := Option.bind_eq_some_iff.mp h
  exact ⟨fs, ah_ob_some h1, ah_vq_some h2⟩
theorem ah_gc_some {M : ah_h} {a k : Nat} {x : Int32} (h : ah_gc M a k = some x) : ∃ c fs, M a = some (ah_O c fs) ∧ ah_cap c = true ∧ fs[k]? = some (.int x) := by
  obtain ⟨y, h1, h2⟩ := Option.bind_eq_some_iff.mp h
  obtain ⟨h3, h4⟩ := ah_oc_some h1
  exact ⟨y.1, y.2, h3, h4, ah_vi_some h2⟩
theorem ah_ai_some {M : ah_h} {a : Nat} {i x : Int32} (h : ah_ai M a i = some x) : ∃ n f, M a = some (ah_I n f) ∧ vp_in i n ∧ x = f i.toNatClampNeg := by
  unfold ah_ai at h
  split at h
  · next y hy =>
    split at h
    · next hc => cases h; exact ⟨y.1, y.2, hy, ah_in_vp hc, rfl⟩
    · cases h
  · cases h
theorem ah_aj_some {M : ah_h} {a : Nat} {i : Int32} {x : Int64} (h : ah_aj M a i = some x) : ∃ n f, M a = some (ah_J n f) ∧ vp_in i n ∧ x = f i.toNatClampNeg := by
  unfold ah_aj at h
  split at h
  · next y hy =>
    split at h
    · next hc => cases h; exact ⟨y.1, y.2, hy, ah_in_vp hc, rfl⟩
    · cases h
  · cases h
theorem ah_ar_some {M : ah_h} {a t : Nat} {i : Int32} {x : Nat} (h : ah_ar M a t i = some x) : ∃ n f, M a = some (ah_R t n f) ∧ vp_in i n ∧ f i.toNatClampNeg = some x := by
  unfold ah_ar at h
  split at h
  · next y hy =>
    split at h
    · next hc => obtain ⟨rfl, hc⟩ := hc; exact ⟨y.2.1, y.2.2, hy, ah_in_vp hc, h⟩
    · cases h
  · cases h
theorem ah_pf_some {M M' : ah_h} {a ci k : Nat} {v : Value} (h : ah_pf M a ci k v = some M') : ∃ fs, M a = some (ah_O ci fs) ∧ k < fs.length ∧ M' = ah_up M a (ah_O ci (fs.set k v)) := by
  obtain ⟨fs, h1, h2⟩ := Option.bind_eq_some_iff.mp h
  split at h2
  · next hk => cases h2; exact ⟨fs, ah_ob_some h1, hk, rfl⟩
  · cases h2
theorem ah_si_some {M M' : ah_h} {a : Nat} {i v : Int32} (h : ah_si M a i v = some M') : ∃ n f, M a = some (ah_I n f) ∧ vp_in i n ∧ M' = ah_up M a (ah_I n (upd f i.toNatClampNeg v)) := by
  unfold ah_si at h
  split at h
  · next y hy =>
    split at h
    · next hc => cases h; exact ⟨y.1, y.2, hy, ah_in_vp hc, rfl⟩
    · cases h
  · cases h
theorem ah_sj_some {M M' : ah_h} {a : Nat} {i : Int32} {v : Int64} (h : ah_sj M a i v = some M') : ∃ n f, M a = some (ah_J n f) ∧ vp_in i n ∧ M' = ah_up M a (ah_J n (vp_updL f i.toNatClampNeg v)) := by
  unfold ah_sj at h
  split at h
  · next y hy =>
    split at h
    · next hc => cases h; exact ⟨y.1, y.2, hy, ah_in_vp hc, rfl⟩
    · cases h
  · cases h
theorem ah_sr_some {M M' : ah_h} {a t : Nat} {i : Int32} {v : Nat} (h : ah_sr M a t i v = some M') : ∃ n f, M a = some (ah_R t n f) ∧ vp_in i n ∧ M' = ah_up M a (ah_R t n (va_up f i.toNatClampNeg (some v))) := by
  unfold ah_sr at h
  split at h
  · next y hy =>
    split at h
    · next hc => obtain ⟨rfl, hc⟩ := hc; cases h; exact ⟨y.2.1, y.2.2, hy, ah_in_vp hc, rfl⟩
    · cases h
  · cases h
/-! the state of the machine that an abstract heap speaks of -/
abbrev ah_ty (ca : Nat → ClassId) : List (ClassId × FieldType) := [(ca 0, .int), (ca 1, .long), (ca 2, .object "ShipsThatMeet$Captain"), (ca 3, .object "ShipsThatMeet$Shelf"), (ca 4, .array .int)]
abbrev ah_nM : List (String × Nat × MethodName × String) := [("ShipsThatMeet$Fleet", 63, ⟨"ShipsThatMeet", "isKindAndFigure", "(II)Z"⟩, "ShipsThatMeet"), ("ShipsThatMeet$Fleet", 66, ⟨"ShipsThatMeet", "captainOf", "(II)LShipsThatMeet$Captain;"⟩, "ShipsThatMeet"), ("ShipsThatMeet$Want", 9, ⟨"ShipsThatMeet", "has", "(II)Z"⟩, "ShipsThatMeet"), ("ShipsThatMeet$Best", 15, ⟨"ShipsThatMeet", "has", "(II)Z"⟩, "ShipsThatMeet"), ("ShipsThatMeet$Fleet", 106, ⟨"ShipsThatMeet", "has", "(II)Z"⟩, "ShipsThatMeet"), ("ShipsThatMeet$Old", 9, ⟨"ShipsThatMeet", "has", "(II)Z"⟩, "ShipsThatMeet"), ("ShipsThatMeet$Lot", 21, ⟨"ShipsThatMeet", "has", "(II)Z"⟩, "ShipsThatMeet"), ("ShipsThatMeet$New", 9, ⟨"ShipsThatMeet", "has", "(II)Z"⟩, "ShipsThatMeet"), ("ShipsThatMeet$Told", 13, ⟨"ShipsThatMeet", "has", "(II)Z"⟩, "ShipsThatMeet"), ("ShipsThatMeet$Captain", 18, ⟨"ShipsThatMeet", "has", "(II)Z"⟩, "ShipsThatMeet"), ("ShipsThatMeet$Fleet", 121, ⟨"ShipsThatMeet", "nameOfMeeting", "(II)I"⟩, "ShipsThatMeet")]
abbrev ah_nC : List String := ["ShipsThatMeet$Lot", "ShipsThatMeet$New", "ShipsThatMeet$Old", "ShipsThatMeet$Want", "ShipsThatMeet$Best", "ShipsThatMeet$Told", "ShipsThatMeet$Keep"]
def ah_oA (U : State) : Prop := (Cond.arrayOver (.array .int)).before #[] U = true
/-- what holds of the tables all along -/
def ah_k (D : va_G) (ca : Nat → ClassId) (U : State) : Prop := va_K D vwCl (ah_ty ca) U ∧ (∀ q ∈ ah_nM, va_Nw (.methodLinkNest q.1 q.2.1 q.2.2.1 q.2.2.2) U) ∧ (∀ q ∈ ah_nC, va_Nw (.castable q "ShipsThatMeet$Captain") U)
theorem ah_k.warm {D : va_G} {ca : Nat → ClassId} {s U : State} (hW : s.WarmedH U.vm) (h : ah_k D ca s) : ah_k D ca U :=
  ⟨va_K.moved hW.alike h.1, fun q hq => va_Nw.warmM hW (h.2.1 q hq), fun q hq => va_Nw.warmC hW (h.2.2 q hq)⟩
theorem ah_k.calling {D : va_G} {ca : Nat → ClassId} {U : State} (g : JFrame) (mk : MethodId) (a : Array Value) (h : ah_k D ca U) : ah_k D ca (U.calling g mk a) :=
  ⟨va_K.moved (u := U) (U := U.calling g mk a) (Vm.Alike.refl U.vm) h.1, fun q hq => va_Nw.same rfl (rfl : U.vm = (U.calling g mk a).vm) (h.2.1 q hq), fun q hq => va_Nw.same rfl (rfl : U.vm = (U.calling g mk a).vm) (h.2.2 q hq)⟩
/-- the heap H holds M; its size is z; below the start's size it is the start's -/
def ah_g (H0 : Heap) (D : va_G) (ca : Nat → ClassId) (M : ah_h) (z : Nat) (H : Heap) : Prop := H.size = z ∧ H0.size ≤ z ∧ (∀ q, q < H0.size → H[q]? = H0[q]?) ∧ ∀ q e, M q = some e → H0.size ≤ q ∧ va_at D vwCl (q, ah_e ca e) H
def ah_L (H0 : Heap) (locs : List Loc) : Prop := ∀ q ∈ locs, H0.size ≤ q.base
theorem ah_L.nil {H0 : Heap} : ah_L H0 [] := fun q h => by cases h
theorem ah_L.add {H0 : Heap} {locs : List Loc} {a k : Nat} (h : ah_L H0 locs) (ha : H0.size ≤ a) : ah_L H0 (locs ++ [⟨a, k⟩]) := fun q hq => by
  rcases List.mem_append.mp hq with h1 | h1
  · exact h q h1
  · rw [List.mem_singleton.mp h1]; exact ha
theorem ah_g.one {H0 : Heap} {D : va_G} {ca : Nat → ClassId} {M : ah_h} {z : Nat} {H : Heap} (h : ah_g H0 D ca M z H) {a : Nat} {e : ah_c} (ha : M a = some e) : va_P D vwCl [(a, ah_e ca e)] H := fun k q hk => by
  have hz : k < 1 := (List.getElem?_eq_some_iff.mp hk).1
  have h0 : k = 0 := by omega
  subst h0
  cases hk
  exact (h.2.2.2 a e ha).2
/-- a cell that was there is another -/
theorem ah_g.set {H0 : Heap} {D : va_G} {ca : Nat → ClassId} {M : ah_h} {z : Nat} {H H1 : Heap} (h : ah_g H0 D ca M z H) {a : Nat} {e0 e : ah_c} (ha : M a = some e0) (hz : H1.size = H.size) (he : va_at D vwCl (a, ah_e ca e) H1) (ho : ∀ q, q ≠ a → H1[q]? = H[q]?) : ah_g H0 D ca (ah_up M a e) z H1 := by
  have hb := (h.2.2.2 a e0 ha).1
  refine ⟨hz.trans h.1, h.2.1, fun q hq => (ho q (by omega)).trans (h.2.2.1 q hq), fun q e1 h1 => ?_⟩
  by_cases hqa : q = a
  · subst hqa
    rw [ah_up_self] at h1
    cases h1
    exact ⟨hb, he⟩
  · rw [ah_up_ne _ _ hqa] at h1
    exact ⟨(h.2.2.2 q e1 h1).1, (h.2.2.2 q e1 h1).2.kept (ho q hqa)⟩
/-- a cell came -/
theorem ah_g.push {H0 : Heap} {D : va_G} {ca : Nat → ClassId} {M : ah_h} {z : Nat} {H H1 : Heap} (h : ah_g H0 D ca M z H) {e : ah_c} (hz : H1.size = z + 1) (he : va_at D vwCl (z, ah_e ca e) H1) (ho : ∀ q, q < z → H1[q]? = H[q]?) : ah_g H0 D ca (ah_up M z e) (z + 1) H1 := by
  refine ⟨hz, by have := h.2.1; omega, fun q hq => (ho q (by have := h.2.1; omega)).trans (h.2.2.1 q hq), fun q e1 h1 => ?_⟩
  by_cases hqa : q = z
  · subst hqa
    rw [ah_up_self] at h1
    cases h1
    exact ⟨h.2.1, he⟩
  · rw [ah_up_ne _ _ hqa] at h1
    have hl : q < z := by have := (h.2.2.2 q e1 h1).2.lt; rw [h.1] at this; exact this
    exact ⟨(h.2.2.2 q e1 h1).1, (h.2.2.2 q e1 h1).2.kept (ho q hl)⟩
/-- what a method's walk stands on -/
def ah_K (p : Program) (s : State) (m : MethodId) (args : Array Value) (meth : Method) (c : Code) (D : va_G) (ca : Nat → ClassId) (own : String) (cc : ByteArray) (nL : Nat) (ret : Option FieldType) : Prop :=
  p.tables.exec = Jvm.exec ∧ c.code = cc ∧ c.maxLocals = nL ∧ s.vm.findClass own = some m.cls ∧ (∀ w ∈ ah_tb, w.before args s = true) ∧ ah_k D ca s ∧ meth.sig.returnType = ret ∧ meth.locks = false
/-- the end of a method: its answer, and the heap behind it -/
abbrev ah_q (H0 : Heap) (D : va_G) (ca : Nat → ClassId) (r : Option Value) (M : ah_h) (z : Nat) : Array Value → State → Outcome → State → Prop := fun _ _ o t => o = .returned r ∧ ah_g H0 D ca M z t.heap
abbrev ah_Q (below : List Frame) (args : Array Value) (s : State) (H0 : Heap) (D : va_G) (ca : Nat → ClassId) (mc ms : Nat) (r : Option Value) (M : ah_h) (z : Nat) : State → Prop := MQ below (ah_q H0 D ca r M z) args s mc ms (fun q => H0.size ≤ q)
abbrev ah_w (y : MethodName) (cc : ByteArray) (nL : Nat) (ret : Option FieldType) : List Cond := Cond.code y cc nL ret :: ah_tb
/-- a contract: from M at size z with these arguments the method answers r and leaves M' at size z' -/
def ah_ct (l : Launch) (H0 : Heap) (D : va_G) (ca : Nat → ClassId) (y : MethodName) (cc : ByteArray) (nL : Nat) (ret : Option FieldType) (fr lo mc ms : Nat) (As : List Value) (M : ah_h) (z : Nat) (r : Option Value) (M' : ah_h) (z' : Nat) : Prop :=
  Met l y (ah_w y cc nL ret) { frames := fr, cells := mc, slots := ms, locals := lo } (va_Pc As (fun U => ah_g H0 D ca M z U.heap ∧ ah_k D ca U)) (ah_q H0 D ca r M' z') mc ms (fun q => H0.size ≤ q)
/-- a contract out of a walk -/
theorem ah_of {l : Launch} {H0 : Heap} {D : va_G} {ca : Nat → ClassId} {own nm ds : String} {cc : ByteArray} {nL : Nat} {ret : Option FieldType} {fr lo mc ms : Nat} {As : List Value} {M : ah_h} {z : Nat} {r : Option Value} {M' : ah_h} {z' : Nat} (hy : plainName own = true) (hA : (lg_sl As).length ≤ nL)
    (body : ∀ (p : Program) (e : Env) (s : State) (m : MethodId) (below : List Frame) (meth : Method) (c : Code) (ls : Array Slot), (nm = "<init>" → meth.name = "<init>") → ah_K p s m As.toArray meth c D ca own cc nL ret → ah_g H0 D ca M z s.heap → lv_has ls nL (lv_args 0 As) →
      W p l e { frames := fr, cells := mc, slots := ms, locals := lo } s m As.toArray below meth c s.heap [] 0 0 (ah_Q below As.toArray s H0 D ca mc ms r M' z') (F0 m 0 ls [])) : ah_ct l H0 D ca ⟨own, nm, ds⟩ cc nL ret fr lo mc ms As M z r M' z' := by
  refine Met.ofW (cc := cc) (maxL := nL) (ret := ret) hy rfl ?_
  intro p e s m args below meth c s₁ B hml hv
  obtain ⟨rfl, hg, hk⟩ := hv
  have hts := atoms_spec (ws := ah_w ⟨own, nm, ds⟩ cc nL ret) B.pre
  have hl := lv_entry As (n := nL) hA
  rw [lg_entry_eq]
  exact body p e s m below meth c _ (fun h => by rw [← h]; exact (name_of_methodNamed B.named B.method).1) ⟨B.exec, B.bytes, hml, findClass_of_methodNamed B.named, fun w hw => hts w (List.mem_cons_of_mem _ hw), hk, B.returns, B.notSynchronized⟩ hg hl
/-- a field of an object, by the pool entry that names it -/
def ah_F (own : String) (index ci k : Nat) : Prop := ∃ (C : String) (T : u_T) (N : Nat) (ref : String), vwCl[ci]? = some (C, T, N) ∧ k < N ∧ (∀ w ∈ u_ws C T N, w ∈ ah_tb) ∧ Cond.fieldLink own index ref (T k).2.1 (T k).2.2.1 ∈ ah_tb ∧ (ref = (T k).1 ∨ Cond.sameField ref (T k).1 (T k).2.1 (T k).2.2.1 ∈ ah_tb)
/-- .. that may be written -/
def ah_W (own : String) (index ci k : Nat) (ty : FieldType) (fin : Bool) : Prop := ∃ (C : String) (T : u_T) (N : Nat) (t0 : Nat → FieldType), vwCl[ci]? = some (C, T, N) ∧ k < N ∧ (∀ w ∈ u_ws C T N, w ∈ ah_tb) ∧ Cond.fieldLink own index (T k).1 (T k).2.1 (T k).2.2.1 ∈ ah_tb ∧ (∀ k, k < N → parseFieldDescriptor (T k).2.2.1 = some (t0 k)) ∧ (∀ a, a < N → ∀ b, b < N → a ≠ b → (T a).2.1 ≠ (T b).2.1) ∧ (T k).2.2.2 = fin ∧ (fin = true → (T k).1 = own) ∧ parseFieldDescriptor (T k).2.2.1 = some ty
section AH
variable {p : Program} {l : Launch} {e : Env} {R : Room} {s : State} {m : MethodId} {args : Array Value} {below : List Frame} {meth : Method} {c : Code} {H : Heap} {locs : List Loc} {cells slots : Nat} {Q : State → Prop}
variable {cc : ByteArray} {pc : Nat} {ls : Array Slot} {rest : List Value} {D : va_G} {ca : Nat → ClassId} {a : Nat} {H0 : Heap} {own : String} {nL : Nat} {ret : Option FieldType} {M : ah_h} {z : Nat}
theorem ah_get (K : ah_K p s m args meth c D ca own cc nL ret) (hG : ah_g H0 D ca M z H) {ci k index : Nat} {fs : List Value} {v : Value} (hM : M a = some (ah_O ci fs)) (hv : fs[k]? = some v) (hF : ah_F own index ci k) (hdg : decode cc pc = .ok (.getfield index, 3))
    (kk : W p l e R s m args below meth c H locs cells slots Q (F0 m (pc + 3) ls (v :: rest))) : W p l e R s m args below meth c H locs cells slots Q (F0 m pc ls (.ref a :: rest)) := by
  obtain ⟨hx, hb, -, hown, hts, hk, -, -⟩ := K
  obtain ⟨C, T, N, ref, hc, hkN, hin, hlink, hsame⟩ := hF
  refine va_get (D := D) (cl := vwCl) (ci := ci) (C := C) (T := T) (N := N) hx hb hts hin hown hk.1 (hG.one hM) 0 rfl hc k hkN (hts _ hlink) (fun x h9 => ?_) hv hdg kk
  rcases hsame with rfl | h
  · exact h9
  · exact u_same (hts _ h) x h9
theorem ah_geti (K : ah_K p s m args meth c D ca own cc nL ret) (hG : ah_g H0 D ca M z H) {ci k index : Nat} {v : Int32} (hv : ah_gi M a ci k = some v) (hF : ah_F own index ci k) (hdg : decode cc pc = .ok (.getfield index, 3))
    (kk : W p l e R s m args below meth c H locs cells slots Q (F0 m (pc + 3) ls (.int v :: rest))) : W p l e R s m args below meth c H locs cells slots Q (F0 m pc ls (.ref a :: rest)) := by
  obtain ⟨fs, h1, h2⟩ := ah_gi_some hv
  exact ah_get K hG h1 h2 hF hdg kk
theorem ah_getr (K : ah_K p s m args meth c D ca own cc nL ret) (hG : ah_g H0 D ca M z H) {ci k index : Nat} {v : Nat} (hv : ah_gr M a ci k = some v) (hF : ah_F own index ci k) (hdg : decode cc pc = .ok (.getfield index, 3))
    (kk : W p l e R s m args below meth c H locs cells slots Q (F0 m (pc + 3) ls (.ref v :: rest))) : W p l e R s m args below meth c H locs cells slots Q (F0 m pc ls (.ref a :: rest)) := by
  obtain ⟨fs, h1, h2⟩ := ah_gr_some hv
  exact ah_get K hG h1 h2 hF hdg kk
theorem ah_getq (K : ah_K p s m args meth c D ca own cc nL ret) (hG : ah_g H0 D ca M z H) {ci k index : Nat} {v : Option Nat} (hv : ah_gq M a ci k = some v) (hF : ah_F own index ci k) (hdg : decode cc pc = .ok (.getfield index, 3))
    (kk : W p l e R s m args below meth c H locs cells slots Q (F0 m (pc + 3) ls (va_rf v :: rest))) : W p l e R s m args below meth c H locs cells slots Q (F0 m pc ls (.ref a :: rest)) := by
  obtain ⟨fs, h1, h2⟩ := ah_gq_some hv
  exact ah_get K hG h1 h2 hF hdg kk
theorem ah_getc (K : ah_K p s m args meth c D ca own cc nL ret) (hG : ah_g H0 D ca M z H) {k index : Nat} {v : Int32} (hv : ah_gc M a k = some v) (hF : ∀ ci, ah_cap ci = true → ah_F own index ci k) (hdg : decode cc pc = .ok (.getfield index, 3))
    (kk : W p l e R s m args below meth c H locs cells slots Q (F0 m (pc + 3) ls (.int v :: rest))) : W p l e R s m args below meth c H locs cells slots Q (F0 m pc ls (.ref a :: rest)) := by
  obtain ⟨ci, fs, h1, h2, h3⟩ := ah_gc_some hv
  exact ah_get K hG h1 h3 (hF ci h2) hdg kk
theorem ah_put (K : ah_K p s m args meth c D ca own cc nL ret) (hG : ah_g H0 D ca M z H) (hL : ah_L H0 locs) {ci k index : Nat} {v : Value} {ty : FieldType} {M' : ah_h} (hv : ah_pf M a ci k v = some M') (hF : ah_W own index ci k ty false) (hn : narrow ty v = v) (hfit : fits ty v = true) (hdg : decode cc pc = .ok (.putfield index, 3))
    (kk : ∀ (H1 : Heap) (locs1 : List Loc), ah_g H0 D ca M' z H1 → ah_L H0 locs1 → W p l e R s m args below meth c H1 locs1 cells slots Q (F0 m (pc + 3) ls rest)) : W p l e R s m args below meth c H locs cells slots Q (F0 m pc ls (v :: .ref a :: rest)) := by
  obtain ⟨hx, hb, -, hown, hts, hk, -, -⟩ := K
  obtain ⟨fs, hM, hkl, rfl⟩ := ah_pf_some hv
  obtain ⟨C, T, N, t0, hc, hkN, hin, hlink, hty, hnm, hfin, -, hd⟩ := hF
  have hP := hG.one hM
  have hap := va_apart (own := own) hts hin t0 hty hnm hk.1 hc
  obtain ⟨r, h1, cell, q1, q2, q3, q4⟩ := hP 0 _ rfl
  have hr : r = (C, T, N) := Option.some.inj (h1.symm.trans hc)
  subst hr
  obtain ⟨hS, hfc, kC, hkC, hkind⟩ := hk.1.1 ci _ hc
  obtain ⟨cf, kf, fi, f, hi, hsl⟩ := hS k hkN
  have hlay := hts _ (hin _ (u_in_lay hkN))
  unfold u_lay at hlay
  rw [if_neg (by rw [hfin]; decide)] at hlay
  have hst := (u_facts hfc hkC (u_lays hts hin hkN) hi).1
  have h6 := u_store hfc hkC hkind hlay hi hd hn hfit
  refine W.putK hx hb (f := f) ⟨hown, hts _ hlink, ⟨_, _, _, hi⟩, hst⟩ (by rw [q2]; exact h6) q1 q3 (by rw [hsl]; exact k2_hasslot (q4 k hkN)) rfl rfl hdg fun H' e1 e2 e3 => ?_
  rw [hsl] at e1 ⊢
  exact kk H' _ (hG.set hM e2 ⟨_, hc, t_OB.to (V := updV (vp_V fs) k v) ⟨_, e1, q2, q3, t_set q4 hap hkN v⟩ (fun j _ => vp_updV_set hkl v j)⟩ e3) (hL.add (hG.2.2.2 a _ hM).1)
theorem ah_putF (K : ah_K p s m args meth c D ca own cc nL ret) (hG : ah_g H0 D ca M z H) (hL : ah_L H0 locs) {ci k index : Nat} {v : Value} {ty : FieldType} {M' : ah_h} (hv : ah_pf M a ci k v = some M') (hF : ah_W own index ci k ty true) (hin2 : meth.name = "<init>") (hn : narrow ty v = v) (hfit : fits ty v = true) (hdg : decode cc pc = .ok (.putfield index, 3))
    (kk : ∀ (H1 : Heap) (locs1 : List Loc), ah_g H0 D ca M' z H1 → ah_L H0 locs1 → W p l e R s m args below meth c H1 locs1 cells slots Q (F0 m (pc + 3) ls rest)) : W p l e R s m args below meth c H locs cells slots Q (F0 m pc ls (v :: .ref a :: rest)) := by
  obtain ⟨hx, hb, -, hown, hts, hk, -, -⟩ := K
  obtain ⟨fs, hM, hkl, rfl⟩ := ah_pf_some hv
  obtain ⟨C, T, N, t0, hc, hkN, hin, hlink, hty, hnm, hfin, hdecl, hd⟩ := hF
  have hdecl := hdecl rfl
  have hP := hG.one hM
  have hap := va_apart (own := own) hts hin t0 hty hnm hk.1 hc
  obtain ⟨r, h1, cell, q1, q2, q3, q4⟩ := hP 0 _ rfl
  have hr : r = (C, T, N) := Option.some.inj (h1.symm.trans hc)
  subst hr
  obtain ⟨hS, hfc, kC, hkC, hkind⟩ := hk.1.1 ci _ hc
  obtain ⟨cf, kf, fi, f, hi, hsl⟩ := hS k hkN
  have hlay := hts _ (hin _ (u_in_lay hkN))
  unfold u_lay at hlay
  rw [if_pos hfin] at hlay
  have hst := (u_facts hfc hkC (u_lays hts hin hkN) hi).1
  have hcf : m.cls = cf := by
    obtain ⟨_, _, c', _, _, _, -, -, hf', -, -, -, hown2, -⟩ := Cond.laysFinal_spec hlay
    have e1 : c' = cf := by have := hi.symm.trans hf'; simp at this; exact this.1.symm
    rw [hdecl] at hown2
    rw [← e1]; exact Option.some.inj (hown.symm.trans hown2)
  have h6 := u_fits hfc hkC hkind (Or.inr hlay) hi hd hn hfit
  refine W.putFinK hx hb hown (hts _ hlink) hi hst hcf hin2 (by rw [q2]; exact h6) q1 q3 (by rw [hsl]; exact k2_hasslot (q4 k hkN)) rfl rfl hdg fun H' e1 e2 e3 => ?_
  rw [hsl] at e1 ⊢
  exact kk H' _ (hG.set hM e2 ⟨_, hc, t_OB.to (V := updV (vp_V fs) k v) ⟨_, e1, q2, q3, t_set q4 hap hkN v⟩ (fun j _ => vp_updV_set hkl v j)⟩ e3) (hL.add (hG.2.2.2 a _ hM).1)
theorem ah_iald (K : ah_K p s m args meth c D ca own cc nL ret) (hG : ah_g H0 D ca M z H) {i v : Int32} (hv : ah_ai M a i = some v) (hdg : decode cc pc = .ok (.iaload, 1))
    (kk : W p l e R s m args below meth c H locs cells slots Q (F0 m (pc + 1) ls (.int v :: rest))) : W p l e R s m args below meth c H locs cells slots Q (F0 m pc ls (.int i :: .ref a :: rest)) := by
  obtain ⟨n, f, hM, hin, rfl⟩ := ah_ai_some hv
  exact va_iald K.1 K.2.1 K.2.2.2.2.2.1.1 (hG.one hM) 0 0 rfl rfl hin hdg kk
theorem ah_lald (K : ah_K p s m args meth c D ca own cc nL ret) (hG : ah_g H0 D ca M z H) {i : Int32} {v : Int64} (hv : ah_aj M a i = some v) (hdg : decode cc pc = .ok (.laload, 1))
    (kk : W p l e R s m args below meth c H locs cells slots Q (F0 m (pc + 1) ls (.long v :: rest))) : W p l e R s m args below meth c H locs cells slots Q (F0 m pc ls (.int i :: .ref a :: rest)) := by
  obtain ⟨n, f, hM, hin, rfl⟩ := ah_aj_some hv
  exact va_lald K.1 K.2.1 K.2.2.2.2.2.1.1 (hG.one hM) 0 1 rfl rfl hin hdg kk
theorem ah_aald (K : ah_K p s m args meth c D ca own cc nL ret) (hG : ah_g H0 D ca M z H) {t : Nat} {ty : FieldType} {i : Int32} {v : Nat} (hv : ah_ar M a t i = some v) (ht : (ah_ty ca)[t]? = some (ca t, ty)) (hty : ty.isReference = true) (hdg : decode cc pc = .ok (.aaload, 1))
    (kk : W p l e R s m args below meth c H locs cells slots Q (F0 m (pc + 1) ls (.ref v :: rest))) : W p l e R s m args below meth c H locs cells slots Q (F0 m pc ls (.int i :: .ref a :: rest)) := by
  obtain ⟨n, f, hM, hin, hf⟩ := ah_ar_some hv
  have hlt : i.toNatClampNeg < n := Nat.not_le.mp fun q => hin (Or.inr q)
  have hc : H[a]? = some (vp_cell (ca t) (n, .inr (.inr (.inr (.inr f))))) := (hG.2.2.2 a _ hM).2
  exact W.aald (v := .ref v) (ty := ty) K.1 K.2.1 hc ((K.2.2.2.2.2.1.1.2 t _ ht).1 n (fun j => va_rf (f j))) hty (fun q => by cases q) (by show ¬ (i < 0 ∨ (arrV _ _ _).slots.size ≤ _); rw [arrV_size]; exact hin) (by show (arrV _ _ _).slots[_]? = _; rw [arrV_read _ _ hlt, hf]; rfl) rfl rfl hdg kk
theorem ah_ale (K : ah_K p s m args meth c D ca own cc nL ret) (hG : ah_g H0 D ca M z H) {v : Int32} (hv : ah_al M a = some v) (hdg : decode cc pc = .ok (.arraylength, 1))
    (kk : W p l e R s m args below meth c H locs cells slots Q (F0 m (pc + 1) ls (.int v :: rest))) : W p l e R s m args below meth c H locs cells slots Q (F0 m pc ls (.ref a :: rest)) := by
  unfold ah_al at hv
  split at hv
  · next x hx => cases hv; exact va_alen K.1 K.2.1 K.2.2.2.2.2.1.1 (hG.one hx) 0 0 rfl rfl rfl hdg kk
  · next x hx => cases hv; exact va_alen K.1 K.2.1 K.2.2.2.2.2.1.1 (hG.one hx) 0 1 rfl rfl rfl hdg kk
  · cases hv
theorem ah_aler (K : ah_K p s m args meth c D ca own cc nL ret) (hG : ah_g H0 D ca M z H) {t : Nat} {ty : FieldType} {v : Int32} (hv : ah_alr M a t = some v) (ht : (ah_ty ca)[t]? = some (ca t, ty)) (hdg : decode cc pc = .ok (.arraylength, 1))
    (kk : W p l e R s m args below meth c H locs cells slots Q (F0 m (pc + 1) ls (.int v :: rest))) : W p l e R s m args below meth c H locs cells slots Q (F0 m pc ls (.ref a :: rest)) := by
  unfold ah_alr at hv
  split at hv
  · next x hx =>
    split at hv
    · next h => cases hv; subst h; exact va_alen K.1 K.2.1 K.2.2.2.2.2.1.1 (hG.one hx) 0 x.1 rfl ht rfl hdg kk
    · cases hv
  · cases hv
theorem ah_iast (K : ah_K p s m args meth c D ca own cc nL ret) (hG : ah_g H0 D ca M z H) (hL : ah_L H0 locs) {i v : Int32} {M' : ah_h} (hv : ah_si M a i v = some M') (hdg : decode cc pc = .ok (.iastore, 1))
    (kk : ∀ (H1 : Heap) (locs1 : List Loc), ah_g H0 D ca M' z H1 → ah_L H0 locs1 → W p l e R s m args below meth c H1 locs1 cells slots Q (F0 m (pc + 1) ls rest)) : W p l e R s m args below meth c H locs cells slots Q (F0 m pc ls (.int v :: .int i :: .ref a :: rest)) := by
  obtain ⟨n, f, hM, hin, rfl⟩ := ah_si_some hv
  have hc : H[a]? = some (vp_cell (ca 0) (n, .inl f)) := (hG.2.2.2 a _ hM).2
  refine W.iast K.1 K.2.1 hc ((K.2.2.2.2.2.1.1.2 0 _ rfl).1 n (fun j => .int (f j))) (fun q => by cases q) (by show ¬ (i < 0 ∨ (arrV _ _ _).slots.size ≤ _); rw [arrV_size]; exact hin) rfl rfl hdg fun H1 e z oq => ?_
  refine kk H1 _ (hG.set hM z ?_ oq) (hL.add (hG.2.2.2 a _ hM).1)
  show H1[a]? = some (vp_cell _ _)
  rw [e]
  rw [vp_cell_i, vp_cell_i, arrV_store]
  congr 2
  funext q
  by_cases hq : q = i.toNatClampNeg
  · subst hq
    simp [updV, upd]
  · simp [updV, upd, hq]
theorem ah_last (K : ah_K p s m args meth c D ca own cc nL ret) (hG : ah_g H0 D ca M z H) (hL : ah_L H0 locs) {i : Int32} {v : Int64} {M' : ah_h} (hv : ah_sj M a i v = some M') (hdg : decode cc pc = .ok (.lastore, 1))
    (kk : ∀ (H1 : Heap) (locs1 : List Loc), ah_g H0 D ca M' z H1 → ah_L H0 locs1 → W p l e R s m args below meth c H1 locs1 cells slots Q (F0 m (pc + 1) ls rest)) : W p l e R s m args below meth c H locs cells slots Q (F0 m pc ls (.long v :: .int i :: .ref a :: rest)) := by
  obtain ⟨n, f, hM, hin, rfl⟩ := ah_sj_some hv
  have hc : H[a]? = some (vp_cell (ca 1) (n, .inr (.inl f))) := (hG.2.2.2 a _ hM).2
  refine W.last K.1 K.2.1 hc ((K.2.2.2.2.2.1.1.2 1 _ rfl).1 n (fun j => .long (f j))) (fun q => by cases q) (by show ¬ (i < 0 ∨ (arrV _ _ _).slots.size ≤ _); rw [arrV_size]; exact hin) rfl rfl hdg fun H1 e z oq => ?_
  refine kk H1 _ (hG.set hM z ?_ oq) (hL.add (hG.2.2.2 a _ hM).1)
  show H1[a]? = some (vp_cell _ _)
  rw [e]
  rw [vp_cell_l, vp_cell_l, arrV_store]
  congr 2
  funext q
  by_cases hq : q = i.toNatClampNeg
  · subst hq
    simp [updV, vp_updL]
  · simp [updV, vp_updL, hq]
/-- a reference into an array of references: the class of what is stored fits -/
theorem ah_aast (K : ah_K p s m args meth c D ca own cc nL ret) (hG : ah_g H0 D ca M z H) (hL : ah_L H0 locs) {t : Nat} {E : String} {i : Int32} {v : Nat} {M' : ah_h} (hv : ah_sr M a t i v = some M') (ht : (ah_ty ca)[t]? = some (ca t, .object E)) (hr : va_Any E s H v) (hdg : decode cc pc = .ok (.aastore, 1))
    (kk : ∀ (H1 : Heap) (locs1 : List Loc), ah_g H0 D ca M' z H1 → ah_L H0 locs1 → W p l e R s m args below meth c H1 locs1 cells slots Q (F0 m (pc + 1) ls rest)) : W p l e R s m args below meth c H locs cells slots Q (F0 m pc ls (.ref v :: .int i :: .ref a :: rest)) := by
  obtain ⟨n, f, hM, hin, rfl⟩ := ah_sr_some hv
  have hlt : i.toNatClampNeg < n := Nat.not_le.mp fun q => hin (Or.inr q)
  have h0 : ¬ i < 0 := fun q => hin (Or.inl q)
  have hc : H[a]? = some (vp_cell (ca t) (n, .inr (.inr (.inr (.inr f))))) := (hG.2.2.2 a _ hM).2
  obtain ⟨cellV, g1, g3, ⟨kC, hkC⟩, hasg⟩ := hr
  obtain ⟨kA, comp, k1, k2, k3, -⟩ := (K.2.2.2.2.2.1.1.2 t _ ht).2
  obtain ⟨kE, hkE, -⟩ := Vm.findClass_spec k3
  refine W.aast K.1 K.2.1 hc (fun q h => by cases h) (fun h => by cases h) k1 k2 rfl hkE ⟨h0, by show _ < (arrV _ _ _).slots.size; rw [arrV_size]; exact hlt⟩ g1 (fun q h => by rw [h] at g3; cases g3) hkC (hasg _ k3) rfl rfl hdg fun H1 e z oq => ?_
  refine kk H1 _ (hG.set hM z ?_ oq) (hL.add (hG.2.2.2 a _ hM).1)
  show H1[a]? = some (vp_cell _ _)
  rw [e]
  rw [vp_cell_q, vp_cell_q, arrV_store]
  congr 2
  funext q
  by_cases hq : q = i.toNatClampNeg
  · subst hq
    simp [updV, va_up, va_rf]
  · simp [updV, va_up, hq]
/-! ends -/
theorem ah_iret (K : ah_K p s m args meth c D ca own cc nL (some .int)) (hG : ah_g H0 D ca M z H) (hL : ah_L H0 locs) {mc ms : Nat} {v : Int32} (hc : cells ≤ mc) (hs : slots ≤ ms) (hdg : decode cc pc = .ok (.ireturn, 1)) : W p l e R s m args below meth c H locs cells slots (ah_Q below args s H0 D ca mc ms (some (.int v)) M z) (F0 m pc ls [.int v]) := by
  have hlocks := K.2.2.2.2.2.2.2
  exact W.widen hc hs (W.iret (v := v) K.1 K.2.1 K.2.2.2.2.2.2.1 (fun t ht _ => ⟨rfl, by rw [ht]; exact hG⟩) hL hdg)
theorem ah_zret (K : ah_K p s m args meth c D ca own cc nL (some .boolean)) (hG : ah_g H0 D ca M z H) (hL : ah_L H0 locs) {mc ms : Nat} {v : Int32} (hv : v = 0 ∨ v = 1) (hc : cells ≤ mc) (hs : slots ≤ ms) (hdg : decode cc pc = .ok (.ireturn, 1)) : W p l e R s m args below meth c H locs cells slots (ah_Q below args s H0 D ca mc ms (some (.int v)) M z) (F0 m pc ls [.int v]) := by
  have hlocks := K.2.2.2.2.2.2.2
  exact W.widen hc hs (W.zret (v := v) K.1 K.2.1 K.2.2.2.2.2.2.1 (by rcases hv with rfl | rfl <;> rfl) (fun t ht _ => ⟨rfl, by rw [ht]; exact hG⟩) hL hdg)
theorem ah_lret (K : ah_K p s m args meth c D ca own cc nL (some .long)) (hG : ah_g H0 D ca M z H) (hL : ah_L H0 locs) {mc ms : Nat} {v : Int64} (hc : cells ≤ mc) (hs : slots ≤ ms) (hdg : decode cc pc = .ok (.lreturn, 1)) : W p l e R s m args below meth c H locs cells slots (ah_Q below args s H0 D ca mc ms (some (.long v)) M z) (F0 m pc ls [.long v]) := by
  have hlocks := K.2.2.2.2.2.2.2
  exact W.widen hc hs (W.lret (v := v) K.1 K.2.1 K.2.2.2.2.2.2.1 (fun t ht _ => ⟨rfl, by rw [ht]; exact hG⟩) hL hdg)
theorem ah_vret (K : ah_K p s m args meth c D ca own cc nL none) (hG : ah_g H0 D ca M z H) (hL : ah_L H0 locs) {mc ms : Nat} (hc : cells ≤ mc) (hs : slots ≤ ms) (hdg : decode cc pc = .ok (.return_, 1)) : W p l e R s m args below meth c H locs cells slots (ah_Q below args s H0 D ca mc ms none M z) (F0 m pc ls []) := by
  have hlocks := K.2.2.2.2.2.2.2
  exact W.widen hc hs (W.vret K.1 K.2.1 K.2.2.2.2.2.2.1 (fun t ht _ => ⟨rfl, by rw [ht]; exact hG⟩) hL hdg)
theorem ah_aret {C : String} (K : ah_K p s m args meth c D ca own cc nL (some (.object C))) (hG : ah_g H0 D ca M z H) (hL : ah_L H0 locs) {mc ms : Nat} {v : Nat} (hc : cells ≤ mc) (hs : slots ≤ ms) (hdg : decode cc pc = .ok (.areturn, 1)) : W p l e R s m args below meth c H locs cells slots (ah_Q below args s H0 D ca mc ms (some (.ref v)) M z) (F0 m pc ls [.ref v]) := by
  have hlocks := K.2.2.2.2.2.2.2
  exact W.widen hc hs (W.aret (v := .ref v) K.1 K.2.1 K.2.2.2.2.2.2.1 (Or.inl ⟨_, rfl⟩) (Or.inr ⟨_, rfl⟩) (fun t ht _ => ⟨rfl, by rw [ht]; exact hG⟩) hL hdg)
/-! calls -/
theorem ah_go {mc ms : Nat} {st0 : List Value} {r : Option Value} {M' : ah_h} {z' : Nat} (hL : ah_L H0 locs) (hr : va_Run p l e R s m args below meth c H locs cells slots mc ms (F0 m pc ls st0) rest (fun _ o t => o = .returned r ∧ ah_g H0 D ca M' z' t.heap) (fun q => H0.size ≤ q))
    (kk : ∀ (H1 : Heap) (locs1 : List Loc), ah_g H0 D ca M' z' H1 → ah_L H0 locs1 → W p l e R s m args below meth c H1 locs1 (cells + mc) (slots + ms) Q (F0 m (pc + 3) ls (r.toList ++ rest))) : W p l e R s m args below meth c H locs cells slots Q (F0 m pc ls st0) := by
  intro T hT X
  obtain ⟨v, st₀, t, T', L, h0, X', hLL, e1, e2, ⟨hv, hg⟩, st⟩ := hr T hT X
  cases hv
  obtain ⟨t2, a1, b1⟩ := kk T'.heap (locs ++ L) (by rw [e1]; exact hg) (fun q hq => by
      rcases List.mem_append.mp hq with h | h
      · exact hL q h
      · exact hLL q h) T' rfl X'
  exact ⟨t2, st t2 a1, b1⟩
theorem ah_good {ws : List Cond} (h : ∀ w ∈ ws, w ∈ ah_tb) : GoodIn ah_tb ws := fun w hw => ⟨h w hw, good_of_word (List.mem_filter.mp (h w hw)).2⟩
theorem ah_goodc {y : MethodName} {c9 : ByteArray} {n9 : Nat} {r9 : Option FieldType} (h : Cond.code y c9 n9 r9 ∈ ah_tb) : GoodIn ah_tb (ah_w y c9 n9 r9) := ah_good (fun w hw => by
  rcases List.mem_cons.mp hw with rfl | hw
  · exact h
  · exact hw)
theorem ah_pre (K : ah_K p s m args meth c D ca own cc nL ret) (hG : ah_g H0 D ca M z H) (As : List Value) : FrameBlind (va_Pc As (fun U => ah_g H0 D ca M z U.heap ∧ ah_k D ca U)) ∧ ∀ U : State, U.heap = H → s.WarmedH U.vm → va_Pc As (fun U => ah_g H0 D ca M z U.heap ∧ ah_k D ca U) As.toArray U :=
  ⟨fun a U g mk q => ⟨q.1, q.2.1, q.2.2.calling g mk a⟩, fun U hU hW => ⟨rfl, by rw [hU]; exact hG, K.2.2.2.2.2.1.warm hW⟩⟩
theorem ah_recv (K : ah_K p s m args meth c D ca own cc nL ret) (hG : ah_g H0 D ca M z H) {ci : Nat} {fs : List Value} (hM : M a = some (ah_O ci fs)) {C : String} {T : u_T} {N : Nat} (hc : vwCl[ci]? = some (C, T, N)) : ∃ cell : Cell, H[a]? = some cell ∧ cell.vm.isStatics = false ∧ s.vm.findClass C = some cell.cls :=
  va_recv K.2.2.2.2.2.1.1 (hG.one hM) (q0 := 0) hc rfl
/-- what a call's rows ask of the callee's name -/
abbrev ah_d (y : MethodName) (n : Nat) : Prop := y.cls ≠ "java/lang/invoke/MethodHandle" ∧ y.cls ≠ "java/lang/invoke/VarHandle" ∧ (parseMethodDescriptor y.desc).map (fun d => d.parameters.length) = some n
variable {y : MethodName} {c9 : ByteArray} {n9 index fr lo mc ms n : Nat} {r9 : Option FieldType} {As : List Value} {r : Option Value} {M' : ah_h} {z' : Nat}
theorem ah_callS (K : ah_K p s m args meth c D ca own cc nL ret) (hG : ah_g H0 D ca M z H) (hL : ah_L H0 locs) (hls : ls.size = nL) (hM : ah_ct l H0 D ca y c9 n9 r9 fr lo mc ms As M z r M' z') (hd : ah_d y n) (w1 : Cond.methodLink own index y ∈ ah_tb) (w2 : Cond.static y ∈ ah_tb) (w3 : Cond.initialized y.cls ∈ ah_tb) (w4 : Cond.code y c9 n9 r9 ∈ ah_tb)
    (hR : fr + 1 ≤ R.frames ∧ 8 + (n9 + 11) + lo ≤ R.locals) {st : List Value} (hn : As.length = n) (hst : st = As.reverse ++ rest) (hW : (rest.map fun v => v.category).sum ≤ 8) (hf : cells + mc ≤ R.cells ∧ slots + ms ≤ R.slots) (hdg : decode cc pc = .ok (.invokestatic index, 3))
    (kk : ∀ (H1 : Heap) (locs1 : List Loc), ah_g H0 D ca M' z' H1 → ah_L H0 locs1 → W p l e R s m args below meth c H1 locs1 (cells + mc) (slots + ms) Q (F0 m (pc + 3) ls (r.toList ++ rest))) : W p l e R s m args below meth c H locs cells slots Q (F0 m pc ls st) := by
  obtain ⟨hx, hb, hml, hown, hts, -⟩ := id K
  refine ah_go hL ?_ kk
  exact va_runS ⟨hx, hb, hml, hown, hts⟩ hM ⟨callB_of n hts (ah_goodc w4) rfl rfl rfl (hts _ w3) (hts _ w1) hd hR, hts _ w2⟩ (ah_pre K hG As) rfl hn hls hst (lv_room hW) hdg hf
theorem ah_callSN (K : ah_K p s m args meth c D ca own cc nL ret) (hG : ah_g H0 D ca M z H) (hL : ah_L H0 locs) (hls : ls.size = nL) (hM : ah_ct l H0 D ca y c9 n9 r9 fr lo mc ms As M z r M' z') (hd : ah_d y n) {host : String} (w1 : (own, index, y, host) ∈ ah_nM) (w2 : Cond.static y ∈ ah_tb) (w3 : Cond.initialized y.cls ∈ ah_tb) (w4 : Cond.code y c9 n9 r9 ∈ ah_tb)
    (hR : fr + 1 ≤ R.frames ∧ 8 + (n9 + 11) + lo ≤ R.locals) {st : List Value} (hn : As.length = n) (hst : st = As.reverse ++ rest) (hW : (rest.map fun v => v.category).sum ≤ 8) (hf : cells + mc ≤ R.cells ∧ slots + ms ≤ R.slots) (hdg : decode cc pc = .ok (.invokestatic index, 3))
    (kk : ∀ (H1 : Heap) (locs1 : List Loc), ah_g H0 D ca M' z' H1 → ah_L H0 locs1 → W p l e R s m args below meth c H1 locs1 (cells + mc) (slots + ms) Q (F0 m (pc + 3) ls (r.toList ++ rest))) : W p l e R s m args below meth c H locs cells slots Q (F0 m pc ls st) := by
  obtain ⟨hx, hb, hml, hown, hts, hk, -⟩ := id K
  refine ah_go hL ?_ kk
  exact va_runSN ⟨hx, hb, hml, hown, hts⟩ hM ⟨va_cnB n hts (ah_goodc w4) rfl rfl rfl (hk.2.1 _ w1) (hts _ w3) hd hR, hts _ w2, trivial⟩ (ah_pre K hG As) rfl hn hls hst (lv_room hW) hdg hf
theorem ah_callV (K : ah_K p s m args meth c D ca own cc nL ret) (hG : ah_g H0 D ca M z H) (hL : ah_L H0 locs) (hls : ls.size = nL) {ci : Nat} {fs : List Value} {C : String} {T : u_T} {N : Nat} (hO : M a = some (ah_O ci fs)) (hc : vwCl[ci]? = some (C, T, N)) (hM : ah_ct l H0 D ca y c9 n9 r9 fr lo mc ms (.ref a :: As) M z r M' z') (hd : ah_d y n) (w1 : Cond.methodLink own index y ∈ ah_tb) (w2 : Cond.instanceMethod y ∈ ah_tb) (w3 : Cond.initialized y.cls ∈ ah_tb) (w4 : Cond.code y c9 n9 r9 ∈ ah_tb) (w5 : Cond.selects C y y ∈ ah_tb)
    (hR : fr + 1 ≤ R.frames ∧ 8 + (n9 + 11) + lo ≤ R.locals) {st : List Value} (hn : As.length = n) (hst : st = As.reverse ++ .ref a :: rest) (hW : (rest.map fun v => v.category).sum ≤ 8) (hf : cells + mc ≤ R.cells ∧ slots + ms ≤ R.slots) (hdg : decode cc pc = .ok (.invokevirtual index, 3))
    (kk : ∀ (H1 : Heap) (locs1 : List Loc), ah_g H0 D ca M' z' H1 → ah_L H0 locs1 → W p l e R s m args below meth c H1 locs1 (cells + mc) (slots + ms) Q (F0 m (pc + 3) ls (r.toList ++ rest))) : W p l e R s m args below meth c H locs cells slots Q (F0 m pc ls st) := by
  obtain ⟨hx, hb, hml, hown, hts, -⟩ := id K
  refine ah_go hL ?_ kk
  have hp := ah_pre K hG (.ref a :: As)
  exact va_runV ⟨hx, hb, hml, hown, hts⟩ hM ⟨callB_of n hts (ah_goodc w4) rfl rfl rfl (hts _ w3) (hts _ w1) hd hR, hts _ w2, hts _ w5⟩ ⟨hp.1, ah_recv K hG hO hc, hp.2⟩ rfl hn hls hst (lv_room hW) hdg hf
theorem ah_callI (K : ah_K p s m args meth c D ca own cc nL ret) (hG : ah_g H0 D ca M z H) (hL : ah_L H0 locs) (hls : ls.size = nL) (hM : ah_ct l H0 D ca y c9 n9 none fr lo mc ms (.ref a :: As) M z r M' z') (hy : y.name = "<init>") (hd : ah_d y n) (w1 : Cond.methodLink own index y ∈ ah_tb) (w2 : Cond.instanceMethod y ∈ ah_tb) (w3 : Cond.initialized y.cls ∈ ah_tb) (w4 : Cond.code y c9 n9 none ∈ ah_tb)
    (hR : fr + 1 ≤ R.frames ∧ 8 + (n9 + 11) + lo ≤ R.locals) {st : List Value} (hn : As.length = n) (hst : st = As.reverse ++ .ref a :: rest) (hW : (rest.map fun v => v.category).sum ≤ 8) (hf : cells + mc ≤ R.cells ∧ slots + ms ≤ R.slots) (hdg : decode cc pc = .ok (.invokespecial index, 3))
    (kk : ∀ (H1 : Heap) (locs1 : List Loc), ah_g H0 D ca M' z' H1 → ah_L H0 locs1 → W p l e R s m args below meth c H1 locs1 (cells + mc) (slots + ms) Q (F0 m (pc + 3) ls (r.toList ++ rest))) : W p l e R s m args below meth c H locs cells slots Q (F0 m pc ls st) := by
  obtain ⟨hx, hb, hml, hown, hts, -⟩ := id K
  refine ah_go hL ?_ kk
  exact va_runI ⟨hx, hb, hml, hown, hts⟩ hM ⟨callB_of n hts (ah_goodc w4) rfl rfl rfl (hts _ w3) (hts _ w1) hd hR, hy, hts _ w2⟩ (ah_pre K hG (.ref a :: As)) rfl hn hls hst (lv_room hW) hdg hf
/-- super.m(..) -/
theorem ah_callU (K : ah_K p s m args meth c D ca own cc nL ret) (hG : ah_g H0 D ca M z H) (hL : ah_L H0 locs) (hls : ls.size = nL) {ci : Nat} {fs : List Value} {C : String} {T : u_T} {N : Nat} (hO : M a = some (ah_O ci fs)) (hc : vwCl[ci]? = some (C, T, N)) (hM : ah_ct l H0 D ca y c9 n9 r9 fr lo mc ms (.ref a :: As) M z r M' z') (hd : y.name ≠ "<init>" ∧ (parseMethodDescriptor y.desc).map (fun d => d.parameters.length) = some n) (w1 : Cond.methodLink own index y ∈ ah_tb) (w2 : Cond.instanceMethod y ∈ ah_tb) (w3 : Cond.initialized y.cls ∈ ah_tb) (w4 : Cond.code y c9 n9 r9 ∈ ah_tb) (w5 : Cond.sameMethod y.cls y.cls y.name y.desc ∈ ah_tb) (w6 : Cond.superclass own y.cls ∈ ah_tb)
    (hR : fr + 1 ≤ R.frames ∧ 8 + (n9 + 11) + lo ≤ R.locals) {st : List Value} (hn : As.length = n) (hst : st = As.reverse ++ .ref a :: rest) (hW : (rest.map fun v => v.category).sum ≤ 8) (hf : cells + mc ≤ R.cells ∧ slots + ms ≤ R.slots) (hdg : decode cc pc = .ok (.invokespecial index, 3))
    (kk : ∀ (H1 : Heap) (locs1 : List Loc), ah_g H0 D ca M' z' H1 → ah_L H0 locs1 → W p l e R s m args below meth c H1 locs1 (cells + mc) (slots + ms) Q (F0 m (pc + 3) ls (r.toList ++ rest))) : W p l e R s m args below meth c H locs cells slots Q (F0 m pc ls st) := by
  obtain ⟨hx, hb, hml, hown, hts, hk, -⟩ := id K
  refine ah_go hL ?_ kk
  have hp := ah_pre K hG (.ref a :: As)
  have hG9 : GoodIn ah_tb (va_wsSU own index y (ah_w y c9 n9 r9)) := ah_good (fun w hw => by
    rcases List.mem_append.mp hw with h | h
    · simp only [List.mem_cons, List.not_mem_nil, or_false] at h
      rcases h with rfl | rfl | rfl | rfl | rfl
      · exact w1
      · exact w5
      · exact w6
      · exact w2
      · exact w3
    · exact (ah_goodc w4 w h).1)
  exact va_runSU (hk.1.1 ci _ hc).2 ⟨hx, hb, hml, hown, hts⟩ hM (va_cwSU n hts hG9 rfl rfl rfl hd hR) ⟨hp.1, ah_recv K hG hO hc, hp.2⟩ rfl hn hls hst (lv_room hW) hdg hf
/-- a call of a method that the receiver's class, C, overrides or inherits: x is named, y is run -/
theorem ah_callO (K : ah_K p s m args meth c D ca own cc nL ret) (hG : ah_g H0 D ca M z H) (hL : ah_L H0 locs) (hls : ls.size = nL) {ci : Nat} {fs : List Value} {C owner : String} {T : u_T} {N : Nat} (hO : M a = some (ah_O ci fs)) (hc : vwCl[ci]? = some (C, T, N)) (hM : ah_ct l H0 D ca y c9 n9 r9 fr lo mc ms (.ref a :: As) M z r M' z') {x : MethodName} (hd : owner ≠ "java/lang/invoke/MethodHandle" ∧ owner ≠ "java/lang/invoke/VarHandle" ∧ (parseMethodDescriptor x.desc).map (fun d => d.parameters.length) = some n) (w1 : Cond.methodLink own index x ∈ ah_tb) (w2 : Cond.instanceMethod y ∈ ah_tb) (w3 : Cond.initialized y.cls ∈ ah_tb) (w4 : Cond.code y c9 n9 r9 ∈ ah_tb) (w5 : Cond.sameMethod x.cls owner x.name x.desc ∈ ah_tb) (w6 : Cond.selects C x y ∈ ah_tb)
    (w7 : Cond.instanceMethod ⟨owner, x.name, x.desc⟩ ∈ ah_tb) {b0 : ByteArray} {m0 : Nat} {r0 : Option FieldType} (w8 : Cond.code ⟨owner, x.name, x.desc⟩ b0 m0 r0 ∈ ah_tb)
    (hR : fr + 1 ≤ R.frames ∧ 8 + (n9 + 11) + lo ≤ R.locals) {st : List Value} (hn : As.length = n) (hst : st = As.reverse ++ .ref a :: rest) (hW : (rest.map fun v => v.category).sum ≤ 8) (hf : cells + mc ≤ R.cells ∧ slots + ms ≤ R.slots) (hdg : decode cc pc = .ok (.invokevirtual index, 3))
    (kk : ∀ (H1 : Heap) (locs1 : List Loc), ah_g H0 D ca M' z' H1 → ah_L H0 locs1 → W p l e R s m args below meth c H1 locs1 (cells + mc) (slots + ms) Q (F0 m (pc + 3) ls (r.toList ++ rest))) : W p l e R s m args below meth c H locs cells slots Q (F0 m pc ls st) := by
  obtain ⟨hx, hb, hml, hown, hts, hk, -⟩ := id K
  refine ah_go hL ?_ kk
  have hp := ah_pre K hG (.ref a :: As)
  have hG9 : GoodIn ah_tb (va_wsO own index C owner x y (ah_w y c9 n9 r9)) := ah_good (fun w hw => by
    rcases List.mem_append.mp hw with h | h
    · simp only [List.mem_cons, List.not_mem_nil, or_false] at h
      rcases h with rfl | rfl | rfl | rfl | rfl | rfl
      · exact w1
      · exact w5
      · exact w7
      · exact w6
      · exact w2
      · exact w3
    · exact (ah_goodc w4 w h).1)
  exact va_runU ⟨hx, hb, hml, hown, hts⟩ hM (va_cwO n hts hG9 rfl rfl rfl w8 hd hR) ⟨hp.1, ah_recv K hG hO hc, hp.2⟩ rfl hn hls hst (lv_room hW) hdg hf
end AH
end
section
/-! fields, receivers, and small rows for the walks (printed by gen/drive.py) -/
theorem inX0 : ∀ w ∈ u_ws RX0 TX0 2, w ∈ ah_tb := by
  intro w hw
  obtain ⟨k, hk, rfl⟩ := List.mem_map.mp hw
  have hk := List.mem_range.mp hk
  rcases (show k = 0 ∨ k = 1 by omega) with rfl | rfl
  · exact q_305
  · exact q_306
theorem inX1 : ∀ w ∈ u_ws RX1 TX1 2, w ∈ ah_tb := by
  intro w hw
  obtain ⟨k, hk, rfl⟩ := List.mem_map.mp hw
  have hk := List.mem_range.mp hk
  rcases (show k = 0 ∨ k = 1 by omega) with rfl | rfl
  · exact q_103
  · exact q_105
theorem inX2 : ∀ w ∈ u_ws RX2 TX2 10, w ∈ ah_tb := by
  intro w hw
  obtain ⟨k, hk, rfl⟩ := List.mem_map.mp hw
  have hk := List.mem_range.mp hk
  rcases (show k = 0 ∨ k = 1 ∨ k = 2 ∨ k = 3 ∨ k = 4 ∨ k = 5 ∨ k = 6 ∨ k = 7 ∨ k = 8 ∨ k = 9 by omega) with rfl | rfl | rfl | rfl | rfl | rfl | rfl | rfl | rfl | rfl
  · exact q_132
  · exact q_134
  · exact q_136
  · exact q_138
  · exact q_140
  · exact q_142
  · exact q_144
  · exact q_146
  · exact q_148
  · exact q_150
theorem inX3 : ∀ w ∈ u_ws RX3 TX3 2, w ∈ ah_tb := by
  intro w hw
  obtain ⟨k, hk, rfl⟩ := List.mem_map.mp hw
  have hk := List.mem_range.mp hk
  rcases (show k = 0 ∨ k = 1 by omega) with rfl | rfl
  · exact q_323
  · exact q_324
theorem inX4 : ∀ w ∈ u_ws RX4 TX4 2, w ∈ ah_tb := by
  intro w hw
  obtain ⟨k, hk, rfl⟩ := List.mem_map.mp hw
  have hk := List.mem_range.mp hk
  rcases (show k = 0 ∨ k = 1 by omega) with rfl | rfl
  · exact q_269
  · exact q_270
theorem inX5 : ∀ w ∈ u_ws RX5 TX5 2, w ∈ ah_tb := by
  intro w hw
  obtain ⟨k, hk, rfl⟩ := List.mem_map.mp hw
  have hk := List.mem_range.mp hk
  rcases (show k = 0 ∨ k = 1 by omega) with rfl | rfl
  · exact q_278
  · exact q_279
theorem inX6 : ∀ w ∈ u_ws RX6 TX6 2, w ∈ ah_tb := by
  intro w hw
  obtain ⟨k, hk, rfl⟩ := List.mem_map.mp hw
  have hk := List.mem_range.mp hk
  rcases (show k = 0 ∨ k = 1 by omega) with rfl | rfl
  · exact q_287
  · exact q_288
theorem inX7 : ∀ w ∈ u_ws RX7 TX7 4, w ∈ ah_tb := by
  intro w hw
  obtain ⟨k, hk, rfl⟩ := List.mem_map.mp hw
  have hk := List.mem_range.mp hk
  rcases (show k = 0 ∨ k = 1 ∨ k = 2 ∨ k = 3 by omega) with rfl | rfl | rfl | rfl
  · exact q_169
  · exact q_171
  · exact q_173
  · exact q_175
theorem inX8 : ∀ w ∈ u_ws RX8 TX8 2, w ∈ ah_tb := by
  intro w hw
  obtain ⟨k, hk, rfl⟩ := List.mem_map.mp hw
  have hk := List.mem_range.mp hk
  rcases (show k = 0 ∨ k = 1 by omega) with rfl | rfl
  · exact q_314
  · exact q_315
theorem inX9 : ∀ w ∈ u_ws RX9 TX9 2, w ∈ ah_tb := by
  intro w hw
  obtain ⟨k, hk, rfl⟩ := List.mem_map.mp hw
  have hk := List.mem_range.mp hk
  rcases (show k = 0 ∨ k = 1 by omega) with rfl | rfl
  · exact q_296
  · exact q_297
theorem inX10 : ∀ w ∈ u_ws RX10 TX10 8, w ∈ ah_tb := by
  intro w hw
  obtain ⟨k, hk, rfl⟩ := List.mem_map.mp hw
  have hk := List.mem_range.mp hk
  rcases (show k = 0 ∨ k = 1 ∨ k = 2 ∨ k = 3 ∨ k = 4 ∨ k = 5 ∨ k = 6 ∨ k = 7 by omega) with rfl | rfl | rfl | rfl | rfl | rfl | rfl | rfl
  · exact q_188
  · exact q_190
  · exact q_192
  · exact q_194
  · exact q_196
  · exact q_198
  · exact q_200
  · exact q_202
theorem inX11 : ∀ w ∈ u_ws RX11 TX11 24, w ∈ ah_tb := by
  intro w hw
  obtain ⟨k, hk, rfl⟩ := List.mem_map.mp hw
  have hk := List.mem_range.mp hk
  rcases (show k = 0 ∨ k = 1 ∨ k = 2 ∨ k = 3 ∨ k = 4 ∨ k = 5 ∨ k = 6 ∨ k = 7 ∨ k = 8 ∨ k = 9 ∨ k = 10 ∨ k = 11 ∨ k = 12 ∨ k = 13 ∨ k = 14 ∨ k = 15 ∨ k = 16 ∨ k = 17 ∨ k = 18 ∨ k = 19 ∨ k = 20 ∨ k = 21 ∨ k = 22 ∨ k = 23 by omega) with rfl | rfl | rfl | rfl | rfl | rfl | rfl | rfl | rfl | rfl | rfl | rfl | rfl | rfl | rfl | rfl | rfl | rfl | rfl | rfl | rfl | rfl | rfl | rfl
  · exact q_909
  · exact q_911
  · exact q_913
  · exact q_915
  · exact q_917
  · exact q_919
  · exact q_921
  · exact q_923
  · exact q_925
  · exact q_927
  · exact q_929
  · exact q_931
  · exact q_933
  · exact q_935
  · exact q_937
  · exact q_939
  · exact q_941
  · exact q_943
  · exact q_945
  · exact q_947
  · exact q_949
  · exact q_951
  · exact q_953
  · exact q_955
theorem ah_caps {c : Nat} (h : ah_cap c = true) : c = 0 ∨ c = 1 ∨ c = 3 ∨ c = 4 ∨ c = 5 ∨ c = 6 ∨ c = 8 ∨ c = 9 := by
  unfold ah_cap at h
  simp only [Bool.or_eq_true, beq_iff_eq] at h
  omega
theorem ah_this {β : Type} {M : ah_h} {a ci : Nat} {f : List Value → Option β} {r : β} (h : (ah_ob M a ci).bind f = some r) : ∃ fs, M a = some (ah_O ci fs) := by
  obtain ⟨fs, h1, -⟩ := Option.bind_eq_some_iff.mp h
  exact ⟨fs, ah_ob_some h1⟩
/-- more rounds than any loop of the class or the reference takes -/
def ah_fu : Nat := 300
section AHY
variable {p : Program} {s : State} {m : MethodId} {args : Array Value} {meth : Method} {c : Code} {H : Heap} {cc : ByteArray} {D : va_G} {ca : Nat → ClassId} {a : Nat} {H0 : Heap} {own : String} {nL : Nat} {ret : Option FieldType} {M : ah_h} {z : Nat}
theorem ah_any (K : ah_K p s m args meth c D ca own cc nL ret) (hG : ah_g H0 D ca M z H) {ci : Nat} {fs : List Value} {C E : String} {T : u_T} {N : Nat} (hM : M a = some (ah_O ci fs)) (hc : vwCl[ci]? = some (C, T, N)) (hasg : ∀ comp c0 : ClassId, s.vm.findClass E = some comp → s.vm.findClass C = some c0 → s.vm.assignable c0 comp = true) : va_Any E s H a :=
  va_rAny (q0 := 0) K.2.2.2.2.2.1.1 (hG.one hM) rfl hc hasg
theorem ah_cast {E C : String} (h : va_Nw (.castable C E) s) : ∀ comp c0 : ClassId, s.vm.findClass E = some comp → s.vm.findClass C = some c0 → s.vm.assignable c0 comp = true := by
  intro comp c0 h1 h2
  obtain ⟨c1, t1, g1, g2, g3⟩ := Cond.castable_spec h
  cases h2.symm.trans g1
  cases h1.symm.trans g2
  exact g3
theorem ah_anyC (K : ah_K p s m args meth c D ca own cc nL ret) (hG : ah_g H0 D ca M z H) {x : Nat × List Value} (h : ah_oc M a = some x) : va_Any "ShipsThatMeet$Captain" s H a := by
  obtain ⟨h1, h2⟩ := ah_oc_some h
  obtain ⟨ci, fs⟩ := x
  have hk := K.2.2.2.2.2.1
  rcases ah_caps h2 with h | h | h | h | h | h | h | h <;> (dsimp only at h; subst h)
  · exact ah_any K hG h1 rfl (ah_cast (hk.2.2 _ (by simp [ah_nC])))
  · exact ah_any K hG h1 rfl (fun comp c0 e1 e2 => by
      cases e1.symm.trans e2
      have h3 := (hk.1.1 1 _ rfl).2
      cases h3.1.symm.trans e1
      exact va_assign h3)
  · exact ah_any K hG h1 rfl (ah_cast (hk.2.2 _ (by simp [ah_nC])))
  · exact ah_any K hG h1 rfl (ah_cast (hk.2.2 _ (by simp [ah_nC])))
  · exact ah_any K hG h1 rfl (ah_cast (hk.2.2 _ (by simp [ah_nC])))
  · exact ah_any K hG h1 rfl (ah_cast (hk.2.2 _ (by simp [ah_nC])))
  · exact ah_any K hG h1 rfl (ah_cast (hk.2.2 _ (by simp [ah_nC])))
  · exact ah_any K hG h1 rfl (ah_cast (hk.2.2 _ (by simp [ah_nC])))
theorem ah_anyS (K : ah_K p s m args meth c D ca own cc nL ret) (hG : ah_g H0 D ca M z H) {fs : List Value} (h : ah_ob M a 7 = some fs) : va_Any "ShipsThatMeet$Shelf" s H a :=
  ah_any K hG (ah_ob_some h) rfl (fun comp c0 e1 e2 => by
      cases e1.symm.trans e2
      have h3 := (K.2.2.2.2.2.1.1.1 7 _ rfl).2
      cases h3.1.symm.trans e1
      exact va_assign h3)
end AHY
end
section
theorem dX7_hasPlace_0 : decode cX7_hasPlace 0 = .ok (.iload_n 1, 1) := by decide +kernel
theorem dX7_hasPlace_1 : decode cX7_hasPlace 1 = .ok (.ifCond .lt 15, 3) := by decide +kernel
theorem dX7_hasPlace_4 : decode cX7_hasPlace 4 = .ok (.iload_n 1, 1) := by decide +kernel
theorem dX7_hasPlace_5 : decode cX7_hasPlace 5 = .ok (.aload_n 0, 1) := by decide +kernel
theorem dX7_hasPlace_6 : decode cX7_hasPlace 6 = .ok (.getfield 19, 3) := by decide +kernel
theorem dX7_hasPlace_9 : decode cX7_hasPlace 9 = .ok (.if_icmp .ge 7, 3) := by decide +kernel
theorem dX7_hasPlace_12 : decode cX7_hasPlace 12 = .ok (.iconst 1, 1) := by decide +kernel
theorem dX7_hasPlace_13 : decode cX7_hasPlace 13 = .ok (.goto 4, 3) := by decide +kernel
theorem dX7_hasPlace_16 : decode cX7_hasPlace 16 = .ok (.iconst 0, 1) := by decide +kernel
theorem dX7_hasPlace_17 : decode cX7_hasPlace 17 = .ok (.ireturn, 1) := by decide +kernel
theorem dX7_at_0 : decode cX7_at 0 = .ok (.aload_n 0, 1) := by decide +kernel
theorem dX7_at_1 : decode cX7_at 1 = .ok (.iload_n 1, 1) := by decide +kernel
theorem dX7_at_2 : decode cX7_at 2 = .ok (.invokevirtual 29, 3) := by decide +kernel
theorem dX7_at_5 : decode cX7_at 5 = .ok (.ifCond .eq 12, 3) := by decide +kernel
theorem dX7_at_8 : decode cX7_at 8 = .ok (.aload_n 0, 1) := by decide +kernel
theorem dX7_at_9 : decode cX7_at 9 = .ok (.getfield 22, 3) := by decide +kernel
theorem dX7_at_12 : decode cX7_at 12 = .ok (.iload_n 1, 1) := by decide +kernel
theorem dX7_at_13 : decode cX7_at 13 = .ok (.iaload, 1) := by decide +kernel
theorem dX7_at_14 : decode cX7_at 14 = .ok (.goto 4, 3) := by decide +kernel
theorem dX7_at_17 : decode cX7_at 17 = .ok (.iconst 0, 1) := by decide +kernel
theorem dX7_at_18 : decode cX7_at 18 = .ok (.ireturn, 1) := by decide +kernel
theorem dX11_isIn_0 : decode cX11_isIn 0 = .ok (.lload_n 0, 1) := by decide +kernel
theorem dX11_isIn_1 : decode cX11_isIn 1 = .ok (.lload_n 2, 1) := by decide +kernel
theorem dX11_isIn_2 : decode cX11_isIn 2 = .ok (.lcmp, 1) := by decide +kernel
theorem dX11_isIn_3 : decode cX11_isIn 3 = .ok (.ifCond .lt 14, 3) := by decide +kernel
theorem dX11_isIn_6 : decode cX11_isIn 6 = .ok (.lload_n 0, 1) := by decide +kernel
theorem dX11_isIn_7 : decode cX11_isIn 7 = .ok (.lload 4, 2) := by decide +kernel
theorem dX11_isIn_9 : decode cX11_isIn 9 = .ok (.lcmp, 1) := by decide +kernel
theorem dX11_isIn_10 : decode cX11_isIn 10 = .ok (.ifCond .gt 7, 3) := by decide +kernel
theorem dX11_isIn_13 : decode cX11_isIn 13 = .ok (.iconst 1, 1) := by decide +kernel
theorem dX11_isIn_14 : decode cX11_isIn 14 = .ok (.goto 4, 3) := by decide +kernel
theorem dX11_isIn_17 : decode cX11_isIn 17 = .ok (.iconst 0, 1) := by decide +kernel
theorem dX11_isIn_18 : decode cX11_isIn 18 = .ok (.ireturn, 1) := by decide +kernel
theorem dX11_isShelf_0 : decode cX11_isShelf 0 = .ok (.iload_n 0, 1) := by decide +kernel
theorem dX11_isShelf_1 : decode cX11_isShelf 1 = .ok (.i2l, 1) := by decide +kernel
theorem dX11_isShelf_2 : decode cX11_isShelf 2 = .ok (.lconst 0, 1) := by decide +kernel
theorem dX11_isShelf_3 : decode cX11_isShelf 3 = .ok (.ldc2_w 57, 3) := by decide +kernel
theorem dX11_isShelf_6 : decode cX11_isShelf 6 = .ok (.invokestatic 59, 3) := by decide +kernel
theorem dX11_isShelf_9 : decode cX11_isShelf 9 = .ok (.ireturn, 1) := by decide +kernel
theorem dX11_isShip_0 : decode cX11_isShip 0 = .ok (.iload_n 1, 1) := by decide +kernel
theorem dX11_isShip_1 : decode cX11_isShip 1 = .ok (.i2l, 1) := by decide +kernel
theorem dX11_isShip_2 : decode cX11_isShip 2 = .ok (.lconst 0, 1) := by decide +kernel
theorem dX11_isShip_3 : decode cX11_isShip 3 = .ok (.aload_n 0, 1) := by decide +kernel
theorem dX11_isShip_4 : decode cX11_isShip 4 = .ok (.getfield 9, 3) := by decide +kernel
theorem dX11_isShip_7 : decode cX11_isShip 7 = .ok (.iconst 0, 1) := by decide +kernel
theorem dX11_isShip_8 : decode cX11_isShip 8 = .ok (.iaload, 1) := by decide +kernel
theorem dX11_isShip_9 : decode cX11_isShip 9 = .ok (.iconst 1, 1) := by decide +kernel
theorem dX11_isShip_10 : decode cX11_isShip 10 = .ok (.isub, 1) := by decide +kernel
theorem dX11_isShip_11 : decode cX11_isShip 11 = .ok (.i2l, 1) := by decide +kernel
theorem dX11_isShip_12 : decode cX11_isShip 12 = .ok (.invokestatic 59, 3) := by decide +kernel
theorem dX11_isShip_15 : decode cX11_isShip 15 = .ok (.ireturn, 1) := by decide +kernel
theorem dX11_get_0 : decode cX11_get 0 = .ok (.aload_n 0, 1) := by decide +kernel
theorem dX11_get_1 : decode cX11_get 1 = .ok (.getfield 9, 3) := by decide +kernel
theorem dX11_get_4 : decode cX11_get 4 = .ok (.bipush 13, 2) := by decide +kernel
theorem dX11_get_6 : decode cX11_get 6 = .ok (.iconst 5, 1) := by decide +kernel
theorem dX11_get_7 : decode cX11_get 7 = .ok (.iload_n 1, 1) := by decide +kernel
theorem dX11_get_8 : decode cX11_get 8 = .ok (.imul, 1) := by decide +kernel
theorem dX11_get_9 : decode cX11_get 9 = .ok (.iadd, 1) := by decide +kernel
theorem dX11_get_10 : decode cX11_get 10 = .ok (.iload_n 2, 1) := by decide +kernel
theorem dX11_get_11 : decode cX11_get 11 = .ok (.iadd, 1) := by decide +kernel
theorem dX11_get_12 : decode cX11_get 12 = .ok (.iaload, 1) := by decide +kernel
theorem dX11_get_13 : decode cX11_get 13 = .ok (.ireturn, 1) := by decide +kernel
theorem dX11_puts_0 : decode cX11_puts 0 = .ok (.aload_n 0, 1) := by decide +kernel
theorem dX11_puts_1 : decode cX11_puts 1 = .ok (.getfield 9, 3) := by decide +kernel
theorem dX11_puts_4 : decode cX11_puts 4 = .ok (.bipush 13, 2) := by decide +kernel
theorem dX11_puts_6 : decode cX11_puts 6 = .ok (.iconst 5, 1) := by decide +kernel
theorem dX11_puts_7 : decode cX11_puts 7 = .ok (.iload_n 1, 1) := by decide +kernel
theorem dX11_puts_8 : decode cX11_puts 8 = .ok (.imul, 1) := by decide +kernel
theorem dX11_puts_9 : decode cX11_puts 9 = .ok (.iadd, 1) := by decide +kernel
theorem dX11_puts_10 : decode cX11_puts 10 = .ok (.iload_n 2, 1) := by decide +kernel
theorem dX11_puts_11 : decode cX11_puts 11 = .ok (.iadd, 1) := by decide +kernel
theorem dX11_puts_12 : decode cX11_puts 12 = .ok (.iload_n 3, 1) := by decide +kernel
theorem dX11_puts_13 : decode cX11_puts 13 = .ok (.iastore, 1) := by decide +kernel
theorem dX11_puts_14 : decode cX11_puts 14 = .ok (.return_, 1) := by decide +kernel
theorem dX11_copies_0 : decode cX11_copies 0 = .ok (.iconst 0, 1) := by decide +kernel
theorem dX11_copies_1 : decode cX11_copies 1 = .ok (.istore_n 2, 1) := by decide +kernel
theorem dX11_copies_2 : decode cX11_copies 2 = .ok (.iload_n 2, 1) := by decide +kernel
theorem dX11_copies_3 : decode cX11_copies 3 = .ok (.bipush 73, 2) := by decide +kernel
theorem dX11_copies_5 : decode cX11_copies 5 = .ok (.if_icmp .ge 15, 3) := by decide +kernel
theorem dX11_copies_8 : decode cX11_copies 8 = .ok (.aload_n 1, 1) := by decide +kernel
theorem dX11_copies_9 : decode cX11_copies 9 = .ok (.iload_n 2, 1) := by decide +kernel
theorem dX11_copies_10 : decode cX11_copies 10 = .ok (.aload_n 0, 1) := by decide +kernel
theorem dX11_copies_11 : decode cX11_copies 11 = .ok (.iload_n 2, 1) := by decide +kernel
theorem dX11_copies_12 : decode cX11_copies 12 = .ok (.iaload, 1) := by decide +kernel
theorem dX11_copies_13 : decode cX11_copies 13 = .ok (.iastore, 1) := by decide +kernel
theorem dX11_copies_14 : decode cX11_copies 14 = .ok (.iinc 2 1, 3) := by decide +kernel
theorem dX11_copies_17 : decode cX11_copies 17 = .ok (.goto (-15), 3) := by decide +kernel
theorem dX11_copies_20 : decode cX11_copies 20 = .ok (.return_, 1) := by decide +kernel
theorem dX11_aboard_0 : decode cX11_aboard 0 = .ok (.iconst 0, 1) := by decide +kernel
theorem dX11_aboard_1 : decode cX11_aboard 1 = .ok (.istore_n 2, 1) := by decide +kernel
theorem dX11_aboard_2 : decode cX11_aboard 2 = .ok (.iconst 0, 1) := by decide +kernel
theorem dX11_aboard_3 : decode cX11_aboard 3 = .ok (.istore_n 3, 1) := by decide +kernel
theorem dX11_aboard_4 : decode cX11_aboard 4 = .ok (.iload_n 3, 1) := by decide +kernel
theorem dX11_aboard_5 : decode cX11_aboard 5 = .ok (.aload_n 0, 1) := by decide +kernel
theorem dX11_aboard_6 : decode cX11_aboard 6 = .ok (.getfield 9, 3) := by decide +kernel
theorem dX11_aboard_9 : decode cX11_aboard 9 = .ok (.iconst 1, 1) := by decide +kernel
theorem dX11_aboard_10 : decode cX11_aboard 10 = .ok (.iaload, 1) := by decide +kernel
theorem dX11_aboard_11 : decode cX11_aboard 11 = .ok (.if_icmp .ge 25, 3) := by decide +kernel
theorem dX11_aboard_14 : decode cX11_aboard 14 = .ok (.aload_n 0, 1) := by decide +kernel
theorem dX11_aboard_15 : decode cX11_aboard 15 = .ok (.iload_n 3, 1) := by decide +kernel
theorem dX11_aboard_16 : decode cX11_aboard 16 = .ok (.iconst 0, 1) := by decide +kernel
theorem dX11_aboard_17 : decode cX11_aboard 17 = .ok (.invokevirtual 67, 3) := by decide +kernel
theorem dX11_aboard_20 : decode cX11_aboard 20 = .ok (.iload_n 1, 1) := by decide +kernel
theorem dX11_aboard_21 : decode cX11_aboard 21 = .ok (.if_icmp .ne 9, 3) := by decide +kernel
theorem dX11_aboard_24 : decode cX11_aboard 24 = .ok (.iload_n 2, 1) := by decide +kernel
theorem dX11_aboard_25 : decode cX11_aboard 25 = .ok (.iconst 1, 1) := by decide +kernel
theorem dX11_aboard_26 : decode cX11_aboard 26 = .ok (.iload_n 3, 1) := by decide +kernel
theorem dX11_aboard_27 : decode cX11_aboard 27 = .ok (.ishl, 1) := by decide +kernel
theorem dX11_aboard_28 : decode cX11_aboard 28 = .ok (.ior, 1) := by decide +kernel
theorem dX11_aboard_29 : decode cX11_aboard 29 = .ok (.istore_n 2, 1) := by decide +kernel
theorem dX11_aboard_30 : decode cX11_aboard 30 = .ok (.iinc 3 1, 3) := by decide +kernel
theorem dX11_aboard_33 : decode cX11_aboard 33 = .ok (.goto (-29), 3) := by decide +kernel
theorem dX11_aboard_36 : decode cX11_aboard 36 = .ok (.iload_n 2, 1) := by decide +kernel
theorem dX11_aboard_37 : decode cX11_aboard 37 = .ok (.ireturn, 1) := by decide +kernel
theorem dX11_bits_0 : decode cX11_bits 0 = .ok (.iconst 0, 1) := by decide +kernel
theorem dX11_bits_1 : decode cX11_bits 1 = .ok (.istore_n 1, 1) := by decide +kernel
theorem dX11_bits_2 : decode cX11_bits 2 = .ok (.iload_n 0, 1) := by decide +kernel
theorem dX11_bits_3 : decode cX11_bits 3 = .ok (.istore_n 2, 1) := by decide +kernel
theorem dX11_bits_4 : decode cX11_bits 4 = .ok (.iload_n 2, 1) := by decide +kernel
theorem dX11_bits_5 : decode cX11_bits 5 = .ok (.ifCond .le 16, 3) := by decide +kernel
theorem dX11_bits_8 : decode cX11_bits 8 = .ok (.iload_n 1, 1) := by decide +kernel
theorem dX11_bits_9 : decode cX11_bits 9 = .ok (.iload_n 2, 1) := by decide +kernel
theorem dX11_bits_10 : decode cX11_bits 10 = .ok (.iconst 1, 1) := by decide +kernel
theorem dX11_bits_11 : decode cX11_bits 11 = .ok (.iand, 1) := by decide +kernel
theorem dX11_bits_12 : decode cX11_bits 12 = .ok (.iadd, 1) := by decide +kernel
theorem dX11_bits_13 : decode cX11_bits 13 = .ok (.istore_n 1, 1) := by decide +kernel
theorem dX11_bits_14 : decode cX11_bits 14 = .ok (.iload_n 2, 1) := by decide +kernel
theorem dX11_bits_15 : decode cX11_bits 15 = .ok (.iconst 1, 1) := by decide +kernel
theorem dX11_bits_16 : decode cX11_bits 16 = .ok (.ishr, 1) := by decide +kernel
theorem dX11_bits_17 : decode cX11_bits 17 = .ok (.istore_n 2, 1) := by decide +kernel
theorem dX11_bits_18 : decode cX11_bits 18 = .ok (.goto (-14), 3) := by decide +kernel
theorem dX11_bits_21 : decode cX11_bits 21 = .ok (.iload_n 1, 1) := by decide +kernel
theorem dX11_bits_22 : decode cX11_bits 22 = .ok (.ireturn, 1) := by decide +kernel
theorem dX11_sails_0 : decode cX11_sails 0 = .ok (.aload_n 0, 1) := by decide +kernel
theorem dX11_sails_1 : decode cX11_sails 1 = .ok (.iload_n 1, 1) := by decide +kernel
theorem dX11_sails_2 : decode cX11_sails 2 = .ok (.invokevirtual 74, 3) := by decide +kernel
theorem dX11_sails_5 : decode cX11_sails 5 = .ok (.istore_n 2, 1) := by decide +kernel
theorem dX11_sails_6 : decode cX11_sails 6 = .ok (.iconst 0, 1) := by decide +kernel
theorem dX11_sails_7 : decode cX11_sails 7 = .ok (.istore_n 3, 1) := by decide +kernel
theorem dX11_sails_8 : decode cX11_sails 8 = .ok (.iload_n 3, 1) := by decide +kernel
theorem dX11_sails_9 : decode cX11_sails 9 = .ok (.aload_n 0, 1) := by decide +kernel
theorem dX11_sails_10 : decode cX11_sails 10 = .ok (.getfield 9, 3) := by decide +kernel
theorem dX11_sails_13 : decode cX11_sails 13 = .ok (.iconst 1, 1) := by decide +kernel
theorem dX11_sails_14 : decode cX11_sails 14 = .ok (.iaload, 1) := by decide +kernel
theorem dX11_sails_15 : decode cX11_sails 15 = .ok (.if_icmp .ge 38, 3) := by decide +kernel
theorem dX11_sails_18 : decode cX11_sails 18 = .ok (.iload_n 2, 1) := by decide +kernel
theorem dX11_sails_19 : decode cX11_sails 19 = .ok (.iload_n 3, 1) := by decide +kernel
theorem dX11_sails_20 : decode cX11_sails 20 = .ok (.ishr, 1) := by decide +kernel
theorem dX11_sails_21 : decode cX11_sails 21 = .ok (.iconst 1, 1) := by decide +kernel
theorem dX11_sails_22 : decode cX11_sails 22 = .ok (.iand, 1) := by decide +kernel
theorem dX11_sails_23 : decode cX11_sails 23 = .ok (.iconst 1, 1) := by decide +kernel
theorem dX11_sails_24 : decode cX11_sails 24 = .ok (.if_icmp .ne 23, 3) := by decide +kernel
theorem dX11_sails_27 : decode cX11_sails 27 = .ok (.aload_n 0, 1) := by decide +kernel
theorem dX11_sails_28 : decode cX11_sails 28 = .ok (.iload_n 3, 1) := by decide +kernel
theorem dX11_sails_29 : decode cX11_sails 29 = .ok (.iconst 4, 1) := by decide +kernel
theorem dX11_sails_30 : decode cX11_sails 30 = .ok (.aload_n 0, 1) := by decide +kernel
theorem dX11_sails_31 : decode cX11_sails 31 = .ok (.iload_n 3, 1) := by decide +kernel
theorem dX11_sails_32 : decode cX11_sails 32 = .ok (.iconst 4, 1) := by decide +kernel
theorem dX11_sails_33 : decode cX11_sails 33 = .ok (.invokevirtual 67, 3) := by decide +kernel
theorem dX11_sails_36 : decode cX11_sails 36 = .ok (.iload_n 2, 1) := by decide +kernel
theorem dX11_sails_37 : decode cX11_sails 37 = .ok (.iconst 1, 1) := by decide +kernel
theorem dX11_sails_38 : decode cX11_sails 38 = .ok (.iload_n 3, 1) := by decide +kernel
theorem dX11_sails_39 : decode cX11_sails 39 = .ok (.ishl, 1) := by decide +kernel
theorem dX11_sails_40 : decode cX11_sails 40 = .ok (.iconst (-1), 1) := by decide +kernel
theorem dX11_sails_41 : decode cX11_sails 41 = .ok (.ixor, 1) := by decide +kernel
theorem dX11_sails_42 : decode cX11_sails 42 = .ok (.iand, 1) := by decide +kernel
theorem dX11_sails_43 : decode cX11_sails 43 = .ok (.ior, 1) := by decide +kernel
theorem dX11_sails_44 : decode cX11_sails 44 = .ok (.invokevirtual 100, 3) := by decide +kernel
theorem dX11_sails_47 : decode cX11_sails 47 = .ok (.iinc 3 1, 3) := by decide +kernel
theorem dX11_sails_50 : decode cX11_sails 50 = .ok (.goto (-42), 3) := by decide +kernel
theorem dX11_sails_53 : decode cX11_sails 53 = .ok (.return_, 1) := by decide +kernel
theorem dX11_never_0 : decode cX11_never 0 = .ok (.iconst 0, 1) := by decide +kernel
theorem dX11_never_1 : decode cX11_never 1 = .ok (.istore_n 1, 1) := by decide +kernel
theorem dX11_never_2 : decode cX11_never 2 = .ok (.iconst 0, 1) := by decide +kernel
theorem dX11_never_3 : decode cX11_never 3 = .ok (.istore_n 2, 1) := by decide +kernel
theorem dX11_never_4 : decode cX11_never 4 = .ok (.iload_n 2, 1) := by decide +kernel
theorem dX11_never_5 : decode cX11_never 5 = .ok (.aload_n 0, 1) := by decide +kernel
theorem dX11_never_6 : decode cX11_never 6 = .ok (.getfield 9, 3) := by decide +kernel
theorem dX11_never_9 : decode cX11_never 9 = .ok (.iconst 1, 1) := by decide +kernel
theorem dX11_never_10 : decode cX11_never 10 = .ok (.iaload, 1) := by decide +kernel
theorem dX11_never_11 : decode cX11_never 11 = .ok (.if_icmp .ge 44, 3) := by decide +kernel
theorem dX11_never_14 : decode cX11_never 14 = .ok (.iload_n 2, 1) := by decide +kernel
theorem dX11_never_15 : decode cX11_never 15 = .ok (.iconst 1, 1) := by decide +kernel
theorem dX11_never_16 : decode cX11_never 16 = .ok (.iadd, 1) := by decide +kernel
theorem dX11_never_17 : decode cX11_never 17 = .ok (.istore_n 3, 1) := by decide +kernel
theorem dX11_never_18 : decode cX11_never 18 = .ok (.iload_n 3, 1) := by decide +kernel
theorem dX11_never_19 : decode cX11_never 19 = .ok (.aload_n 0, 1) := by decide +kernel
theorem dX11_never_20 : decode cX11_never 20 = .ok (.getfield 9, 3) := by decide +kernel
theorem dX11_never_23 : decode cX11_never 23 = .ok (.iconst 1, 1) := by decide +kernel
theorem dX11_never_24 : decode cX11_never 24 = .ok (.iaload, 1) := by decide +kernel
theorem dX11_never_25 : decode cX11_never 25 = .ok (.if_icmp .ge 24, 3) := by decide +kernel
theorem dX11_never_28 : decode cX11_never 28 = .ok (.iload_n 1, 1) := by decide +kernel
theorem dX11_never_29 : decode cX11_never 29 = .ok (.iconst 1, 1) := by decide +kernel
theorem dX11_never_30 : decode cX11_never 30 = .ok (.aload_n 0, 1) := by decide +kernel
theorem dX11_never_31 : decode cX11_never 31 = .ok (.iload_n 2, 1) := by decide +kernel
theorem dX11_never_32 : decode cX11_never 32 = .ok (.iconst 4, 1) := by decide +kernel
theorem dX11_never_33 : decode cX11_never 33 = .ok (.invokevirtual 67, 3) := by decide +kernel
theorem dX11_never_36 : decode cX11_never 36 = .ok (.iload_n 3, 1) := by decide +kernel
theorem dX11_never_37 : decode cX11_never 37 = .ok (.ishr, 1) := by decide +kernel
theorem dX11_never_38 : decode cX11_never 38 = .ok (.iconst 1, 1) := by decide +kernel
theorem dX11_never_39 : decode cX11_never 39 = .ok (.iand, 1) := by decide +kernel
theorem dX11_never_40 : decode cX11_never 40 = .ok (.isub, 1) := by decide +kernel
theorem dX11_never_41 : decode cX11_never 41 = .ok (.iadd, 1) := by decide +kernel
theorem dX11_never_42 : decode cX11_never 42 = .ok (.istore_n 1, 1) := by decide +kernel
theorem dX11_never_43 : decode cX11_never 43 = .ok (.iinc 3 1, 3) := by decide +kernel
theorem dX11_never_46 : decode cX11_never 46 = .ok (.goto (-28), 3) := by decide +kernel
theorem dX11_never_49 : decode cX11_never 49 = .ok (.iinc 2 1, 3) := by decide +kernel
theorem dX11_never_52 : decode cX11_never 52 = .ok (.goto (-48), 3) := by decide +kernel
theorem dX11_never_55 : decode cX11_never 55 = .ok (.iload_n 1, 1) := by decide +kernel
theorem dX11_never_56 : decode cX11_never 56 = .ok (.ireturn, 1) := by decide +kernel
theorem ffX2_39_2 : ah_F "ShipsThatMeet$Fleet" 39 2 0 := ⟨_, _, _, "ShipsThatMeet$Fleet", rfl, by decide, inX2, q_108, Or.inl rfl⟩
theorem fwX2_39_2 : ah_W "ShipsThatMeet$Fleet" 39 2 0 .int false := ⟨_, _, _, tyX2, rfl, by decide, inX2, q_108, tyX2_ok, nmX2, rfl, fun h => by cases h, by decide +kernel⟩
theorem ffX2_43_2 : ah_F "ShipsThatMeet$Fleet" 43 2 1 := ⟨_, _, _, "ShipsThatMeet$Fleet", rfl, by decide, inX2, q_110, Or.inl rfl⟩
theorem fwX2_43_2 : ah_W "ShipsThatMeet$Fleet" 43 2 1 .int false := ⟨_, _, _, tyX2, rfl, by decide, inX2, q_110, tyX2_ok, nmX2, rfl, fun h => by cases h, by decide +kernel⟩
theorem ffX2_46_2 : ah_F "ShipsThatMeet$Fleet" 46 2 2 := ⟨_, _, _, "ShipsThatMeet$Fleet", rfl, by decide, inX2, q_112, Or.inl rfl⟩
theorem fwX2_46_2 : ah_W "ShipsThatMeet$Fleet" 46 2 2 .int false := ⟨_, _, _, tyX2, rfl, by decide, inX2, q_112, tyX2_ok, nmX2, rfl, fun h => by cases h, by decide +kernel⟩
theorem ffX2_24_2 : ah_F "ShipsThatMeet$Fleet" 24 2 5 := ⟨_, _, _, "ShipsThatMeet$Fleet", rfl, by decide, inX2, q_118, Or.inl rfl⟩
theorem ffX2_27_2 : ah_F "ShipsThatMeet$Fleet" 27 2 6 := ⟨_, _, _, "ShipsThatMeet$Fleet", rfl, by decide, inX2, q_120, Or.inl rfl⟩
theorem ffX2_30_2 : ah_F "ShipsThatMeet$Fleet" 30 2 7 := ⟨_, _, _, "ShipsThatMeet$Fleet", rfl, by decide, inX2, q_123, Or.inl rfl⟩
theorem ffX2_33_2 : ah_F "ShipsThatMeet$Fleet" 33 2 8 := ⟨_, _, _, "ShipsThatMeet$Fleet", rfl, by decide, inX2, q_126, Or.inl rfl⟩
theorem ffX2_36_2 : ah_F "ShipsThatMeet$Fleet" 36 2 9 := ⟨_, _, _, "ShipsThatMeet$Fleet", rfl, by decide, inX2, q_130, Or.inl rfl⟩
theorem ffX2_11_2 : ah_F "ShipsThatMeet$Fleet" 11 2 3 := ⟨_, _, _, "ShipsThatMeet$Fleet", rfl, by decide, inX2, q_114, Or.inl rfl⟩
theorem ffX2_20_2 : ah_F "ShipsThatMeet$Fleet" 20 2 4 := ⟨_, _, _, "ShipsThatMeet$Fleet", rfl, by decide, inX2, q_116, Or.inl rfl⟩
theorem fwX7_9_7 : ah_W "ShipsThatMeet$Shelf" 9 7 0 (.object "ShipsThatMeet$Captain") false := ⟨_, _, _, tyX7, rfl, by decide, inX7, q_161, tyX7_ok, nmX7, rfl, fun h => by cases h, by decide +kernel⟩
theorem fwX7_15_7 : ah_W "ShipsThatMeet$Shelf" 15 7 1 .int false := ⟨_, _, _, tyX7, rfl, by decide, inX7, q_163, tyX7_ok, nmX7, rfl, fun h => by cases h, by decide +kernel⟩
theorem fwX7_19_7 : ah_W "ShipsThatMeet$Shelf" 19 7 2 .int false := ⟨_, _, _, tyX7, rfl, by decide, inX7, q_165, tyX7_ok, nmX7, rfl, fun h => by cases h, by decide +kernel⟩
theorem ffX7_9_7 : ah_F "ShipsThatMeet$Shelf" 9 7 0 := ⟨_, _, _, "ShipsThatMeet$Shelf", rfl, by decide, inX7, q_161, Or.inl rfl⟩
theorem ffX7_15_7 : ah_F "ShipsThatMeet$Shelf" 15 7 1 := ⟨_, _, _, "ShipsThatMeet$Shelf", rfl, by decide, inX7, q_163, Or.inl rfl⟩
theorem ffX7_22_7 : ah_F "ShipsThatMeet$Shelf" 22 7 3 := ⟨_, _, _, "ShipsThatMeet$Shelf", rfl, by decide, inX7, q_167, Or.inl rfl⟩
theorem ffX7_19_7 : ah_F "ShipsThatMeet$Shelf" 19 7 2 := ⟨_, _, _, "ShipsThatMeet$Shelf", rfl, by decide, inX7, q_165, Or.inl rfl⟩
theorem ffX10_10_10 : ah_F "ShipsThatMeet" 10 10 0 := ⟨_, _, _, "ShipsThatMeet", rfl, by decide, inX10, q_180, Or.inl rfl⟩
theorem ffX10_76_2 : ah_F "ShipsThatMeet" 76 2 3 := ⟨_, _, _, "ShipsThatMeet$Fleet", rfl, by decide, inX2, q_115, Or.inl rfl⟩
theorem ffX10_80_0 : ah_F "ShipsThatMeet" 80 0 0 := ⟨_, _, _, "ShipsThatMeet$Captain", rfl, by decide, inX0, q_92, Or.inl rfl⟩
theorem ffX10_80_1 : ah_F "ShipsThatMeet" 80 1 0 := ⟨_, _, _, "ShipsThatMeet$Captain", rfl, by decide, inX1, q_92, Or.inl rfl⟩
theorem ffX10_80_3 : ah_F "ShipsThatMeet" 80 3 0 := ⟨_, _, _, "ShipsThatMeet$Captain", rfl, by decide, inX3, q_92, Or.inl rfl⟩
theorem ffX10_80_4 : ah_F "ShipsThatMeet" 80 4 0 := ⟨_, _, _, "ShipsThatMeet$Captain", rfl, by decide, inX4, q_92, Or.inl rfl⟩
theorem ffX10_80_5 : ah_F "ShipsThatMeet" 80 5 0 := ⟨_, _, _, "ShipsThatMeet$Captain", rfl, by decide, inX5, q_92, Or.inl rfl⟩
theorem ffX10_80_6 : ah_F "ShipsThatMeet" 80 6 0 := ⟨_, _, _, "ShipsThatMeet$Captain", rfl, by decide, inX6, q_92, Or.inl rfl⟩
theorem ffX10_80_8 : ah_F "ShipsThatMeet" 80 8 0 := ⟨_, _, _, "ShipsThatMeet$Captain", rfl, by decide, inX8, q_92, Or.inl rfl⟩
theorem ffX10_80_9 : ah_F "ShipsThatMeet" 80 9 0 := ⟨_, _, _, "ShipsThatMeet$Captain", rfl, by decide, inX9, q_92, Or.inl rfl⟩
theorem ffX10_80_c : ∀ ci, ah_cap ci = true → ah_F "ShipsThatMeet" 80 ci 0 := fun ci h => by
  rcases ah_caps h with rfl | rfl | rfl | rfl | rfl | rfl | rfl | rfl
  · exact ffX10_80_0
  · exact ffX10_80_1
  · exact ffX10_80_3
  · exact ffX10_80_4
  · exact ffX10_80_5
  · exact ffX10_80_6
  · exact ffX10_80_8
  · exact ffX10_80_9
theorem ffX10_85_0 : ah_F "ShipsThatMeet" 85 0 1 := ⟨_, _, _, "ShipsThatMeet$Captain", rfl, by decide, inX0, q_102, Or.inl rfl⟩
theorem ffX10_85_1 : ah_F "ShipsThatMeet" 85 1 1 := ⟨_, _, _, "ShipsThatMeet$Captain", rfl, by decide, inX1, q_102, Or.inl rfl⟩
theorem ffX10_85_3 : ah_F "ShipsThatMeet" 85 3 1 := ⟨_, _, _, "ShipsThatMeet$Captain", rfl, by decide, inX3, q_102, Or.inl rfl⟩
theorem ffX10_85_4 : ah_F "ShipsThatMeet" 85 4 1 := ⟨_, _, _, "ShipsThatMeet$Captain", rfl, by decide, inX4, q_102, Or.inl rfl⟩
theorem ffX10_85_5 : ah_F "ShipsThatMeet" 85 5 1 := ⟨_, _, _, "ShipsThatMeet$Captain", rfl, by decide, inX5, q_102, Or.inl rfl⟩
theorem ffX10_85_6 : ah_F "ShipsThatMeet" 85 6 1 := ⟨_, _, _, "ShipsThatMeet$Captain", rfl, by decide, inX6, q_102, Or.inl rfl⟩
theorem ffX10_85_8 : ah_F "ShipsThatMeet" 85 8 1 := ⟨_, _, _, "ShipsThatMeet$Captain", rfl, by decide, inX8, q_102, Or.inl rfl⟩
theorem ffX10_85_9 : ah_F "ShipsThatMeet" 85 9 1 := ⟨_, _, _, "ShipsThatMeet$Captain", rfl, by decide, inX9, q_102, Or.inl rfl⟩
theorem ffX10_85_c : ∀ ci, ah_cap ci = true → ah_F "ShipsThatMeet" 85 ci 1 := fun ci h => by
  rcases ah_caps h with rfl | rfl | rfl | rfl | rfl | rfl | rfl | rfl
  · exact ffX10_85_0
  · exact ffX10_85_1
  · exact ffX10_85_3
  · exact ffX10_85_4
  · exact ffX10_85_5
  · exact ffX10_85_6
  · exact ffX10_85_8
  · exact ffX10_85_9
theorem ffX10_88_2 : ah_F "ShipsThatMeet" 88 2 4 := ⟨_, _, _, "ShipsThatMeet$Fleet", rfl, by decide, inX2, q_117, Or.inl rfl⟩
theorem ffX10_102_2 : ah_F "ShipsThatMeet" 102 2 5 := ⟨_, _, _, "ShipsThatMeet$Fleet", rfl, by decide, inX2, q_119, Or.inl rfl⟩
theorem ffX10_105_2 : ah_F "ShipsThatMeet" 105 2 6 := ⟨_, _, _, "ShipsThatMeet$Fleet", rfl, by decide, inX2, q_122, Or.inl rfl⟩
theorem ffX10_108_2 : ah_F "ShipsThatMeet" 108 2 7 := ⟨_, _, _, "ShipsThatMeet$Fleet", rfl, by decide, inX2, q_125, Or.inl rfl⟩
theorem ffX10_111_2 : ah_F "ShipsThatMeet" 111 2 8 := ⟨_, _, _, "ShipsThatMeet$Fleet", rfl, by decide, inX2, q_129, Or.inl rfl⟩
theorem ffX10_179_2 : ah_F "ShipsThatMeet" 179 2 9 := ⟨_, _, _, "ShipsThatMeet$Fleet", rfl, by decide, inX2, q_131, Or.inl rfl⟩
theorem ffX10_182_2 : ah_F "ShipsThatMeet" 182 2 1 := ⟨_, _, _, "ShipsThatMeet$Fleet", rfl, by decide, inX2, q_111, Or.inl rfl⟩
theorem ffX10_188_2 : ah_F "ShipsThatMeet" 188 2 0 := ⟨_, _, _, "ShipsThatMeet$Fleet", rfl, by decide, inX2, q_109, Or.inl rfl⟩
theorem ffX10_16_10 : ah_F "ShipsThatMeet" 16 10 1 := ⟨_, _, _, "ShipsThatMeet", rfl, by decide, inX10, q_181, Or.inl rfl⟩
theorem ffX10_19_10 : ah_F "ShipsThatMeet" 19 10 2 := ⟨_, _, _, "ShipsThatMeet", rfl, by decide, inX10, q_182, Or.inl rfl⟩
theorem fwX10_22_10 : ah_W "ShipsThatMeet" 22 10 3 .boolean false := ⟨_, _, _, tyX10, rfl, by decide, inX10, q_183, tyX10_ok, nmX10, rfl, fun h => by cases h, by decide +kernel⟩
theorem ffX10_230_2 : ah_F "ShipsThatMeet" 230 2 2 := ⟨_, _, _, "ShipsThatMeet$Fleet", rfl, by decide, inX2, q_113, Or.inl rfl⟩
theorem ffX10_22_10 : ah_F "ShipsThatMeet" 22 10 3 := ⟨_, _, _, "ShipsThatMeet", rfl, by decide, inX10, q_183, Or.inl rfl⟩
theorem ffX10_28_10 : ah_F "ShipsThatMeet" 28 10 4 := ⟨_, _, _, "ShipsThatMeet", rfl, by decide, inX10, q_184, Or.inl rfl⟩
theorem ffX10_117_7 : ah_F "ShipsThatMeet" 117 7 0 := ⟨_, _, _, "ShipsThatMeet$Shelf", rfl, by decide, inX7, q_162, Or.inl rfl⟩
theorem ffX10_275_7 : ah_F "ShipsThatMeet" 275 7 1 := ⟨_, _, _, "ShipsThatMeet$Shelf", rfl, by decide, inX7, q_164, Or.inl rfl⟩
theorem ffX10_58_7 : ah_F "ShipsThatMeet" 58 7 2 := ⟨_, _, _, "ShipsThatMeet$Shelf", rfl, by decide, inX7, q_166, Or.inl rfl⟩
theorem ffX10_38_10 : ah_F "ShipsThatMeet" 38 10 6 := ⟨_, _, _, "ShipsThatMeet", rfl, by decide, inX10, q_186, Or.inl rfl⟩
theorem ffX10_35_10 : ah_F "ShipsThatMeet" 35 10 5 := ⟨_, _, _, "ShipsThatMeet", rfl, by decide, inX10, q_185, Or.inl rfl⟩
theorem ffX11_53_11 : ah_F "ShipsThatMeetModel" 53 11 11 := ⟨_, _, _, "ShipsThatMeetModel", rfl, by decide, inX11, q_897, Or.inl rfl⟩
theorem ffX11_9_11 : ah_F "ShipsThatMeetModel" 9 11 0 := ⟨_, _, _, "ShipsThatMeetModel", rfl, by decide, inX11, q_886, Or.inl rfl⟩
theorem fwX11_111_11 : ah_W "ShipsThatMeetModel" 111 11 12 .int false := ⟨_, _, _, tyX11, rfl, by decide, inX11, q_898, tyX11_ok, nmX11, rfl, fun h => by cases h, by decide +kernel⟩
theorem fwX11_114_11 : ah_W "ShipsThatMeetModel" 114 11 13 .int false := ⟨_, _, _, tyX11, rfl, by decide, inX11, q_899, tyX11_ok, nmX11, rfl, fun h => by cases h, by decide +kernel⟩
theorem ffX11_111_11 : ah_F "ShipsThatMeetModel" 111 11 12 := ⟨_, _, _, "ShipsThatMeetModel", rfl, by decide, inX11, q_898, Or.inl rfl⟩
theorem ffX11_114_11 : ah_F "ShipsThatMeetModel" 114 11 13 := ⟨_, _, _, "ShipsThatMeetModel", rfl, by decide, inX11, q_899, Or.inl rfl⟩
theorem ffX11_121_11 : ah_F "ShipsThatMeetModel" 121 11 14 := ⟨_, _, _, "ShipsThatMeetModel", rfl, by decide, inX11, q_900, Or.inl rfl⟩
theorem ffX11_124_11 : ah_F "ShipsThatMeetModel" 124 11 16 := ⟨_, _, _, "ShipsThatMeetModel", rfl, by decide, inX11, q_902, Or.inl rfl⟩
theorem ffX11_31_11 : ah_F "ShipsThatMeetModel" 31 11 7 := ⟨_, _, _, "ShipsThatMeetModel", rfl, by decide, inX11, q_893, Or.inl rfl⟩
theorem ffX11_127_11 : ah_F "ShipsThatMeetModel" 127 11 15 := ⟨_, _, _, "ShipsThatMeetModel", rfl, by decide, inX11, q_901, Or.inl rfl⟩
theorem ffX11_40_11 : ah_F "ShipsThatMeetModel" 40 11 18 := ⟨_, _, _, "ShipsThatMeetModel", rfl, by decide, inX11, q_903, Or.inl rfl⟩
theorem fwX11_121_11 : ah_W "ShipsThatMeetModel" 121 11 14 .int false := ⟨_, _, _, tyX11, rfl, by decide, inX11, q_900, tyX11_ok, nmX11, rfl, fun h => by cases h, by decide +kernel⟩
theorem ffX11_22_11 : ah_F "ShipsThatMeetModel" 22 11 4 := ⟨_, _, _, "ShipsThatMeetModel", rfl, by decide, inX11, q_890, Or.inl rfl⟩
theorem ffX11_25_11 : ah_F "ShipsThatMeetModel" 25 11 5 := ⟨_, _, _, "ShipsThatMeetModel", rfl, by decide, inX11, q_891, Or.inl rfl⟩
theorem fwX11_127_11 : ah_W "ShipsThatMeetModel" 127 11 15 .int false := ⟨_, _, _, tyX11, rfl, by decide, inX11, q_901, tyX11_ok, nmX11, rfl, fun h => by cases h, by decide +kernel⟩
theorem ffX11_28_11 : ah_F "ShipsThatMeetModel" 28 11 6 := ⟨_, _, _, "ShipsThatMeetModel", rfl, by decide, inX11, q_892, Or.inl rfl⟩
theorem fwX11_124_11 : ah_W "ShipsThatMeetModel" 124 11 16 .int false := ⟨_, _, _, tyX11, rfl, by decide, inX11, q_902, tyX11_ok, nmX11, rfl, fun h => by cases h, by decide +kernel⟩
theorem ffX11_16_11 : ah_F "ShipsThatMeetModel" 16 11 2 := ⟨_, _, _, "ShipsThatMeetModel", rfl, by decide, inX11, q_888, Or.inl rfl⟩
theorem ffX11_34_11 : ah_F "ShipsThatMeetModel" 34 11 8 := ⟨_, _, _, "ShipsThatMeetModel", rfl, by decide, inX11, q_894, Or.inl rfl⟩
theorem ffX11_37_11 : ah_F "ShipsThatMeetModel" 37 11 9 := ⟨_, _, _, "ShipsThatMeetModel", rfl, by decide, inX11, q_895, Or.inl rfl⟩
theorem ffX11_19_11 : ah_F "ShipsThatMeetModel" 19 11 3 := ⟨_, _, _, "ShipsThatMeetModel", rfl, by decide, inX11, q_889, Or.inl rfl⟩
theorem ffX11_43_11 : ah_F "ShipsThatMeetModel" 43 11 19 := ⟨_, _, _, "ShipsThatMeetModel", rfl, by decide, inX11, q_904, Or.inl rfl⟩
theorem ffX11_47_11 : ah_F "ShipsThatMeetModel" 47 11 20 := ⟨_, _, _, "ShipsThatMeetModel", rfl, by decide, inX11, q_905, Or.inl rfl⟩
theorem ffX11_50_11 : ah_F "ShipsThatMeetModel" 50 11 22 := ⟨_, _, _, "ShipsThatMeetModel", rfl, by decide, inX11, q_907, Or.inl rfl⟩
theorem fwX11_212_11 : ah_W "ShipsThatMeetModel" 212 11 21 .int false := ⟨_, _, _, tyX11, rfl, by decide, inX11, q_906, tyX11_ok, nmX11, rfl, fun h => by cases h, by decide +kernel⟩
theorem ffX11_226_11 : ah_F "ShipsThatMeetModel" 226 11 23 := ⟨_, _, _, "ShipsThatMeetModel", rfl, by decide, inX11, q_908, Or.inl rfl⟩
theorem fwX11_226_11 : ah_W "ShipsThatMeetModel" 226 11 23 .int false := ⟨_, _, _, tyX11, rfl, by decide, inX11, q_908, tyX11_ok, nmX11, rfl, fun h => by cases h, by decide +kernel⟩
theorem ffX11_13_11 : ah_F "ShipsThatMeetModel" 13 11 1 := ⟨_, _, _, "ShipsThatMeetModel", rfl, by decide, inX11, q_887, Or.inl rfl⟩
theorem fwX11_240_11 : ah_W "ShipsThatMeetModel" 240 11 10 .boolean false := ⟨_, _, _, tyX11, rfl, by decide, inX11, q_896, tyX11_ok, nmX11, rfl, fun h => by cases h, by decide +kernel⟩
theorem ffX11_240_11 : ah_F "ShipsThatMeetModel" 240 11 10 := ⟨_, _, _, "ShipsThatMeetModel", rfl, by decide, inX11, q_896, Or.inl rfl⟩
theorem fwX11_53_11 : ah_W "ShipsThatMeetModel" 53 11 11 .int false := ⟨_, _, _, tyX11, rfl, by decide, inX11, q_897, tyX11_ok, nmX11, rfl, fun h => by cases h, by decide +kernel⟩
theorem ffX10_281_7 : ah_F "ShipsThatMeet" 281 7 3 := ⟨_, _, _, "ShipsThatMeet$Shelf", rfl, by decide, inX7, q_168, Or.inl rfl⟩
theorem ffX10_42_10 : ah_F "ShipsThatMeet" 42 10 7 := ⟨_, _, _, "ShipsThatMeet", rfl, by decide, inX10, q_187, Or.inl rfl⟩
theorem hdX2_isShip : ah_d yX2_isShip 1 := by decide +kernel
theorem hdX2_areUnlikeShips : ah_d yX2_areUnlikeShips 2 := by decide +kernel
theorem hdX2_canMeet : ah_d yX2_canMeet 2 := by decide +kernel
theorem hdX2_isMan : ah_d yX2_isMan 1 := by decide +kernel
theorem hdX2_isAstray : ah_d yX2_isAstray 2 := by decide +kernel
theorem hdX2_firstAstray : ah_d yX2_firstAstray 1 := by decide +kernel
theorem hdX7_holdNothing : ah_d yX7_holdNothing 0 := by decide +kernel
theorem hdX7_hasPlace : ah_d yX7_hasPlace 1 := by decide +kernel
theorem hdX7_at : ah_d yX7_at 1 := by decide +kernel
theorem hdX2_mixedPairs : ah_d yX2_mixedPairs 0 := by decide +kernel
theorem hdX2_become : ah_d yX2_become 1 := by decide +kernel
theorem hdX2_hasTrade : ah_d yX2_hasTrade 2 := by decide +kernel
theorem hdX2_shipsWithoutMen : ah_d yX2_shipsWithoutMen 0 := by decide +kernel
theorem hdX10_isShelf : ah_d yX10_isShelf 1 := by decide +kernel
theorem hdX7_holdsNothing : ah_d yX7_holdsNothing 0 := by decide +kernel
theorem hdX7_holdsRow : ah_d yX7_holdsRow 0 := by decide +kernel
theorem hdX10_refusalOfRow : ah_d yX10_refusalOfRow 1 := by decide +kernel
theorem hdX10_refusalOfBytes : ah_d yX10_refusalOfBytes 1 := by decide +kernel
theorem hdX7_meetings : ah_d yX7_meetings 0 := by decide +kernel
theorem hdX7_one : ah_d yX7_one 1 := by decide +kernel
theorem hdX7_other : ah_d yX7_other 1 := by decide +kernel
theorem hdX10_refusalOfMeetings : ah_d yX10_refusalOfMeetings 1 := by decide +kernel
theorem hdX10_signsBehind : ah_d yX10_signsBehind 1 := by decide +kernel
theorem hdX10_digit : ah_d yX10_digit 2 := by decide +kernel
theorem hdX10_has : ah_d yX10_has 2 := by decide +kernel
theorem hdX2_astray : ah_d yX2_astray 1 := by decide +kernel
theorem hdX11_isIn : ah_d yX11_isIn 3 := by decide +kernel
theorem hdX11_get : ah_d yX11_get 2 := by decide +kernel
theorem hdX11_likeTongue : ah_d yX11_likeTongue 2 := by decide +kernel
theorem hdX11_aboard : ah_d yX11_aboard 1 := by decide +kernel
theorem hdX11_figure : ah_d yX11_figure 1 := by decide +kernel
theorem hdX11_kind : ah_d yX11_kind 1 := by decide +kernel
theorem hdX11_bits : ah_d yX11_bits 1 := by decide +kernel
theorem hdX11_at : ah_d yX11_at 2 := by decide +kernel
theorem hdX11_bySince : ah_d yX11_bySince 2 := by decide +kernel
theorem hdX11_notOf : ah_d yX11_notOf 2 := by decide +kernel
theorem hdX11_bestOf : ah_d yX11_bestOf 2 := by decide +kernel
theorem hdX11_puts : ah_d yX11_puts 3 := by decide +kernel
theorem hdX11_isShip : ah_d yX11_isShip 1 := by decide +kernel
theorem hdX11_gives : ah_d yX11_gives 1 := by decide +kernel
theorem hdX11_sails : ah_d yX11_sails 1 := by decide +kernel
theorem hdX11_here : ah_d yX11_here 0 := by decide +kernel
theorem hdX11_readsDigits : ah_d yX11_readsDigits 1 := by decide +kernel
theorem hdX11_mayMeet : ah_d yX11_mayMeet 2 := by decide +kernel
theorem hdX11_meets : ah_d yX11_meets 2 := by decide +kernel
theorem hdX11_isShelf : ah_d yX11_isShelf 1 := by decide +kernel
theorem hdX11_wrongRow : ah_d yX11_wrongRow 2 := by decide +kernel
theorem hdX11_readsStatement : ah_d yX11_readsStatement 0 := by decide +kernel
theorem hdX11_copies : ah_d yX11_copies 2 := by decide +kernel
theorem hdX11_comes : ah_d yX11_comes 1 := by decide +kernel
theorem hdX11_isMan : ah_d yX11_isMan 1 := by decide +kernel
theorem hdX11_wrongKept : ah_d yX11_wrongKept 1 := by decide +kernel
theorem hdX11_first : ah_d yX11_first 2 := by decide +kernel
theorem hdX11_second : ah_d yX11_second 2 := by decide +kernel
theorem hdX11_begins : ah_d yX11_begins 0 := by decide +kernel
theorem hdX11_meetings : ah_d yX11_meetings 1 := by decide +kernel
theorem hdX11_ends : ah_d yX11_ends 0 := by decide +kernel
theorem hdX11_meetsTold : ah_d yX11_meetsTold 2 := by decide +kernel
theorem hdX11_wrongMeetings : ah_d yX11_wrongMeetings 1 := by decide +kernel
theorem hdX11_mayBe : ah_d yX11_mayBe 3 := by decide +kernel
theorem hdX11_keeps : ah_d yX11_keeps 1 := by decide +kernel
theorem hdX11_mixedNow : ah_d yX11_mixedNow 0 := by decide +kernel
theorem hdX11_spreads : ah_d yX11_spreads 1 := by decide +kernel
theorem hdX11_drawn : ah_d yX11_drawn 1 := by decide +kernel
theorem hdX11_wrongFour : ah_d yX11_wrongFour 2 := by decide +kernel
theorem hdX11_payBy : ah_d yX11_payBy 2 := by decide +kernel
theorem hdJ6_bitCount_0f7a4 : ah_d yJ6_bitCount_0f7a4 1 := by decide +kernel
theorem hdX10_isKindAndFigure : ah_d yX10_isKindAndFigure 2 := by decide +kernel
theorem hdX2_acquaint : ah_d yX2_acquaint 1 := by decide +kernel
theorem hdX2_bring : ah_d yX2_bring 3 := by decide +kernel
theorem hdJ9_max_7cf53 : ah_d yJ9_max_7cf53 2 := by decide +kernel
theorem hdX10_faultOfForm : ah_d yX10_faultOfForm 1 := by decide +kernel
theorem hdX10_refusalOfCaptain : ah_d yX10_refusalOfCaptain 1 := by decide +kernel
theorem hdX10_refusalOfManAndMeetings : ah_d yX10_refusalOfManAndMeetings 2 := by decide +kernel
theorem hdX10_tellsOfEachMan : ah_d yX10_tellsOfEachMan 1 := by decide +kernel
theorem hdX2_withShipmates : ah_d yX2_withShipmates 1 := by decide +kernel
theorem hdX10_nextSeed : ah_d yX10_nextSeed 1 := by decide +kernel
theorem hdX10_drawBelow : ah_d yX10_drawBelow 2 := by decide +kernel
theorem hdX2_mostAboard : ah_d yX2_mostAboard 0 := by decide +kernel
theorem hdX7_holdRow : ah_d yX7_holdRow 2 := by decide +kernel
theorem hdX7_write : ah_d yX7_write 2 := by decide +kernel
theorem hdX7_hasStretch : ah_d yX7_hasStretch 2 := by decide +kernel
theorem hdX2_takesMan : ah_d yX2_takesMan 3 := by decide +kernel
theorem hdJ9_min_7cf53 : ah_d yJ9_min_7cf53 2 := by decide +kernel
theorem hdX2_isAlone : ah_d yX2_isAlone 1 := by decide +kernel
theorem hdX10_choicesBehind : ah_d yX10_choicesBehind 3 := by decide +kernel
theorem hdX10_spreadChances : ah_d yX10_spreadChances 2 := by decide +kernel
theorem hdX10_fillChances : ah_d yX10_fillChances 2 := by decide +kernel
theorem hdX10_commonDivisor : ah_d yX10_commonDivisor 2 := by decide +kernel
def fX11_isIn (M : ah_h) (x0 : Int64) (x2 : Int64) (x4 : Int64) : Option (Int32) := if (lg_cmp x0 x2) < 0 then (some 0) else (if 0 < (lg_cmp x0 x4) then (some 0) else (some 1))
set_option maxRecDepth 100000 in
set_option maxHeartbeats 4000000 in
theorem ctX11_isIn (l : Launch) (H0 : Heap) (D : va_G) (ca : Nat → ClassId) (M : ah_h) (z : Nat) (x0 : Int64) (x2 : Int64) (x4 : Int64) (Z : Int32) (hf : fX11_isIn M x0 x2 x4 = some Z) : ah_ct l H0 D ca yX11_isIn cX11_isIn 6 (some .boolean) 0 0 0 0 [.long x0, .long x2, .long x4] M z (some (.int Z)) M z := by
  refine ah_of (by decide) (Nat.le_of_ble_eq_true rfl) ?_
  intro p e s m below meth c ls hin K hG hl
  have hL : ah_L H0 [] := ah_L.nil
  have hl : lv_has ls 6 [(0, .long x0), (2, .long x2), (4, .long x4)] := hl
  unfold fX11_isIn at hf
  refine lv_lload_n K.1 K.2.1 dX11_isIn_0 rfl (lv_at hl 0 rfl) ?_
  refine lv_lload_n K.1 K.2.1 dX11_isIn_1 rfl (lv_at hl 1 rfl) ?_
  refine W.lcmp K.1 K.2.1 dX11_isIn_2 ?_
  refine lv_if_lt (tgt := 17) K.1 K.2.1 dX11_isIn_3 (by decide) (fun h1 => ?_) (fun h1 => ?_)
  · rw [if_pos h1] at hf
    refine lv_iconst (v := 0) K.1 K.2.1 dX11_isIn_17 (by decide) ?_
    cases hf
    exact ah_zret K hG hL (by decide) (Nat.le_refl _) (Nat.le_refl _) dX11_isIn_18
  · rw [if_neg h1] at hf
    refine lv_lload_n K.1 K.2.1 dX11_isIn_6 rfl (lv_at hl 0 rfl) ?_
    refine lv_lload K.1 K.2.1 dX11_isIn_7 (lv_at hl 2 rfl) ?_
    refine W.lcmp K.1 K.2.1 dX11_isIn_9 ?_
    refine lv_if_gt (tgt := 17) K.1 K.2.1 dX11_isIn_10 (by decide) (fun h2 => ?_) (fun h2 => ?_)
    · rw [if_pos h2] at hf
      refine lv_iconst (v := 0) K.1 K.2.1 dX11_isIn_17 (by decide) ?_
      cases hf
      exact ah_zret K hG hL (by decide) (Nat.le_refl _) (Nat.le_refl _) dX11_isIn_18
    · rw [if_neg h2] at hf
      refine lv_iconst (v := 1) K.1 K.2.1 dX11_isIn_13 (by decide) ?_
      refine lv_goto (tgt := 18) K.1 K.2.1 dX11_isIn_14 (by decide) ?_
      cases hf
      exact ah_zret K hG hL (by decide) (Nat.le_refl _) (Nat.le_refl _) dX11_isIn_18
def fX11_isShelf (M : ah_h) (x0 : Int32) : Option (Int32) := (fX11_isIn M x0.toInt64 0 7).bind fun v1 => if v1 = 0 ∨ v1 = 1 then some v1 else none
set_option maxRecDepth 100000 in
set_option maxHeartbeats 4000000 in
theorem ctX11_isShelf (l : Launch) (H0 : Heap) (D : va_G) (ca : Nat → ClassId) (M : ah_h) (z : Nat) (x0 : Int32) (Z : Int32) (hf : fX11_isShelf M x0 = some Z) : ah_ct l H0 D ca yX11_isShelf cX11_isShelf 1 (some .boolean) 1 25 0 0 [.int x0] M z (some (.int Z)) M z := by
  refine ah_of (by decide) (Nat.le_of_ble_eq_true rfl) ?_
  intro p e s m below meth c ls hin K hG hl
  have hL : ah_L H0 [] := ah_L.nil
  have hl : lv_has ls 1 [(0, .int x0)] := hl
  unfold fX11_isShelf at hf
  refine lv_iload_n K.1 K.2.1 dX11_isShelf_0 rfl (lv_at hl 0 rfl) ?_
  refine lv_i2l (v := x0.toInt64) K.1 K.2.1 dX11_isShelf_1 rfl ?_
  refine lv_lconst (v := 0) K.1 K.2.1 dX11_isShelf_2 (by decide) ?_
  refine lv_ldc2 (v := 7) K.1 K.2.1 K.2.2.2.1 (K.2.2.2.2.1 _ q_973) dX11_isShelf_3 ?_
  obtain ⟨v1, ev1, hf⟩ := Option.bind_eq_some_iff.mp hf
  refine ah_callS (As := [.long x0.toInt64, .long 0, .long 7]) (rest := []) K hG hL hl.1 (ctX11_isIn l H0 D ca M z x0.toInt64 0 7 v1 ev1) hdX11_isIn q_974 q_975 q_54 q_976 ⟨Nat.le_of_ble_eq_true rfl, Nat.le_of_ble_eq_true rfl⟩ rfl rfl (Nat.le_of_ble_eq_true rfl) ⟨Nat.le_refl _, Nat.le_refl _⟩ dX11_isShelf_6 (fun H locs hG hL => ?_)
  by_cases h2 : v1 = 0 ∨ v1 = 1
  case neg => rw [if_neg h2] at hf; cases hf
  rw [if_pos h2] at hf
  cases hf
  exact ah_zret K hG hL h2 (Nat.le_refl _) (Nat.le_refl _) dX11_isShelf_9
def fX11_isShip (M : ah_h) (a0 : Nat) (x1 : Int32) : Option (Int32) := (ah_ob M a0 11).bind fun _ => (ah_gr M a0 11 0).bind fun v1 => (ah_ai M v1 0).bind fun v2 => (fX11_isIn M x1.toInt64 0 ((v2 - 1).toInt64)).bind fun v3 => if v3 = 0 ∨ v3 = 1 then some v3 else none
set_option maxRecDepth 100000 in
set_option maxHeartbeats 4000000 in
theorem ctX11_isShip (l : Launch) (H0 : Heap) (D : va_G) (ca : Nat → ClassId) (M : ah_h) (z : Nat) (a0 : Nat) (x1 : Int32) (Z : Int32) (hf : fX11_isShip M a0 x1 = some Z) : ah_ct l H0 D ca yX11_isShip cX11_isShip 2 (some .boolean) 1 25 0 0 [.ref a0, .int x1] M z (some (.int Z)) M z := by
  refine ah_of (by decide) (Nat.le_of_ble_eq_true rfl) ?_
  intro p e s m below meth c ls hin K hG hl
  have hL : ah_L H0 [] := ah_L.nil
  have hl : lv_has ls 2 [(0, .ref a0), (1, .int x1)] := hl
  unfold fX11_isShip at hf
  obtain ⟨-, -, hf⟩ := Option.bind_eq_some_iff.mp hf
  refine lv_iload_n K.1 K.2.1 dX11_isShip_0 rfl (lv_at hl 1 rfl) ?_
  refine lv_i2l (v := x1.toInt64) K.1 K.2.1 dX11_isShip_1 rfl ?_
  refine lv_lconst (v := 0) K.1 K.2.1 dX11_isShip_2 (by decide) ?_
  refine lv_aload_n K.1 K.2.1 dX11_isShip_3 rfl (lv_at hl 0 rfl) ?_
  obtain ⟨v1, ev1, hf⟩ := Option.bind_eq_some_iff.mp hf
  refine ah_getr K hG ev1 ffX11_9_11 dX11_isShip_4 ?_
  refine lv_iconst (v := 0) K.1 K.2.1 dX11_isShip_7 (by decide) ?_
  obtain ⟨v2, ev2, hf⟩ := Option.bind_eq_some_iff.mp hf
  refine ah_iald K hG ev2 dX11_isShip_8 ?_
  refine lv_iconst (v := 1) K.1 K.2.1 dX11_isShip_9 (by decide) ?_
  refine lv_isub K.1 K.2.1 dX11_isShip_10 ?_
  refine lv_i2l (v := (v2 - 1).toInt64) K.1 K.2.1 dX11_isShip_11 rfl ?_
  obtain ⟨v3, ev3, hf⟩ := Option.bind_eq_some_iff.mp hf
  refine ah_callS (As := [.long x1.toInt64, .long 0, .long ((v2 - 1).toInt64)]) (rest := []) K hG hL hl.1 (ctX11_isIn l H0 D ca M z x1.toInt64 0 ((v2 - 1).toInt64) v3 ev3) hdX11_isIn q_974 q_975 q_54 q_976 ⟨Nat.le_of_ble_eq_true rfl, Nat.le_of_ble_eq_true rfl⟩ rfl rfl (Nat.le_of_ble_eq_true rfl) ⟨Nat.le_refl _, Nat.le_refl _⟩ dX11_isShip_12 (fun H locs hG hL => ?_)
  by_cases h4 : v3 = 0 ∨ v3 = 1
  case neg => rw [if_neg h4] at hf; cases hf
  rw [if_pos h4] at hf
  cases hf
  exact ah_zret K hG hL h4 (Nat.le_refl _) (Nat.le_refl _) dX11_isShip_15
def fX11_get (M : ah_h) (a0 : Nat) (x1 : Int32) (x2 : Int32) : Option (Int32) := (ah_ob M a0 11).bind fun _ => (ah_gr M a0 11 0).bind fun v1 => (ah_ai M v1 ((13 + (5 * x1)) + x2)).bind fun v2 => some v2
set_option maxRecDepth 100000 in
set_option maxHeartbeats 4000000 in
theorem ctX11_get (l : Launch) (H0 : Heap) (D : va_G) (ca : Nat → ClassId) (M : ah_h) (z : Nat) (a0 : Nat) (x1 : Int32) (x2 : Int32) (Z : Int32) (hf : fX11_get M a0 x1 x2 = some Z) : ah_ct l H0 D ca yX11_get cX11_get 3 (some .int) 0 0 0 0 [.ref a0, .int x1, .int x2] M z (some (.int Z)) M z := by
  refine ah_of (by decide) (Nat.le_of_ble_eq_true rfl) ?_
  intro p e s m below meth c ls hin K hG hl
  have hL : ah_L H0 [] := ah_L.nil
  have hl : lv_has ls 3 [(0, .ref a0), (1, .int x1), (2, .int x2)] := hl
  unfold fX11_get at hf
  obtain ⟨-, -, hf⟩ := Option.bind_eq_some_iff.mp hf
  refine lv_aload_n K.1 K.2.1 dX11_get_0 rfl (lv_at hl 0 rfl) ?_
  obtain ⟨v1, ev1, hf⟩ := Option.bind_eq_some_iff.mp hf
  refine ah_getr K hG ev1 ffX11_9_11 dX11_get_1 ?_
  refine lv_bipush (v := 13) K.1 K.2.1 dX11_get_4 (by decide) ?_
  refine lv_iconst (v := 5) K.1 K.2.1 dX11_get_6 (by decide) ?_
  refine lv_iload_n K.1 K.2.1 dX11_get_7 rfl (lv_at hl 1 rfl) ?_
  refine lv_imul K.1 K.2.1 dX11_get_8 ?_
  refine lv_iadd K.1 K.2.1 dX11_get_9 ?_
  refine lv_iload_n K.1 K.2.1 dX11_get_10 rfl (lv_at hl 2 rfl) ?_
  refine lv_iadd K.1 K.2.1 dX11_get_11 ?_
  obtain ⟨v2, ev2, hf⟩ := Option.bind_eq_some_iff.mp hf
  refine ah_iald K hG ev2 dX11_get_12 ?_
  cases hf
  exact ah_iret K hG hL (Nat.le_refl _) (Nat.le_refl _) dX11_get_13
def fX11_puts (M : ah_h) (a0 : Nat) (x1 : Int32) (x2 : Int32) (x3 : Int32) : Option (ah_h) := (ah_ob M a0 11).bind fun _ => (ah_gr M a0 11 0).bind fun v1 => (ah_si M v1 ((13 + (5 * x1)) + x2) x3).bind fun M2 => some M2
set_option maxRecDepth 100000 in
set_option maxHeartbeats 4000000 in
theorem ctX11_puts (l : Launch) (H0 : Heap) (D : va_G) (ca : Nat → ClassId) (M : ah_h) (z : Nat) (a0 : Nat) (x1 : Int32) (x2 : Int32) (x3 : Int32) (Z : ah_h) (hf : fX11_puts M a0 x1 x2 x3 = some Z) : ah_ct l H0 D ca yX11_puts cX11_puts 4 none 0 0 0 0 [.ref a0, .int x1, .int x2, .int x3] M z none Z z := by
  refine ah_of (by decide) (Nat.le_of_ble_eq_true rfl) ?_
  intro p e s m below meth c ls hin K hG hl
  have hL : ah_L H0 [] := ah_L.nil
  have hl : lv_has ls 4 [(0, .ref a0), (1, .int x1), (2, .int x2), (3, .int x3)] := hl
  unfold fX11_puts at hf
  obtain ⟨-, -, hf⟩ := Option.bind_eq_some_iff.mp hf
  refine lv_aload_n K.1 K.2.1 dX11_puts_0 rfl (lv_at hl 0 rfl) ?_
  obtain ⟨v1, ev1, hf⟩ := Option.bind_eq_some_iff.mp hf
  refine ah_getr K hG ev1 ffX11_9_11 dX11_puts_1 ?_
  refine lv_bipush (v := 13) K.1 K.2.1 dX11_puts_4 (by decide) ?_
  refine lv_iconst (v := 5) K.1 K.2.1 dX11_puts_6 (by decide) ?_
  refine lv_iload_n K.1 K.2.1 dX11_puts_7 rfl (lv_at hl 1 rfl) ?_
  refine lv_imul K.1 K.2.1 dX11_puts_8 ?_
  refine lv_iadd K.1 K.2.1 dX11_puts_9 ?_
  refine lv_iload_n K.1 K.2.1 dX11_puts_10 rfl (lv_at hl 2 rfl) ?_
  refine lv_iadd K.1 K.2.1 dX11_puts_11 ?_
  refine lv_iload_n K.1 K.2.1 dX11_puts_12 rfl (lv_at hl 3 rfl) ?_
  obtain ⟨M2, eM2, hf⟩ := Option.bind_eq_some_iff.mp hf
  refine ah_iast K hG hL eM2 dX11_puts_13 (fun H locs hG hL => ?_)
  cases hf
  exact ah_vret K hG hL (Nat.le_refl _) (Nat.le_refl _) dX11_puts_14
def fX11_aboard_30 (k4 : Nat → Int32 → Int32 → Int32 → Option (Int32)) (M : ah_h) (a0 : Nat) (x1 : Int32) (x2 : Int32) (x3 : Int32) : Option (Int32) := k4 a0 x1 x2 (x3 + 1)
set_option maxRecDepth 100000 in
set_option maxHeartbeats 4000000 in
theorem wX11_aboard_30 {p : Program} {l : Launch} {e : Env} {s : State} {m : MethodId} {args : Array Value} {below : List Frame} {meth : Method} {c : Code} {D : va_G} {ca : Nat → ClassId} {H0 : Heap} {M : ah_h} {z : Nat} (K : ah_K p s m args meth c D ca "ShipsThatMeetModel" cX11_aboard 4 (some .int)) (k4 : Nat → Int32 → Int32 → Int32 → Option (Int32)) (hk4 : ∀ (a0 : Nat) (x1 : Int32) (x2 : Int32) (x3 : Int32) (H : Heap) (locs : List Loc) (ls : Array Slot), ah_g H0 D ca M z H → ah_L H0 locs → lv_has ls 4 [(0, .ref a0), (1, .int x1), (2, .int x2), (3, .int x3)] → ∀ Z, k4 a0 x1 x2 x3 = some Z → W p l e { frames := 1, cells := 0, slots := 0, locals := 22 } s m args below meth c H locs 0 0 (ah_Q below args s H0 D ca 0 0 (some (.int Z)) M z) (F0 m 4 ls [])) : ∀ (a0 : Nat) (x1 : Int32) (x2 : Int32) (x3 : Int32) (H : Heap) (locs : List Loc) (ls : Array Slot), ah_g H0 D ca M z H → ah_L H0 locs → lv_has ls 4 [(0, .ref a0), (1, .int x1), (2, .int x2), (3, .int x3)] → ∀ Z, fX11_aboard_30 k4 M a0 x1 x2 x3 = some Z → W p l e { frames := 1, cells := 0, slots := 0, locals := 22 } s m args below meth c H locs 0 0 (ah_Q below args s H0 D ca 0 0 (some (.int Z)) M z) (F0 m 30 ls []) := by
  intro a0 x1 x2 x3 H locs ls hG hL hl Z hf
  unfold fX11_aboard_30 at hf
  refine lv_iinc (v := x3 + 1) (lv' := [(3, .int (x3 + 1)), (0, .ref a0), (1, .int x1), (2, .int x2)]) K.1 K.2.1 dX11_aboard_30 hl (k := 3) rfl rfl (by decide) rfl (fun ls hl => ?_)
  refine lv_goto (tgt := 4) K.1 K.2.1 dX11_aboard_33 (by decide) ?_
  exact hk4 a0 x1 x2 (x3 + 1) _ _ _ hG hL (lv_sub hl [1, 2, 3, 0] rfl) _ hf
def fX11_aboard_4_b  (k4 : Nat → Int32 → Int32 → Int32 → Option (Int32)) (M : ah_h) (a0 : Nat) (x1 : Int32) (x2 : Int32) (x3 : Int32) : Option (Int32) := (ah_gr M a0 11 0).bind fun v1 => (ah_ai M v1 1).bind fun v2 => if v2 ≤ x3 then (some x2) else ((fX11_get M a0 x3 0).bind fun v4 => if v4 = x1 then (fX11_aboard_30 k4 M a0 x1 (x2 ||| (1 <<< (x3 &&& 31))) x3) else (fX11_aboard_30 k4 M a0 x1 x2 x3))
def fX11_aboard_4  (M : ah_h) : Nat → Nat → Int32 → Int32 → Int32 → Option (Int32)
  | 0 => fun _ _ _ _ => none
  | n + 1 => fun a0 x1 x2 x3 => fX11_aboard_4_b  (fX11_aboard_4  M n) M a0 x1 x2 x3
set_option maxRecDepth 100000 in
set_option maxHeartbeats 4000000 in
theorem wX11_aboard_4_b {p : Program} {l : Launch} {e : Env} {s : State} {m : MethodId} {args : Array Value} {below : List Frame} {meth : Method} {c : Code} {D : va_G} {ca : Nat → ClassId} {H0 : Heap} {M : ah_h} {z : Nat} (K : ah_K p s m args meth c D ca "ShipsThatMeetModel" cX11_aboard 4 (some .int))  (k4 : Nat → Int32 → Int32 → Int32 → Option (Int32)) (hk4 : ∀ (a0 : Nat) (x1 : Int32) (x2 : Int32) (x3 : Int32) (H : Heap) (locs : List Loc) (ls : Array Slot), ah_g H0 D ca M z H → ah_L H0 locs → lv_has ls 4 [(0, .ref a0), (1, .int x1), (2, .int x2), (3, .int x3)] → ∀ Z, k4 a0 x1 x2 x3 = some Z → W p l e { frames := 1, cells := 0, slots := 0, locals := 22 } s m args below meth c H locs 0 0 (ah_Q below args s H0 D ca 0 0 (some (.int Z)) M z) (F0 m 4 ls [])) : ∀ (a0 : Nat) (x1 : Int32) (x2 : Int32) (x3 : Int32) (H : Heap) (locs : List Loc) (ls : Array Slot), ah_g H0 D ca M z H → ah_L H0 locs → lv_has ls 4 [(0, .ref a0), (1, .int x1), (2, .int x2), (3, .int x3)] → ∀ Z, fX11_aboard_4_b  k4 M a0 x1 x2 x3 = some Z → W p l e { frames := 1, cells := 0, slots := 0, locals := 22 } s m args below meth c H locs 0 0 (ah_Q below args s H0 D ca 0 0 (some (.int Z)) M z) (F0 m 4 ls []) := by
  intro a0 x1 x2 x3 H locs ls hG hL hl Z hf
  unfold fX11_aboard_4_b at hf
  refine lv_iload_n K.1 K.2.1 dX11_aboard_4 rfl (lv_at hl 3 rfl) ?_
  refine lv_aload_n K.1 K.2.1 dX11_aboard_5 rfl (lv_at hl 0 rfl) ?_
  obtain ⟨v1, ev1, hf⟩ := Option.bind_eq_some_iff.mp hf
  refine ah_getr K hG ev1 ffX11_9_11 dX11_aboard_6 ?_
  refine lv_iconst (v := 1) K.1 K.2.1 dX11_aboard_9 (by decide) ?_
  obtain ⟨v2, ev2, hf⟩ := Option.bind_eq_some_iff.mp hf
  refine ah_iald K hG ev2 dX11_aboard_10 ?_
  refine lv_icmp_ge (tgt := 36) K.1 K.2.1 dX11_aboard_11 (by decide) (fun h3 => ?_) (fun h3 => ?_)
  · rw [if_pos h3] at hf
    refine lv_iload_n K.1 K.2.1 dX11_aboard_36 rfl (lv_at hl 2 rfl) ?_
    cases hf
    exact ah_iret K hG hL (Nat.le_refl _) (Nat.le_refl _) dX11_aboard_37
  · rw [if_neg h3] at hf
    refine lv_aload_n K.1 K.2.1 dX11_aboard_14 rfl (lv_at hl 0 rfl) ?_
    refine lv_iload_n K.1 K.2.1 dX11_aboard_15 rfl (lv_at hl 3 rfl) ?_
    refine lv_iconst (v := 0) K.1 K.2.1 dX11_aboard_16 (by decide) ?_
    obtain ⟨v4, ev4, hf⟩ := Option.bind_eq_some_iff.mp hf
    obtain ⟨q5, eq5⟩ := ah_this ev4
    refine ah_callV (As := [.int x3, .int 0]) (rest := []) K hG hL hl.1 eq5 rfl (ctX11_get l H0 D ca M z a0 x3 0 v4 ev4) hdX11_get q_1014 q_1016 q_54 q_1017 q_20 ⟨Nat.le_of_ble_eq_true rfl, Nat.le_of_ble_eq_true rfl⟩ rfl rfl (Nat.le_of_ble_eq_true rfl) ⟨Nat.le_refl _, Nat.le_refl _⟩ dX11_aboard_17 (fun H locs hG hL => ?_)
    refine lv_iload_n K.1 K.2.1 dX11_aboard_20 rfl (lv_at hl 1 rfl) ?_
    refine lv_icmp_ne (tgt := 30) K.1 K.2.1 dX11_aboard_21 (by decide) (fun h6 => ?_) (fun h6 => ?_)
    · rw [if_neg h6] at hf
      exact wX11_aboard_30 K k4 hk4 a0 x1 x2 x3 _ _ _ hG hL (lv_sub hl [0, 1, 2, 3] rfl) _ hf
    · rw [if_pos h6] at hf
      refine lv_iload_n K.1 K.2.1 dX11_aboard_24 rfl (lv_at hl 2 rfl) ?_
      refine lv_iconst (v := 1) K.1 K.2.1 dX11_aboard_25 (by decide) ?_
      refine lv_iload_n K.1 K.2.1 dX11_aboard_26 rfl (lv_at hl 3 rfl) ?_
      refine lv_ishl K.1 K.2.1 dX11_aboard_27 ?_
      refine lv_ior K.1 K.2.1 dX11_aboard_28 ?_
      refine lv_istore_n (lv' := [(2, .int (x2 ||| (1 <<< (x3 &&& 31)))), (0, .ref a0), (1, .int x1), (3, .int x3)]) K.1 K.2.1 dX11_aboard_29 rfl hl (by decide) rfl (fun ls hl => ?_)
      exact wX11_aboard_30 K k4 hk4 a0 x1 (x2 ||| (1 <<< (x3 &&& 31))) x3 _ _ _ hG hL (lv_sub hl [1, 2, 0, 3] rfl) _ hf
theorem wX11_aboard_4 {p : Program} {l : Launch} {e : Env} {s : State} {m : MethodId} {args : Array Value} {below : List Frame} {meth : Method} {c : Code} {D : va_G} {ca : Nat → ClassId} {H0 : Heap} {M : ah_h} {z : Nat} (K : ah_K p s m args meth c D ca "ShipsThatMeetModel" cX11_aboard 4 (some .int))  (n : Nat) : ∀ (a0 : Nat) (x1 : Int32) (x2 : Int32) (x3 : Int32) (H : Heap) (locs : List Loc) (ls : Array Slot), ah_g H0 D ca M z H → ah_L H0 locs → lv_has ls 4 [(0, .ref a0), (1, .int x1), (2, .int x2), (3, .int x3)] → ∀ Z, fX11_aboard_4  M n a0 x1 x2 x3 = some Z → W p l e { frames := 1, cells := 0, slots := 0, locals := 22 } s m args below meth c H locs 0 0 (ah_Q below args s H0 D ca 0 0 (some (.int Z)) M z) (F0 m 4 ls []) := by
  induction n with
  | zero => intro a0 x1 x2 x3 H locs ls hG hL hl Z hf; cases hf
  | succ n ih => exact wX11_aboard_4_b K  _ ih
def fX11_aboard (M : ah_h) (a0 : Nat) (x1 : Int32) : Option (Int32) := (ah_ob M a0 11).bind fun _ => fX11_aboard_4 M ah_fu a0 x1 0 0
set_option maxRecDepth 100000 in
set_option maxHeartbeats 4000000 in
theorem ctX11_aboard (l : Launch) (H0 : Heap) (D : va_G) (ca : Nat → ClassId) (M : ah_h) (z : Nat) (a0 : Nat) (x1 : Int32) (Z : Int32) (hf : fX11_aboard M a0 x1 = some Z) : ah_ct l H0 D ca yX11_aboard cX11_aboard 4 (some .int) 1 22 0 0 [.ref a0, .int x1] M z (some (.int Z)) M z := by
  refine ah_of (by decide) (Nat.le_of_ble_eq_true rfl) ?_
  intro p e s m below meth c ls hin K hG hl
  have hL : ah_L H0 [] := ah_L.nil
  have hl : lv_has ls 4 [(0, .ref a0), (1, .int x1)] := hl
  unfold fX11_aboard at hf
  obtain ⟨-, -, hf⟩ := Option.bind_eq_some_iff.mp hf
  refine lv_iconst (v := 0) K.1 K.2.1 dX11_aboard_0 (by decide) ?_
  refine lv_istore_n (lv' := [(2, .int 0), (0, .ref a0), (1, .int x1)]) K.1 K.2.1 dX11_aboard_1 rfl hl (by decide) rfl (fun ls hl => ?_)
  refine lv_iconst (v := 0) K.1 K.2.1 dX11_aboard_2 (by decide) ?_
  refine lv_istore_n (lv' := [(3, .int 0), (2, .int 0), (0, .ref a0), (1, .int x1)]) K.1 K.2.1 dX11_aboard_3 rfl hl (by decide) rfl (fun ls hl => ?_)
  exact wX11_aboard_4 K  ah_fu a0 x1 0 0 _ _ _ hG hL (lv_sub hl [2, 3, 1, 0] rfl) _ hf
def fX11_bits_4_b  (k4 : Int32 → Int32 → Option (Int32)) (M : ah_h) (x1 : Int32) (x2 : Int32) : Option (Int32) := if x2 ≤ 0 then (some x1) else (k4 (x1 + (x2 &&& 1)) (x2 >>> (1 &&& 31)))
def fX11_bits_4  (M : ah_h) : Nat → Int32 → Int32 → Option (Int32)
  | 0 => fun _ _ => none
  | n + 1 => fun x1 x2 => fX11_bits_4_b  (fX11_bits_4  M n) M x1 x2
set_option maxRecDepth 100000 in
set_option maxHeartbeats 4000000 in
theorem wX11_bits_4_b {p : Program} {l : Launch} {e : Env} {s : State} {m : MethodId} {args : Array Value} {below : List Frame} {meth : Method} {c : Code} {D : va_G} {ca : Nat → ClassId} {H0 : Heap} {M : ah_h} {z : Nat} (K : ah_K p s m args meth c D ca "ShipsThatMeetModel" cX11_bits 3 (some .int))  (k4 : Int32 → Int32 → Option (Int32)) (hk4 : ∀ (x1 : Int32) (x2 : Int32) (H : Heap) (locs : List Loc) (ls : Array Slot), ah_g H0 D ca M z H → ah_L H0 locs → lv_has ls 3 [(1, .int x1), (2, .int x2)] → ∀ Z, k4 x1 x2 = some Z → W p l e { frames := 0, cells := 0, slots := 0, locals := 0 } s m args below meth c H locs 0 0 (ah_Q below args s H0 D ca 0 0 (some (.int Z)) M z) (F0 m 4 ls [])) : ∀ (x1 : Int32) (x2 : Int32) (H : Heap) (locs : List Loc) (ls : Array Slot), ah_g H0 D ca M z H → ah_L H0 locs → lv_has ls 3 [(1, .int x1), (2, .int x2)] → ∀ Z, fX11_bits_4_b  k4 M x1 x2 = some Z → W p l e { frames := 0, cells := 0, slots := 0, locals := 0 } s m args below meth c H locs 0 0 (ah_Q below args s H0 D ca 0 0 (some (.int Z)) M z) (F0 m 4 ls []) := by
  intro x1 x2 H locs ls hG hL hl Z hf
  unfold fX11_bits_4_b at hf
  refine lv_iload_n K.1 K.2.1 dX11_bits_4 rfl (lv_at hl 1 rfl) ?_
  refine lv_if_le (tgt := 21) K.1 K.2.1 dX11_bits_5 (by decide) (fun h1 => ?_) (fun h1 => ?_)
  · rw [if_pos h1] at hf
    refine lv_iload_n K.1 K.2.1 dX11_bits_21 rfl (lv_at hl 0 rfl) ?_
    cases hf
    exact ah_iret K hG hL (Nat.le_refl _) (Nat.le_refl _) dX11_bits_22
  · rw [if_neg h1] at hf
    refine lv_iload_n K.1 K.2.1 dX11_bits_8 rfl (lv_at hl 0 rfl) ?_
    refine lv_iload_n K.1 K.2.1 dX11_bits_9 rfl (lv_at hl 1 rfl) ?_
    refine lv_iconst (v := 1) K.1 K.2.1 dX11_bits_10 (by decide) ?_
    refine lv_iand K.1 K.2.1 dX11_bits_11 ?_
    refine lv_iadd K.1 K.2.1 dX11_bits_12 ?_
    refine lv_istore_n (lv' := [(1, .int (x1 + (x2 &&& 1))), (2, .int x2)]) K.1 K.2.1 dX11_bits_13 rfl hl (by decide) rfl (fun ls hl => ?_)
    refine lv_iload_n K.1 K.2.1 dX11_bits_14 rfl (lv_at hl 1 rfl) ?_
    refine lv_iconst (v := 1) K.1 K.2.1 dX11_bits_15 (by decide) ?_
    refine lv_ishr K.1 K.2.1 dX11_bits_16 ?_
    refine lv_istore_n (lv' := [(2, .int (x2 >>> (1 &&& 31))), (1, .int (x1 + (x2 &&& 1)))]) K.1 K.2.1 dX11_bits_17 rfl hl (by decide) rfl (fun ls hl => ?_)
    refine lv_goto (tgt := 4) K.1 K.2.1 dX11_bits_18 (by decide) ?_
    exact hk4 (x1 + (x2 &&& 1)) (x2 >>> (1 &&& 31)) _ _ _ hG hL (lv_sub hl [1, 0] rfl) _ hf
theorem wX11_bits_4 {p : Program} {l : Launch} {e : Env} {s : State} {m : MethodId} {args : Array Value} {below : List Frame} {meth : Method} {c : Code} {D : va_G} {ca : Nat → ClassId} {H0 : Heap} {M : ah_h} {z : Nat} (K : ah_K p s m args meth c D ca "ShipsThatMeetModel" cX11_bits 3 (some .int))  (n : Nat) : ∀ (x1 : Int32) (x2 : Int32) (H : Heap) (locs : List Loc) (ls : Array Slot), ah_g H0 D ca M z H → ah_L H0 locs → lv_has ls 3 [(1, .int x1), (2, .int x2)] → ∀ Z, fX11_bits_4  M n x1 x2 = some Z → W p l e { frames := 0, cells := 0, slots := 0, locals := 0 } s m args below meth c H locs 0 0 (ah_Q below args s H0 D ca 0 0 (some (.int Z)) M z) (F0 m 4 ls []) := by
  induction n with
  | zero => intro x1 x2 H locs ls hG hL hl Z hf; cases hf
  | succ n ih => exact wX11_bits_4_b K  _ ih
def fX11_bits (M : ah_h) (x0 : Int32) : Option (Int32) := fX11_bits_4 M ah_fu 0 x0
set_option maxRecDepth 100000 in
set_option maxHeartbeats 4000000 in
theorem ctX11_bits (l : Launch) (H0 : Heap) (D : va_G) (ca : Nat → ClassId) (M : ah_h) (z : Nat) (x0 : Int32) (Z : Int32) (hf : fX11_bits M x0 = some Z) : ah_ct l H0 D ca yX11_bits cX11_bits 3 (some .int) 0 0 0 0 [.int x0] M z (some (.int Z)) M z := by
  refine ah_of (by decide) (Nat.le_of_ble_eq_true rfl) ?_
  intro p e s m below meth c ls hin K hG hl
  have hL : ah_L H0 [] := ah_L.nil
  have hl : lv_has ls 3 [(0, .int x0)] := hl
  unfold fX11_bits at hf
  refine lv_iconst (v := 0) K.1 K.2.1 dX11_bits_0 (by decide) ?_
  refine lv_istore_n (lv' := [(1, .int 0), (0, .int x0)]) K.1 K.2.1 dX11_bits_1 rfl hl (by decide) rfl (fun ls hl => ?_)
  refine lv_iload_n K.1 K.2.1 dX11_bits_2 rfl (lv_at hl 1 rfl) ?_
  refine lv_istore_n (lv' := [(2, .int x0), (1, .int 0), (0, .int x0)]) K.1 K.2.1 dX11_bits_3 rfl hl (by decide) rfl (fun ls hl => ?_)
  exact wX11_bits_4 K  ah_fu 0 x0 _ _ _ hG hL (lv_sub hl [1, 0] rfl) _ hf
def fX7_hasPlace (M : ah_h) (a0 : Nat) (x1 : Int32) : Option (Int32) := (ah_ob M a0 7).bind fun _ => if x1 < 0 then (some 0) else ((ah_gi M a0 7 2).bind fun v2 => if v2 ≤ x1 then (some 0) else (some 1))
set_option maxRecDepth 100000 in
set_option maxHeartbeats 4000000 in
theorem ctX7_hasPlace (l : Launch) (H0 : Heap) (D : va_G) (ca : Nat → ClassId) (M : ah_h) (z : Nat) (a0 : Nat) (x1 : Int32) (Z : Int32) (hf : fX7_hasPlace M a0 x1 = some Z) : ah_ct l H0 D ca yX7_hasPlace cX7_hasPlace 2 (some .boolean) 0 0 0 0 [.ref a0, .int x1] M z (some (.int Z)) M z := by
  refine ah_of (by decide) (Nat.le_of_ble_eq_true rfl) ?_
  intro p e s m below meth c ls hin K hG hl
  have hL : ah_L H0 [] := ah_L.nil
  have hl : lv_has ls 2 [(0, .ref a0), (1, .int x1)] := hl
  unfold fX7_hasPlace at hf
  obtain ⟨-, -, hf⟩ := Option.bind_eq_some_iff.mp hf
  refine lv_iload_n K.1 K.2.1 dX7_hasPlace_0 rfl (lv_at hl 1 rfl) ?_
  refine lv_if_lt (tgt := 16) K.1 K.2.1 dX7_hasPlace_1 (by decide) (fun h1 => ?_) (fun h1 => ?_)
  · rw [if_pos h1] at hf
    refine lv_iconst (v := 0) K.1 K.2.1 dX7_hasPlace_16 (by decide) ?_
    cases hf
    exact ah_zret K hG hL (by decide) (Nat.le_refl _) (Nat.le_refl _) dX7_hasPlace_17
  · rw [if_neg h1] at hf
    refine lv_iload_n K.1 K.2.1 dX7_hasPlace_4 rfl (lv_at hl 1 rfl) ?_
    refine lv_aload_n K.1 K.2.1 dX7_hasPlace_5 rfl (lv_at hl 0 rfl) ?_
    obtain ⟨v2, ev2, hf⟩ := Option.bind_eq_some_iff.mp hf
    refine ah_geti K hG ev2 ffX7_19_7 dX7_hasPlace_6 ?_
    refine lv_icmp_ge (tgt := 16) K.1 K.2.1 dX7_hasPlace_9 (by decide) (fun h3 => ?_) (fun h3 => ?_)
    · rw [if_pos h3] at hf
      refine lv_iconst (v := 0) K.1 K.2.1 dX7_hasPlace_16 (by decide) ?_
      cases hf
      exact ah_zret K hG hL (by decide) (Nat.le_refl _) (Nat.le_refl _) dX7_hasPlace_17
    · rw [if_neg h3] at hf
      refine lv_iconst (v := 1) K.1 K.2.1 dX7_hasPlace_12 (by decide) ?_
      refine lv_goto (tgt := 17) K.1 K.2.1 dX7_hasPlace_13 (by decide) ?_
      cases hf
      exact ah_zret K hG hL (by decide) (Nat.le_refl _) (Nat.le_refl _) dX7_hasPlace_17
def fX7_at (M : ah_h) (a0 : Nat) (x1 : Int32) : Option (Int32) := (ah_ob M a0 7).bind fun _ => (fX7_hasPlace M a0 x1).bind fun v1 => if v1 = 0 then (some 0) else ((ah_gr M a0 7 3).bind fun v4 => (ah_ai M v4 x1).bind fun v5 => some v5)
set_option maxRecDepth 100000 in
set_option maxHeartbeats 4000000 in
theorem ctX7_at (l : Launch) (H0 : Heap) (D : va_G) (ca : Nat → ClassId) (M : ah_h) (z : Nat) (a0 : Nat) (x1 : Int32) (Z : Int32) (hf : fX7_at M a0 x1 = some Z) : ah_ct l H0 D ca yX7_at cX7_at 2 (some .int) 1 21 0 0 [.ref a0, .int x1] M z (some (.int Z)) M z := by
  refine ah_of (by decide) (Nat.le_of_ble_eq_true rfl) ?_
  intro p e s m below meth c ls hin K hG hl
  have hL : ah_L H0 [] := ah_L.nil
  have hl : lv_has ls 2 [(0, .ref a0), (1, .int x1)] := hl
  unfold fX7_at at hf
  obtain ⟨-, -, hf⟩ := Option.bind_eq_some_iff.mp hf
  refine lv_aload_n K.1 K.2.1 dX7_at_0 rfl (lv_at hl 0 rfl) ?_
  refine lv_iload_n K.1 K.2.1 dX7_at_1 rfl (lv_at hl 1 rfl) ?_
  obtain ⟨v1, ev1, hf⟩ := Option.bind_eq_some_iff.mp hf
  obtain ⟨q2, eq2⟩ := ah_this ev1
  refine ah_callV (As := [.int x1]) (rest := []) K hG hL hl.1 eq2 rfl (ctX7_hasPlace l H0 D ca M z a0 x1 v1 ev1) hdX7_hasPlace q_236 q_237 q_53 q_239 q_238 ⟨Nat.le_of_ble_eq_true rfl, Nat.le_of_ble_eq_true rfl⟩ rfl rfl (Nat.le_of_ble_eq_true rfl) ⟨Nat.le_refl _, Nat.le_refl _⟩ dX7_at_2 (fun H locs hG hL => ?_)
  refine lv_if_eq (tgt := 17) K.1 K.2.1 dX7_at_5 (by decide) (fun h3 => ?_) (fun h3 => ?_)
  · rw [if_pos h3] at hf
    refine lv_iconst (v := 0) K.1 K.2.1 dX7_at_17 (by decide) ?_
    cases hf
    exact ah_iret K hG hL (Nat.le_refl _) (Nat.le_refl _) dX7_at_18
  · rw [if_neg h3] at hf
    refine lv_aload_n K.1 K.2.1 dX7_at_8 rfl (lv_at hl 0 rfl) ?_
    obtain ⟨v4, ev4, hf⟩ := Option.bind_eq_some_iff.mp hf
    refine ah_getr K hG ev4 ffX7_22_7 dX7_at_9 ?_
    refine lv_iload_n K.1 K.2.1 dX7_at_12 rfl (lv_at hl 1 rfl) ?_
    obtain ⟨v5, ev5, hf⟩ := Option.bind_eq_some_iff.mp hf
    refine ah_iald K hG ev5 dX7_at_13 ?_
    refine lv_goto (tgt := 18) K.1 K.2.1 dX7_at_14 (by decide) ?_
    cases hf
    exact ah_iret K hG hL (Nat.le_refl _) (Nat.le_refl _) dX7_at_18
def fX11_copies_2_b  (k2 : ah_h → Nat → Nat → Int32 → Option (ah_h))  (M : ah_h) (a0 : Nat) (a1 : Nat) (x2 : Int32) : Option (ah_h) := if 73 ≤ x2 then (some M) else ((ah_ai M a0 x2).bind fun v2 => (ah_si M a1 x2 v2).bind fun M3 => k2 M3 a0 a1 (x2 + 1))
def fX11_copies_2   : Nat → ah_h → Nat → Nat → Int32 → Option (ah_h)
  | 0 => fun _ _ _ _ => none
  | n + 1 => fun M a0 a1 x2 => fX11_copies_2_b  (fX11_copies_2   n)  M a0 a1 x2
set_option maxRecDepth 100000 in
set_option maxHeartbeats 4000000 in
theorem wX11_copies_2_b {p : Program} {l : Launch} {e : Env} {s : State} {m : MethodId} {args : Array Value} {below : List Frame} {meth : Method} {c : Code} {D : va_G} {ca : Nat → ClassId} {H0 : Heap} {z : Nat} (K : ah_K p s m args meth c D ca "ShipsThatMeetModel" cX11_copies 3 none)  (k2 : ah_h → Nat → Nat → Int32 → Option (ah_h)) (hk2 : ∀ (M : ah_h) (a0 : Nat) (a1 : Nat) (x2 : Int32) (H : Heap) (locs : List Loc) (ls : Array Slot), ah_g H0 D ca M z H → ah_L H0 locs → lv_has ls 3 [(0, .ref a0), (1, .ref a1), (2, .int x2)] → ∀ Z, k2 M a0 a1 x2 = some Z → W p l e { frames := 0, cells := 0, slots := 0, locals := 0 } s m args below meth c H locs 0 0 (ah_Q below args s H0 D ca 0 0 none Z z) (F0 m 2 ls [])) : ∀ (M : ah_h) (a0 : Nat) (a1 : Nat) (x2 : Int32) (H : Heap) (locs : List Loc) (ls : Array Slot), ah_g H0 D ca M z H → ah_L H0 locs → lv_has ls 3 [(0, .ref a0), (1, .ref a1), (2, .int x2)] → ∀ Z, fX11_copies_2_b  k2  M a0 a1 x2 = some Z → W p l e { frames := 0, cells := 0, slots := 0, locals := 0 } s m args below meth c H locs 0 0 (ah_Q below args s H0 D ca 0 0 none Z z) (F0 m 2 ls []) := by
  intro M a0 a1 x2 H locs ls hG hL hl Z hf
  unfold fX11_copies_2_b at hf
  refine lv_iload_n K.1 K.2.1 dX11_copies_2 rfl (lv_at hl 2 rfl) ?_
  refine lv_bipush (v := 73) K.1 K.2.1 dX11_copies_3 (by decide) ?_
  refine lv_icmp_ge (tgt := 20) K.1 K.2.1 dX11_copies_5 (by decide) (fun h1 => ?_) (fun h1 => ?_)
  · rw [if_pos h1] at hf
    cases hf
    exact ah_vret K hG hL (Nat.le_refl _) (Nat.le_refl _) dX11_copies_20
  · rw [if_neg h1] at hf
    refine lv_aload_n K.1 K.2.1 dX11_copies_8 rfl (lv_at hl 1 rfl) ?_
    refine lv_iload_n K.1 K.2.1 dX11_copies_9 rfl (lv_at hl 2 rfl) ?_
    refine lv_aload_n K.1 K.2.1 dX11_copies_10 rfl (lv_at hl 0 rfl) ?_
    refine lv_iload_n K.1 K.2.1 dX11_copies_11 rfl (lv_at hl 2 rfl) ?_
    obtain ⟨v2, ev2, hf⟩ := Option.bind_eq_some_iff.mp hf
    refine ah_iald K hG ev2 dX11_copies_12 ?_
    obtain ⟨M3, eM3, hf⟩ := Option.bind_eq_some_iff.mp hf
    refine ah_iast K hG hL eM3 dX11_copies_13 (fun H locs hG hL => ?_)
    refine lv_iinc (v := x2 + 1) (lv' := [(2, .int (x2 + 1)), (0, .ref a0), (1, .ref a1)]) K.1 K.2.1 dX11_copies_14 hl (k := 2) rfl rfl (by decide) rfl (fun ls hl => ?_)
    refine lv_goto (tgt := 2) K.1 K.2.1 dX11_copies_17 (by decide) ?_
    exact hk2 M3 a0 a1 (x2 + 1) _ _ _ hG hL (lv_sub hl [1, 2, 0] rfl) _ hf
theorem wX11_copies_2 {p : Program} {l : Launch} {e : Env} {s : State} {m : MethodId} {args : Array Value} {below : List Frame} {meth : Method} {c : Code} {D : va_G} {ca : Nat → ClassId} {H0 : Heap} {z : Nat} (K : ah_K p s m args meth c D ca "ShipsThatMeetModel" cX11_copies 3 none)  (n : Nat) : ∀ (M : ah_h) (a0 : Nat) (a1 : Nat) (x2 : Int32) (H : Heap) (locs : List Loc) (ls : Array Slot), ah_g H0 D ca M z H → ah_L H0 locs → lv_has ls 3 [(0, .ref a0), (1, .ref a1), (2, .int x2)] → ∀ Z, fX11_copies_2   n M a0 a1 x2 = some Z → W p l e { frames := 0, cells := 0, slots := 0, locals := 0 } s m args below meth c H locs 0 0 (ah_Q below args s H0 D ca 0 0 none Z z) (F0 m 2 ls []) := by
  induction n with
  | zero => intro M a0 a1 x2 H locs ls hG hL hl Z hf; cases hf
  | succ n ih => exact wX11_copies_2_b K  _ ih
def fX11_copies (M : ah_h) (x0 : Nat) (x1 : Nat) : Option (ah_h) := fX11_copies_2 ah_fu M x0 x1 0
set_option maxRecDepth 100000 in
set_option maxHeartbeats 4000000 in
theorem ctX11_copies (l : Launch) (H0 : Heap) (D : va_G) (ca : Nat → ClassId) (M : ah_h) (z : Nat) (x0 : Nat) (x1 : Nat) (Z : ah_h) (hf : fX11_copies M x0 x1 = some Z) : ah_ct l H0 D ca yX11_copies cX11_copies 3 none 0 0 0 0 [.ref x0, .ref x1] M z none Z z := by
  refine ah_of (by decide) (Nat.le_of_ble_eq_true rfl) ?_
  intro p e s m below meth c ls hin K hG hl
  have hL : ah_L H0 [] := ah_L.nil
  have hl : lv_has ls 3 [(0, .ref x0), (1, .ref x1)] := hl
  unfold fX11_copies at hf
  refine lv_iconst (v := 0) K.1 K.2.1 dX11_copies_0 (by decide) ?_
  refine lv_istore_n (lv' := [(2, .int 0), (0, .ref x0), (1, .ref x1)]) K.1 K.2.1 dX11_copies_1 rfl hl (by decide) rfl (fun ls hl => ?_)
  exact wX11_copies_2 K  ah_fu M x0 x1 0 _ _ _ hG hL (lv_sub hl [1, 2, 0] rfl) _ hf
def fX11_sails_47 (k8 : ah_h → Nat → Int32 → Int32 → Option (ah_h))  (M : ah_h) (a0 : Nat) (x2 : Int32) (x3 : Int32) : Option (ah_h) := k8 M a0 x2 (x3 + 1)
set_option maxRecDepth 100000 in
set_option maxHeartbeats 4000000 in
theorem wX11_sails_47 {p : Program} {l : Launch} {e : Env} {s : State} {m : MethodId} {args : Array Value} {below : List Frame} {meth : Method} {c : Code} {D : va_G} {ca : Nat → ClassId} {H0 : Heap} {z : Nat} (K : ah_K p s m args meth c D ca "ShipsThatMeetModel" cX11_sails 4 none) (k8 : ah_h → Nat → Int32 → Int32 → Option (ah_h)) (hk8 : ∀ (M : ah_h) (a0 : Nat) (x2 : Int32) (x3 : Int32) (H : Heap) (locs : List Loc) (ls : Array Slot), ah_g H0 D ca M z H → ah_L H0 locs → lv_has ls 4 [(0, .ref a0), (2, .int x2), (3, .int x3)] → ∀ Z, k8 M a0 x2 x3 = some Z → W p l e { frames := 2, cells := 0, slots := 0, locals := 45 } s m args below meth c H locs 0 0 (ah_Q below args s H0 D ca 0 0 none Z z) (F0 m 8 ls [])) : ∀ (M : ah_h) (a0 : Nat) (x2 : Int32) (x3 : Int32) (H : Heap) (locs : List Loc) (ls : Array Slot), ah_g H0 D ca M z H → ah_L H0 locs → lv_has ls 4 [(0, .ref a0), (2, .int x2), (3, .int x3)] → ∀ Z, fX11_sails_47 k8  M a0 x2 x3 = some Z → W p l e { frames := 2, cells := 0, slots := 0, locals := 45 } s m args below meth c H locs 0 0 (ah_Q below args s H0 D ca 0 0 none Z z) (F0 m 47 ls []) := by
  intro M a0 x2 x3 H locs ls hG hL hl Z hf
  unfold fX11_sails_47 at hf
  refine lv_iinc (v := x3 + 1) (lv' := [(3, .int (x3 + 1)), (0, .ref a0), (2, .int x2)]) K.1 K.2.1 dX11_sails_47 hl (k := 2) rfl rfl (by decide) rfl (fun ls hl => ?_)
  refine lv_goto (tgt := 8) K.1 K.2.1 dX11_sails_50 (by decide) ?_
  exact hk8 M a0 x2 (x3 + 1) _ _ _ hG hL (lv_sub hl [1, 2, 0] rfl) _ hf
def fX11_sails_8_b  (k8 : ah_h → Nat → Int32 → Int32 → Option (ah_h))  (M : ah_h) (a0 : Nat) (x2 : Int32) (x3 : Int32) : Option (ah_h) := (ah_gr M a0 11 0).bind fun v1 => (ah_ai M v1 1).bind fun v2 => if v2 ≤ x3 then (some M) else (if ((x2 >>> (x3 &&& 31)) &&& 1) = 1 then ((fX11_get M a0 x3 4).bind fun v5 => (fX11_puts M a0 x3 4 (v5 ||| (x2 &&& ((1 <<< (x3 &&& 31)) ^^^ (-1))))).bind fun v7 => fX11_sails_47 k8 v7 a0 x2 x3) else (fX11_sails_47 k8 M a0 x2 x3))
def fX11_sails_8   : Nat → ah_h → Nat → Int32 → Int32 → Option (ah_h)
  | 0 => fun _ _ _ _ => none
  | n + 1 => fun M a0 x2 x3 => fX11_sails_8_b  (fX11_sails_8   n)  M a0 x2 x3
set_option maxRecDepth 100000 in
set_option maxHeartbeats 4000000 in
theorem wX11_sails_8_b {p : Program} {l : Launch} {e : Env} {s : State} {m : MethodId} {args : Array Value} {below : List Frame} {meth : Method} {c : Code} {D : va_G} {ca : Nat → ClassId} {H0 : Heap} {z : Nat} (K : ah_K p s m args meth c D ca "ShipsThatMeetModel" cX11_sails 4 none)  (k8 : ah_h → Nat → Int32 → Int32 → Option (ah_h)) (hk8 : ∀ (M : ah_h) (a0 : Nat) (x2 : Int32) (x3 : Int32) (H : Heap) (locs : List Loc) (ls : Array Slot), ah_g H0 D ca M z H → ah_L H0 locs → lv_has ls 4 [(0, .ref a0), (2, .int x2), (3, .int x3)] → ∀ Z, k8 M a0 x2 x3 = some Z → W p l e { frames := 2, cells := 0, slots := 0, locals := 45 } s m args below meth c H locs 0 0 (ah_Q below args s H0 D ca 0 0 none Z z) (F0 m 8 ls [])) : ∀ (M : ah_h) (a0 : Nat) (x2 : Int32) (x3 : Int32) (H : Heap) (locs : List Loc) (ls : Array Slot), ah_g H0 D ca M z H → ah_L H0 locs → lv_has ls 4 [(0, .ref a0), (2, .int x2), (3, .int x3)] → ∀ Z, fX11_sails_8_b  k8  M a0 x2 x3 = some Z → W p l e { frames := 2, cells := 0, slots := 0, locals := 45 } s m args below meth c H locs 0 0 (ah_Q below args s H0 D ca 0 0 none Z z) (F0 m 8 ls []) := by
  intro M a0 x2 x3 H locs ls hG hL hl Z hf
  unfold fX11_sails_8_b at hf
  refine lv_iload_n K.1 K.2.1 dX11_sails_8 rfl (lv_at hl 2 rfl) ?_
  refine lv_aload_n K.1 K.2.1 dX11_sails_9 rfl (lv_at hl 0 rfl) ?_
  obtain ⟨v1, ev1, hf⟩ := Option.bind_eq_some_iff.mp hf
  refine ah_getr K hG ev1 ffX11_9_11 dX11_sails_10 ?_
  refine lv_iconst (v := 1) K.1 K.2.1 dX11_sails_13 (by decide) ?_
  obtain ⟨v2, ev2, hf⟩ := Option.bind_eq_some_iff.mp hf
  refine ah_iald K hG ev2 dX11_sails_14 ?_
  refine lv_icmp_ge (tgt := 53) K.1 K.2.1 dX11_sails_15 (by decide) (fun h3 => ?_) (fun h3 => ?_)
  · rw [if_pos h3] at hf
    cases hf
    exact ah_vret K hG hL (Nat.le_refl _) (Nat.le_refl _) dX11_sails_53
  · rw [if_neg h3] at hf
    refine lv_iload_n K.1 K.2.1 dX11_sails_18 rfl (lv_at hl 1 rfl) ?_
    refine lv_iload_n K.1 K.2.1 dX11_sails_19 rfl (lv_at hl 2 rfl) ?_
    refine lv_ishr K.1 K.2.1 dX11_sails_20 ?_
    refine lv_iconst (v := 1) K.1 K.2.1 dX11_sails_21 (by decide) ?_
    refine lv_iand K.1 K.2.1 dX11_sails_22 ?_
    refine lv_iconst (v := 1) K.1 K.2.1 dX11_sails_23 (by decide) ?_
    refine lv_icmp_ne (tgt := 47) K.1 K.2.1 dX11_sails_24 (by decide) (fun h4 => ?_) (fun h4 => ?_)
    · rw [if_neg h4] at hf
      exact wX11_sails_47 K k8 hk8 M a0 x2 x3 _ _ _ hG hL (lv_sub hl [0, 1, 2] rfl) _ hf
    · rw [if_pos h4] at hf
      refine lv_aload_n K.1 K.2.1 dX11_sails_27 rfl (lv_at hl 0 rfl) ?_
      refine lv_iload_n K.1 K.2.1 dX11_sails_28 rfl (lv_at hl 2 rfl) ?_
      refine lv_iconst (v := 4) K.1 K.2.1 dX11_sails_29 (by decide) ?_
      refine lv_aload_n K.1 K.2.1 dX11_sails_30 rfl (lv_at hl 0 rfl) ?_
      refine lv_iload_n K.1 K.2.1 dX11_sails_31 rfl (lv_at hl 2 rfl) ?_
      refine lv_iconst (v := 4) K.1 K.2.1 dX11_sails_32 (by decide) ?_
      obtain ⟨v5, ev5, hf⟩ := Option.bind_eq_some_iff.mp hf
      obtain ⟨q6, eq6⟩ := ah_this ev5
      refine ah_callV (As := [.int x3, .int 4]) (rest := [.int 4, .int x3, .ref a0]) K hG hL hl.1 eq6 rfl (ctX11_get l H0 D ca M z a0 x3 4 v5 ev5) hdX11_get q_1014 q_1016 q_54 q_1017 q_20 ⟨Nat.le_of_ble_eq_true rfl, Nat.le_of_ble_eq_true rfl⟩ rfl rfl (Nat.le_of_ble_eq_true rfl) ⟨Nat.le_refl _, Nat.le_refl _⟩ dX11_sails_33 (fun H locs hG hL => ?_)
      refine lv_iload_n K.1 K.2.1 dX11_sails_36 rfl (lv_at hl 1 rfl) ?_
      refine lv_iconst (v := 1) K.1 K.2.1 dX11_sails_37 (by decide) ?_
      refine lv_iload_n K.1 K.2.1 dX11_sails_38 rfl (lv_at hl 2 rfl) ?_
      refine lv_ishl K.1 K.2.1 dX11_sails_39 ?_
      refine lv_iconst (v := (-1)) K.1 K.2.1 dX11_sails_40 (by decide) ?_
      refine lv_ixor K.1 K.2.1 dX11_sails_41 ?_
      refine lv_iand K.1 K.2.1 dX11_sails_42 ?_
      refine lv_ior K.1 K.2.1 dX11_sails_43 ?_
      obtain ⟨v7, ev7, hf⟩ := Option.bind_eq_some_iff.mp hf
      obtain ⟨q8, eq8⟩ := ah_this ev7
      refine ah_callV (As := [.int x3, .int 4, .int (v5 ||| (x2 &&& ((1 <<< (x3 &&& 31)) ^^^ (-1))))]) (rest := []) K hG hL hl.1 eq8 rfl (ctX11_puts l H0 D ca M z a0 x3 4 (v5 ||| (x2 &&& ((1 <<< (x3 &&& 31)) ^^^ (-1)))) v7 ev7) hdX11_puts q_1002 q_1004 q_54 q_1005 q_17 ⟨Nat.le_of_ble_eq_true rfl, Nat.le_of_ble_eq_true rfl⟩ rfl rfl (Nat.le_of_ble_eq_true rfl) ⟨Nat.le_refl _, Nat.le_refl _⟩ dX11_sails_44 (fun H locs hG hL => ?_)
      exact wX11_sails_47 K k8 hk8 v7 a0 x2 x3 _ _ _ hG hL (lv_sub hl [0, 1, 2] rfl) _ hf
theorem wX11_sails_8 {p : Program} {l : Launch} {e : Env} {s : State} {m : MethodId} {args : Array Value} {below : List Frame} {meth : Method} {c : Code} {D : va_G} {ca : Nat → ClassId} {H0 : Heap} {z : Nat} (K : ah_K p s m args meth c D ca "ShipsThatMeetModel" cX11_sails 4 none)  (n : Nat) : ∀ (M : ah_h) (a0 : Nat) (x2 : Int32) (x3 : Int32) (H : Heap) (locs : List Loc) (ls : Array Slot), ah_g H0 D ca M z H → ah_L H0 locs → lv_has ls 4 [(0, .ref a0), (2, .int x2), (3, .int x3)] → ∀ Z, fX11_sails_8   n M a0 x2 x3 = some Z → W p l e { frames := 2, cells := 0, slots := 0, locals := 45 } s m args below meth c H locs 0 0 (ah_Q below args s H0 D ca 0 0 none Z z) (F0 m 8 ls []) := by
  induction n with
  | zero => intro M a0 x2 x3 H locs ls hG hL hl Z hf; cases hf
  | succ n ih => exact wX11_sails_8_b K  _ ih
def fX11_sails (M : ah_h) (a0 : Nat) (x1 : Int32) : Option (ah_h) := (ah_ob M a0 11).bind fun _ => (fX11_aboard M a0 x1).bind fun v1 => fX11_sails_8 ah_fu M a0 v1 0
set_option maxRecDepth 100000 in
set_option maxHeartbeats 4000000 in
theorem ctX11_sails (l : Launch) (H0 : Heap) (D : va_G) (ca : Nat → ClassId) (M : ah_h) (z : Nat) (a0 : Nat) (x1 : Int32) (Z : ah_h) (hf : fX11_sails M a0 x1 = some Z) : ah_ct l H0 D ca yX11_sails cX11_sails 4 none 2 45 0 0 [.ref a0, .int x1] M z none Z z := by
  refine ah_of (by decide) (Nat.le_of_ble_eq_true rfl) ?_
  intro p e s m below meth c ls hin K hG hl
  have hL : ah_L H0 [] := ah_L.nil
  have hl : lv_has ls 4 [(0, .ref a0), (1, .int x1)] := hl
  unfold fX11_sails at hf
  obtain ⟨-, -, hf⟩ := Option.bind_eq_some_iff.mp hf
  refine lv_aload_n K.1 K.2.1 dX11_sails_0 rfl (lv_at hl 0 rfl) ?_
  refine lv_iload_n K.1 K.2.1 dX11_sails_1 rfl (lv_at hl 1 rfl) ?_
  obtain ⟨v1, ev1, hf⟩ := Option.bind_eq_some_iff.mp hf
  obtain ⟨q2, eq2⟩ := ah_this ev1
  refine ah_callV (As := [.int x1]) (rest := []) K hG hL hl.1 eq2 rfl (ctX11_aboard l H0 D ca M z a0 x1 v1 ev1) hdX11_aboard q_1010 q_1012 q_54 q_1013 q_19 ⟨Nat.le_of_ble_eq_true rfl, Nat.le_of_ble_eq_true rfl⟩ rfl rfl (Nat.le_of_ble_eq_true rfl) ⟨Nat.le_refl _, Nat.le_refl _⟩ dX11_sails_2 (fun H locs hG hL => ?_)
  refine lv_istore_n (lv' := [(2, .int v1), (0, .ref a0), (1, .int x1)]) K.1 K.2.1 dX11_sails_5 rfl hl (by decide) rfl (fun ls hl => ?_)
  refine lv_iconst (v := 0) K.1 K.2.1 dX11_sails_6 (by decide) ?_
  refine lv_istore_n (lv' := [(3, .int 0), (2, .int v1), (0, .ref a0), (1, .int x1)]) K.1 K.2.1 dX11_sails_7 rfl hl (by decide) rfl (fun ls hl => ?_)
  exact wX11_sails_8 K  ah_fu M a0 v1 0 _ _ _ hG hL (lv_sub hl [2, 1, 0] rfl) _ hf
def fX11_never_18_b (k4 : Nat → Int32 → Int32 → Option (Int32)) (k18 : Nat → Int32 → Int32 → Int32 → Option (Int32)) (M : ah_h) (a0 : Nat) (x1 : Int32) (x2 : Int32) (x3 : Int32) : Option (Int32) := (ah_gr M a0 11 0).bind fun v1 => (ah_ai M v1 1).bind fun v2 => if v2 ≤ x3 then (k4 a0 x1 (x2 + 1)) else ((fX11_get M a0 x2 4).bind fun v4 => k18 a0 (x1 + (1 - ((v4 >>> (x3 &&& 31)) &&& 1))) x2 (x3 + 1))
def fX11_never_18 (k4 : Nat → Int32 → Int32 → Option (Int32)) (M : ah_h) : Nat → Nat → Int32 → Int32 → Int32 → Option (Int32)
  | 0 => fun _ _ _ _ => none
  | n + 1 => fun a0 x1 x2 x3 => fX11_never_18_b k4 (fX11_never_18 k4 M n) M a0 x1 x2 x3
set_option maxRecDepth 100000 in
set_option maxHeartbeats 4000000 in
theorem wX11_never_18_b {p : Program} {l : Launch} {e : Env} {s : State} {m : MethodId} {args : Array Value} {below : List Frame} {meth : Method} {c : Code} {D : va_G} {ca : Nat → ClassId} {H0 : Heap} {M : ah_h} {z : Nat} (K : ah_K p s m args meth c D ca "ShipsThatMeetModel" cX11_never 4 (some .int)) (k4 : Nat → Int32 → Int32 → Option (Int32)) (hk4 : ∀ (a0 : Nat) (x1 : Int32) (x2 : Int32) (H : Heap) (locs : List Loc) (ls : Array Slot), ah_g H0 D ca M z H → ah_L H0 locs → lv_has ls 4 [(0, .ref a0), (1, .int x1), (2, .int x2)] → ∀ Z, k4 a0 x1 x2 = some Z → W p l e { frames := 1, cells := 0, slots := 0, locals := 22 } s m args below meth c H locs 0 0 (ah_Q below args s H0 D ca 0 0 (some (.int Z)) M z) (F0 m 4 ls [])) (k18 : Nat → Int32 → Int32 → Int32 → Option (Int32)) (hk18 : ∀ (a0 : Nat) (x1 : Int32) (x2 : Int32) (x3 : Int32) (H : Heap) (locs : List Loc) (ls : Array Slot), ah_g H0 D ca M z H → ah_L H0 locs → lv_has ls 4 [(0, .ref a0), (1, .int x1), (2, .int x2), (3, .int x3)] → ∀ Z, k18 a0 x1 x2 x3 = some Z → W p l e { frames := 1, cells := 0, slots := 0, locals := 22 } s m args below meth c H locs 0 0 (ah_Q below args s H0 D ca 0 0 (some (.int Z)) M z) (F0 m 18 ls [])) : ∀ (a0 : Nat) (x1 : Int32) (x2 : Int32) (x3 : Int32) (H : Heap) (locs : List Loc) (ls : Array Slot), ah_g H0 D ca M z H → ah_L H0 locs → lv_has ls 4 [(0, .ref a0), (1, .int x1), (2, .int x2), (3, .int x3)] → ∀ Z, fX11_never_18_b k4 k18 M a0 x1 x2 x3 = some Z → W p l e { frames := 1, cells := 0, slots := 0, locals := 22 } s m args below meth c H locs 0 0 (ah_Q below args s H0 D ca 0 0 (some (.int Z)) M z) (F0 m 18 ls []) := by
  intro a0 x1 x2 x3 H locs ls hG hL hl Z hf
  unfold fX11_never_18_b at hf
  refine lv_iload_n K.1 K.2.1 dX11_never_18 rfl (lv_at hl 3 rfl) ?_
  refine lv_aload_n K.1 K.2.1 dX11_never_19 rfl (lv_at hl 0 rfl) ?_
  obtain ⟨v1, ev1, hf⟩ := Option.bind_eq_some_iff.mp hf
  refine ah_getr K hG ev1 ffX11_9_11 dX11_never_20 ?_
  refine lv_iconst (v := 1) K.1 K.2.1 dX11_never_23 (by decide) ?_
  obtain ⟨v2, ev2, hf⟩ := Option.bind_eq_some_iff.mp hf
  refine ah_iald K hG ev2 dX11_never_24 ?_
  refine lv_icmp_ge (tgt := 49) K.1 K.2.1 dX11_never_25 (by decide) (fun h3 => ?_) (fun h3 => ?_)
  · rw [if_pos h3] at hf
    refine lv_iinc (v := x2 + 1) (lv' := [(2, .int (x2 + 1)), (0, .ref a0), (1, .int x1), (3, .int x3)]) K.1 K.2.1 dX11_never_49 hl (k := 2) rfl rfl (by decide) rfl (fun ls hl => ?_)
    refine lv_goto (tgt := 4) K.1 K.2.1 dX11_never_52 (by decide) ?_
    exact hk4 a0 x1 (x2 + 1) _ _ _ hG hL (lv_sub hl [1, 2, 0] rfl) _ hf
  · rw [if_neg h3] at hf
    refine lv_iload_n K.1 K.2.1 dX11_never_28 rfl (lv_at hl 1 rfl) ?_
    refine lv_iconst (v := 1) K.1 K.2.1 dX11_never_29 (by decide) ?_
    refine lv_aload_n K.1 K.2.1 dX11_never_30 rfl (lv_at hl 0 rfl) ?_
    refine lv_iload_n K.1 K.2.1 dX11_never_31 rfl (lv_at hl 2 rfl) ?_
    refine lv_iconst (v := 4) K.1 K.2.1 dX11_never_32 (by decide) ?_
    obtain ⟨v4, ev4, hf⟩ := Option.bind_eq_some_iff.mp hf
    obtain ⟨q5, eq5⟩ := ah_this ev4
    refine ah_callV (As := [.int x2, .int 4]) (rest := [.int 1, .int x1]) K hG hL hl.1 eq5 rfl (ctX11_get l H0 D ca M z a0 x2 4 v4 ev4) hdX11_get q_1014 q_1016 q_54 q_1017 q_20 ⟨Nat.le_of_ble_eq_true rfl, Nat.le_of_ble_eq_true rfl⟩ rfl rfl (Nat.le_of_ble_eq_true rfl) ⟨Nat.le_refl _, Nat.le_refl _⟩ dX11_never_33 (fun H locs hG hL => ?_)
    refine lv_iload_n K.1 K.2.1 dX11_never_36 rfl (lv_at hl 3 rfl) ?_
    refine lv_ishr K.1 K.2.1 dX11_never_37 ?_
    refine lv_iconst (v := 1) K.1 K.2.1 dX11_never_38 (by decide) ?_
    refine lv_iand K.1 K.2.1 dX11_never_39 ?_
    refine lv_isub K.1 K.2.1 dX11_never_40 ?_
    refine lv_iadd K.1 K.2.1 dX11_never_41 ?_
    refine lv_istore_n (lv' := [(1, .int (x1 + (1 - ((v4 >>> (x3 &&& 31)) &&& 1)))), (0, .ref a0), (2, .int x2), (3, .int x3)]) K.1 K.2.1 dX11_never_42 rfl hl (by decide) rfl (fun ls hl => ?_)
    refine lv_iinc (v := x3 + 1) (lv' := [(3, .int (x3 + 1)), (1, .int (x1 + (1 - ((v4 >>> (x3 &&& 31)) &&& 1)))), (0, .ref a0), (2, .int x2)]) K.1 K.2.1 dX11_never_43 hl (k := 3) rfl rfl (by decide) rfl (fun ls hl => ?_)
    refine lv_goto (tgt := 18) K.1 K.2.1 dX11_never_46 (by decide) ?_
    exact hk18 a0 (x1 + (1 - ((v4 >>> (x3 &&& 31)) &&& 1))) x2 (x3 + 1) _ _ _ hG hL (lv_sub hl [2, 1, 3, 0] rfl) _ hf
theorem wX11_never_18 {p : Program} {l : Launch} {e : Env} {s : State} {m : MethodId} {args : Array Value} {below : List Frame} {meth : Method} {c : Code} {D : va_G} {ca : Nat → ClassId} {H0 : Heap} {M : ah_h} {z : Nat} (K : ah_K p s m args meth c D ca "ShipsThatMeetModel" cX11_never 4 (some .int)) (k4 : Nat → Int32 → Int32 → Option (Int32)) (hk4 : ∀ (a0 : Nat) (x1 : Int32) (x2 : Int32) (H : Heap) (locs : List Loc) (ls : Array Slot), ah_g H0 D ca M z H → ah_L H0 locs → lv_has ls 4 [(0, .ref a0), (1, .int x1), (2, .int x2)] → ∀ Z, k4 a0 x1 x2 = some Z → W p l e { frames := 1, cells := 0, slots := 0, locals := 22 } s m args below meth c H locs 0 0 (ah_Q below args s H0 D ca 0 0 (some (.int Z)) M z) (F0 m 4 ls [])) (n : Nat) : ∀ (a0 : Nat) (x1 : Int32) (x2 : Int32) (x3 : Int32) (H : Heap) (locs : List Loc) (ls : Array Slot), ah_g H0 D ca M z H → ah_L H0 locs → lv_has ls 4 [(0, .ref a0), (1, .int x1), (2, .int x2), (3, .int x3)] → ∀ Z, fX11_never_18 k4 M n a0 x1 x2 x3 = some Z → W p l e { frames := 1, cells := 0, slots := 0, locals := 22 } s m args below meth c H locs 0 0 (ah_Q below args s H0 D ca 0 0 (some (.int Z)) M z) (F0 m 18 ls []) := by
  induction n with
  | zero => intro a0 x1 x2 x3 H locs ls hG hL hl Z hf; cases hf
  | succ n ih => exact wX11_never_18_b K k4 hk4 _ ih
def fX11_never_4_b  (k4 : Nat → Int32 → Int32 → Option (Int32)) (M : ah_h) (a0 : Nat) (x1 : Int32) (x2 : Int32) : Option (Int32) := (ah_gr M a0 11 0).bind fun v1 => (ah_ai M v1 1).bind fun v2 => if v2 ≤ x2 then (some x1) else (fX11_never_18 k4 M ah_fu a0 x1 x2 (x2 + 1))
def fX11_never_4  (M : ah_h) : Nat → Nat → Int32 → Int32 → Option (Int32)
  | 0 => fun _ _ _ => none
  | n + 1 => fun a0 x1 x2 => fX11_never_4_b  (fX11_never_4  M n) M a0 x1 x2
set_option maxRecDepth 100000 in
set_option maxHeartbeats 4000000 in
theorem wX11_never_4_b {p : Program} {l : Launch} {e : Env} {s : State} {m : MethodId} {args : Array Value} {below : List Frame} {meth : Method} {c : Code} {D : va_G} {ca : Nat → ClassId} {H0 : Heap} {M : ah_h} {z : Nat} (K : ah_K p s m args meth c D ca "ShipsThatMeetModel" cX11_never 4 (some .int))  (k4 : Nat → Int32 → Int32 → Option (Int32)) (hk4 : ∀ (a0 : Nat) (x1 : Int32) (x2 : Int32) (H : Heap) (locs : List Loc) (ls : Array Slot), ah_g H0 D ca M z H → ah_L H0 locs → lv_has ls 4 [(0, .ref a0), (1, .int x1), (2, .int x2)] → ∀ Z, k4 a0 x1 x2 = some Z → W p l e { frames := 1, cells := 0, slots := 0, locals := 22 } s m args below meth c H locs 0 0 (ah_Q below args s H0 D ca 0 0 (some (.int Z)) M z) (F0 m 4 ls [])) : ∀ (a0 : Nat) (x1 : Int32) (x2 : Int32) (H : Heap) (locs : List Loc) (ls : Array Slot), ah_g H0 D ca M z H → ah_L H0 locs → lv_has ls 4 [(0, .ref a0), (1, .int x1), (2, .int x2)] → ∀ Z, fX11_never_4_b  k4 M a0 x1 x2 = some Z → W p l e { frames := 1, cells := 0, slots := 0, locals := 22 } s m args below meth c H locs 0 0 (ah_Q below args s H0 D ca 0 0 (some (.int Z)) M z) (F0 m 4 ls []) := by
  intro a0 x1 x2 H locs ls hG hL hl Z hf
  unfold fX11_never_4_b at hf
  refine lv_iload_n K.1 K.2.1 dX11_never_4 rfl (lv_at hl 2 rfl) ?_
  refine lv_aload_n K.1 K.2.1 dX11_never_5 rfl (lv_at hl 0 rfl) ?_
  obtain ⟨v1, ev1, hf⟩ := Option.bind_eq_some_iff.mp hf
  refine ah_getr K hG ev1 ffX11_9_11 dX11_never_6 ?_
  refine lv_iconst (v := 1) K.1 K.2.1 dX11_never_9 (by decide) ?_
  obtain ⟨v2, ev2, hf⟩ := Option.bind_eq_some_iff.mp hf
  refine ah_iald K hG ev2 dX11_never_10 ?_
  refine lv_icmp_ge (tgt := 55) K.1 K.2.1 dX11_never_11 (by decide) (fun h3 => ?_) (fun h3 => ?_)
  · rw [if_pos h3] at hf
    refine lv_iload_n K.1 K.2.1 dX11_never_55 rfl (lv_at hl 1 rfl) ?_
    cases hf
    exact ah_iret K hG hL (Nat.le_refl _) (Nat.le_refl _) dX11_never_56
  · rw [if_neg h3] at hf
    refine lv_iload_n K.1 K.2.1 dX11_never_14 rfl (lv_at hl 2 rfl) ?_
    refine lv_iconst (v := 1) K.1 K.2.1 dX11_never_15 (by decide) ?_
    refine lv_iadd K.1 K.2.1 dX11_never_16 ?_
    refine lv_istore_n (lv' := [(3, .int (x2 + 1)), (0, .ref a0), (1, .int x1), (2, .int x2)]) K.1 K.2.1 dX11_never_17 rfl hl (by decide) rfl (fun ls hl => ?_)
    exact wX11_never_18 K k4 hk4 ah_fu a0 x1 x2 (x2 + 1) _ _ _ hG hL (lv_sub hl [1, 2, 3, 0] rfl) _ hf
theorem wX11_never_4 {p : Program} {l : Launch} {e : Env} {s : State} {m : MethodId} {args : Array Value} {below : List Frame} {meth : Method} {c : Code} {D : va_G} {ca : Nat → ClassId} {H0 : Heap} {M : ah_h} {z : Nat} (K : ah_K p s m args meth c D ca "ShipsThatMeetModel" cX11_never 4 (some .int))  (n : Nat) : ∀ (a0 : Nat) (x1 : Int32) (x2 : Int32) (H : Heap) (locs : List Loc) (ls : Array Slot), ah_g H0 D ca M z H → ah_L H0 locs → lv_has ls 4 [(0, .ref a0), (1, .int x1), (2, .int x2)] → ∀ Z, fX11_never_4  M n a0 x1 x2 = some Z → W p l e { frames := 1, cells := 0, slots := 0, locals := 22 } s m args below meth c H locs 0 0 (ah_Q below args s H0 D ca 0 0 (some (.int Z)) M z) (F0 m 4 ls []) := by
  induction n with
  | zero => intro a0 x1 x2 H locs ls hG hL hl Z hf; cases hf
  | succ n ih => exact wX11_never_4_b K  _ ih
def fX11_never (M : ah_h) (a0 : Nat) : Option (Int32) := (ah_ob M a0 11).bind fun _ => fX11_never_4 M ah_fu a0 0 0
set_option maxRecDepth 100000 in
set_option maxHeartbeats 4000000 in
theorem ctX11_never (l : Launch) (H0 : Heap) (D : va_G) (ca : Nat → ClassId) (M : ah_h) (z : Nat) (a0 : Nat) (Z : Int32) (hf : fX11_never M a0 = some Z) : ah_ct l H0 D ca yX11_never cX11_never 4 (some .int) 1 22 0 0 [.ref a0] M z (some (.int Z)) M z := by
  refine ah_of (by decide) (Nat.le_of_ble_eq_true rfl) ?_
  intro p e s m below meth c ls hin K hG hl
  have hL : ah_L H0 [] := ah_L.nil
  have hl : lv_has ls 4 [(0, .ref a0)] := hl
  unfold fX11_never at hf
  obtain ⟨-, -, hf⟩ := Option.bind_eq_some_iff.mp hf
  refine lv_iconst (v := 0) K.1 K.2.1 dX11_never_0 (by decide) ?_
  refine lv_istore_n (lv' := [(1, .int 0), (0, .ref a0)]) K.1 K.2.1 dX11_never_1 rfl hl (by decide) rfl (fun ls hl => ?_)
  refine lv_iconst (v := 0) K.1 K.2.1 dX11_never_2 (by decide) ?_
  refine lv_istore_n (lv' := [(2, .int 0), (1, .int 0), (0, .ref a0)]) K.1 K.2.1 dX11_never_3 rfl hl (by decide) rfl (fun ls hl => ?_)
  exact wX11_never_4 K  ah_fu a0 0 0 _ _ _ hG hL (lv_sub hl [2, 1, 0] rfl) _ hf
end
