section
-- ===== PART A: goes FIRST, ahead of the names: the tables' words, and 'selects' of the private methods out of them =====
/-- a private method of a class that the tables say can be made, by its rows of tables_1 -/
def lw_okq (q : MethodName × Nat) : Prop := (q.1.cls ≠ "java/lang/invoke/MethodHandle" ∧ q.1.cls ≠ "java/lang/invoke/VarHandle") ∧ Cond.instantiable q.1.cls q.2 ∈ tables_1 ∧ Cond.privateMethod q.1 ∈ tables_1 ∧ Cond.instanceMethod q.1 ∈ tables_1
theorem lw_p0 : lw_okq (⟨"TwinRooms$QuestionCard", "askOnceMore", "()V"⟩, 4) := ⟨⟨by decide +kernel, by decide +kernel⟩, List.mem_of_getElem? (i := 49) (by decide +kernel), List.mem_of_getElem? (i := 400) (by decide +kernel), List.mem_of_getElem? (i := 401) (by decide +kernel)⟩
theorem lw_p1 : lw_okq (⟨"TwinRooms", "sendReports", "(I)V"⟩, 6) := ⟨⟨by decide +kernel, by decide +kernel⟩, List.mem_of_getElem? (i := 19) (by decide +kernel), List.mem_of_getElem? (i := 430) (by decide +kernel), List.mem_of_getElem? (i := 431) (by decide +kernel)⟩
theorem lw_p2 : lw_okq (⟨"TwinRooms", "obeyOrder", "(LTwinRooms$Letter;)V"⟩, 6) := ⟨⟨by decide +kernel, by decide +kernel⟩, List.mem_of_getElem? (i := 19) (by decide +kernel), List.mem_of_getElem? (i := 478) (by decide +kernel), List.mem_of_getElem? (i := 479) (by decide +kernel)⟩
theorem lw_p3 : lw_okq (⟨"TwinRooms", "deliverToReferee", "(LTwinRooms$Letter;)V"⟩, 6) := ⟨⟨by decide +kernel, by decide +kernel⟩, List.mem_of_getElem? (i := 19) (by decide +kernel), List.mem_of_getElem? (i := 486) (by decide +kernel), List.mem_of_getElem? (i := 487) (by decide +kernel)⟩
theorem lw_p4 : lw_okq (⟨"TwinRooms", "decideGrant", "(LTwinRooms$Letter;)V"⟩, 6) := ⟨⟨by decide +kernel, by decide +kernel⟩, List.mem_of_getElem? (i := 19) (by decide +kernel), List.mem_of_getElem? (i := 490) (by decide +kernel), List.mem_of_getElem? (i := 491) (by decide +kernel)⟩
theorem lw_p5 : lw_okq (⟨"TwinRooms", "sendRecord", "(IIILTwinRooms$CallRecord;I)V"⟩, 6) := ⟨⟨by decide +kernel, by decide +kernel⟩, List.mem_of_getElem? (i := 19) (by decide +kernel), List.mem_of_getElem? (i := 503) (by decide +kernel), List.mem_of_getElem? (i := 504) (by decide +kernel)⟩
theorem lw_p6 : lw_okq (⟨"TwinRooms", "sendReceipt", "(ILTwinRooms$Letter;)V"⟩, 6) := ⟨⟨by decide +kernel, by decide +kernel⟩, List.mem_of_getElem? (i := 19) (by decide +kernel), List.mem_of_getElem? (i := 516) (by decide +kernel), List.mem_of_getElem? (i := 517) (by decide +kernel)⟩
theorem lw_p7 : lw_okq (⟨"TwinRooms", "deliverToRoom", "(LTwinRooms$Letter;)V"⟩, 6) := ⟨⟨by decide +kernel, by decide +kernel⟩, List.mem_of_getElem? (i := 19) (by decide +kernel), List.mem_of_getElem? (i := 520) (by decide +kernel), List.mem_of_getElem? (i := 521) (by decide +kernel)⟩
theorem lw_p8 : lw_okq (⟨"TwinRooms", "sendAllCopies", "(II)V"⟩, 6) := ⟨⟨by decide +kernel, by decide +kernel⟩, List.mem_of_getElem? (i := 19) (by decide +kernel), List.mem_of_getElem? (i := 545) (by decide +kernel), List.mem_of_getElem? (i := 546) (by decide +kernel)⟩
theorem lw_p9 : lw_okq (⟨"TwinRooms$RoadMap", "shortenWays", "()Z"⟩, 4) := ⟨⟨by decide +kernel, by decide +kernel⟩, List.mem_of_getElem? (i := 27) (by decide +kernel), List.mem_of_getElem? (i := 593) (by decide +kernel), List.mem_of_getElem? (i := 594) (by decide +kernel)⟩
theorem lw_p10 : lw_okq (⟨"TwinRooms", "findNearest", "(LTwinRooms$Room;III)I"⟩, 6) := ⟨⟨by decide +kernel, by decide +kernel⟩, List.mem_of_getElem? (i := 19) (by decide +kernel), List.mem_of_getElem? (i := 604) (by decide +kernel), List.mem_of_getElem? (i := 605) (by decide +kernel)⟩
theorem lw_p11 : lw_okq (⟨"TwinRooms", "rankOf", "(LTwinRooms$Room;II)I"⟩, 6) := ⟨⟨by decide +kernel, by decide +kernel⟩, List.mem_of_getElem? (i := 19) (by decide +kernel), List.mem_of_getElem? (i := 608) (by decide +kernel), List.mem_of_getElem? (i := 609) (by decide +kernel)⟩
theorem lw_p12 : lw_okq (⟨"TwinRooms", "countRanksBelow", "(LTwinRooms$Room;II)I"⟩, 6) := ⟨⟨by decide +kernel, by decide +kernel⟩, List.mem_of_getElem? (i := 19) (by decide +kernel), List.mem_of_getElem? (i := 616) (by decide +kernel), List.mem_of_getElem? (i := 617) (by decide +kernel)⟩
theorem lw_p13 : lw_okq (⟨"TwinRooms", "knowsCall", "(II)Z"⟩, 6) := ⟨⟨by decide +kernel, by decide +kernel⟩, List.mem_of_getElem? (i := 19) (by decide +kernel), List.mem_of_getElem? (i := 648) (by decide +kernel), List.mem_of_getElem? (i := 649) (by decide +kernel)⟩
theorem lw_p14 : lw_okq (⟨"java/lang/Throwable", "fillInStackTrace", "(I)Ljava/lang/Throwable;"⟩, 6) := ⟨⟨by decide +kernel, by decide +kernel⟩, List.mem_of_getElem? (i := 697) (by decide +kernel), List.mem_of_getElem? (i := 695) (by decide +kernel), List.mem_of_getElem? (i := 696) (by decide +kernel)⟩
theorem lw_p15 : lw_okq (⟨"TwinRooms", "isInCharge", "(II)Z"⟩, 6) := ⟨⟨by decide +kernel, by decide +kernel⟩, List.mem_of_getElem? (i := 19) (by decide +kernel), List.mem_of_getElem? (i := 753) (by decide +kernel), List.mem_of_getElem? (i := 754) (by decide +kernel)⟩
def lw_privs_1 : List (MethodName × Nat) := [(⟨"TwinRooms$QuestionCard", "askOnceMore", "()V"⟩, 4), (⟨"TwinRooms", "sendReports", "(I)V"⟩, 6), (⟨"TwinRooms", "obeyOrder", "(LTwinRooms$Letter;)V"⟩, 6), (⟨"TwinRooms", "deliverToReferee", "(LTwinRooms$Letter;)V"⟩, 6), (⟨"TwinRooms", "decideGrant", "(LTwinRooms$Letter;)V"⟩, 6), (⟨"TwinRooms", "sendRecord", "(IIILTwinRooms$CallRecord;I)V"⟩, 6), (⟨"TwinRooms", "sendReceipt", "(ILTwinRooms$Letter;)V"⟩, 6), (⟨"TwinRooms", "deliverToRoom", "(LTwinRooms$Letter;)V"⟩, 6), (⟨"TwinRooms", "sendAllCopies", "(II)V"⟩, 6), (⟨"TwinRooms$RoadMap", "shortenWays", "()Z"⟩, 4), (⟨"TwinRooms", "findNearest", "(LTwinRooms$Room;III)I"⟩, 6), (⟨"TwinRooms", "rankOf", "(LTwinRooms$Room;II)I"⟩, 6), (⟨"TwinRooms", "countRanksBelow", "(LTwinRooms$Room;II)I"⟩, 6), (⟨"TwinRooms", "knowsCall", "(II)Z"⟩, 6), (⟨"java/lang/Throwable", "fillInStackTrace", "(I)Ljava/lang/Throwable;"⟩, 6), (⟨"TwinRooms", "isInCharge", "(II)Z"⟩, 6)]
theorem lw_r1 : ∀ q ∈ lw_privs_1, lw_okq q := List.forall_mem_cons.mpr ⟨lw_p0, List.forall_mem_cons.mpr ⟨lw_p1, List.forall_mem_cons.mpr ⟨lw_p2, List.forall_mem_cons.mpr ⟨lw_p3, List.forall_mem_cons.mpr ⟨lw_p4, List.forall_mem_cons.mpr ⟨lw_p5, List.forall_mem_cons.mpr ⟨lw_p6, List.forall_mem_cons.mpr ⟨lw_p7, List.forall_mem_cons.mpr ⟨lw_p8, List.forall_mem_cons.mpr ⟨lw_p9, List.forall_mem_cons.mpr ⟨lw_p10, List.forall_mem_cons.mpr ⟨lw_p11, List.forall_mem_cons.mpr ⟨lw_p12, List.forall_mem_cons.mpr ⟨lw_p13, List.forall_mem_cons.mpr ⟨lw_p14, List.forall_mem_cons.mpr ⟨lw_p15, fun _ h => absurd h List.not_mem_nil⟩⟩⟩⟩⟩⟩⟩⟩⟩⟩⟩⟩⟩⟩⟩⟩
theorem lw_p16 : lw_okq (⟨"TwinRooms", "findSameCall", "(LTwinRooms$Room;II)I"⟩, 6) := ⟨⟨by decide +kernel, by decide +kernel⟩, List.mem_of_getElem? (i := 19) (by decide +kernel), List.mem_of_getElem? (i := 757) (by decide +kernel), List.mem_of_getElem? (i := 758) (by decide +kernel)⟩
theorem lw_p17 : lw_okq (⟨"TwinRooms", "openCall", "(III)I"⟩, 6) := ⟨⟨by decide +kernel, by decide +kernel⟩, List.mem_of_getElem? (i := 19) (by decide +kernel), List.mem_of_getElem? (i := 761) (by decide +kernel), List.mem_of_getElem? (i := 762) (by decide +kernel)⟩
theorem lw_p18 : lw_okq (⟨"TwinRooms", "countChange", "(II)V"⟩, 6) := ⟨⟨by decide +kernel, by decide +kernel⟩, List.mem_of_getElem? (i := 19) (by decide +kernel), List.mem_of_getElem? (i := 773) (by decide +kernel), List.mem_of_getElem? (i := 774) (by decide +kernel)⟩
theorem lw_p19 : lw_okq (⟨"TwinRooms", "linkCall", "(II)V"⟩, 6) := ⟨⟨by decide +kernel, by decide +kernel⟩, List.mem_of_getElem? (i := 19) (by decide +kernel), List.mem_of_getElem? (i := 781) (by decide +kernel), List.mem_of_getElem? (i := 782) (by decide +kernel)⟩
theorem lw_p20 : lw_okq (⟨"TwinRooms", "findOpenRecord", "(II)LTwinRooms$CallRecord;"⟩, 6) := ⟨⟨by decide +kernel, by decide +kernel⟩, List.mem_of_getElem? (i := 19) (by decide +kernel), List.mem_of_getElem? (i := 792) (by decide +kernel), List.mem_of_getElem? (i := 793) (by decide +kernel)⟩
theorem lw_p21 : lw_okq (⟨"TwinRooms", "sendOrder", "(III)V"⟩, 6) := ⟨⟨by decide +kernel, by decide +kernel⟩, List.mem_of_getElem? (i := 19) (by decide +kernel), List.mem_of_getElem? (i := 820) (by decide +kernel), List.mem_of_getElem? (i := 821) (by decide +kernel)⟩
theorem lw_p22 : lw_okq (⟨"TwinRoomsModel", "takeOut", "(I)Z"⟩, 60) := ⟨⟨by decide +kernel, by decide +kernel⟩, List.mem_of_getElem? (i := 838) (by decide +kernel), List.mem_of_getElem? (i := 1058) (by decide +kernel), List.mem_of_getElem? (i := 1059) (by decide +kernel)⟩
theorem lw_p23 : lw_okq (⟨"TwinRoomsModel", "copyLetter", "(II)V"⟩, 60) := ⟨⟨by decide +kernel, by decide +kernel⟩, List.mem_of_getElem? (i := 838) (by decide +kernel), List.mem_of_getElem? (i := 1062) (by decide +kernel), List.mem_of_getElem? (i := 1063) (by decide +kernel)⟩
theorem lw_p24 : lw_okq (⟨"TwinRoomsModel", "receive", "(I)V"⟩, 60) := ⟨⟨by decide +kernel, by decide +kernel⟩, List.mem_of_getElem? (i := 838) (by decide +kernel), List.mem_of_getElem? (i := 1066) (by decide +kernel), List.mem_of_getElem? (i := 1067) (by decide +kernel)⟩
theorem lw_p25 : lw_okq (⟨"TwinRoomsModel", "refereeAsked", "()V"⟩, 60) := ⟨⟨by decide +kernel, by decide +kernel⟩, List.mem_of_getElem? (i := 838) (by decide +kernel), List.mem_of_getElem? (i := 1070) (by decide +kernel), List.mem_of_getElem? (i := 1071) (by decide +kernel)⟩
theorem lw_p26 : lw_okq (⟨"TwinRoomsModel", "send", "(IIIII)I"⟩, 60) := ⟨⟨by decide +kernel, by decide +kernel⟩, List.mem_of_getElem? (i := 838) (by decide +kernel), List.mem_of_getElem? (i := 1075) (by decide +kernel), List.mem_of_getElem? (i := 1076) (by decide +kernel)⟩
theorem lw_p27 : lw_okq (⟨"TwinRoomsModel", "sendRecord", "(IIII)V"⟩, 60) := ⟨⟨by decide +kernel, by decide +kernel⟩, List.mem_of_getElem? (i := 838) (by decide +kernel), List.mem_of_getElem? (i := 1079) (by decide +kernel), List.mem_of_getElem? (i := 1080) (by decide +kernel)⟩
theorem lw_p28 : lw_okq (⟨"TwinRoomsModel", "roomGranted", "(I)V"⟩, 60) := ⟨⟨by decide +kernel, by decide +kernel⟩, List.mem_of_getElem? (i := 838) (by decide +kernel), List.mem_of_getElem? (i := 1083) (by decide +kernel), List.mem_of_getElem? (i := 1084) (by decide +kernel)⟩
theorem lw_p29 : lw_okq (⟨"TwinRoomsModel", "keepIfNewer", "(I)V"⟩, 60) := ⟨⟨by decide +kernel, by decide +kernel⟩, List.mem_of_getElem? (i := 838) (by decide +kernel), List.mem_of_getElem? (i := 1087) (by decide +kernel), List.mem_of_getElem? (i := 1088) (by decide +kernel)⟩
theorem lw_p30 : lw_okq (⟨"TwinRoomsModel", "sendReceipt", "(I)V"⟩, 60) := ⟨⟨by decide +kernel, by decide +kernel⟩, List.mem_of_getElem? (i := 838) (by decide +kernel), List.mem_of_getElem? (i := 1091) (by decide +kernel), List.mem_of_getElem? (i := 1092) (by decide +kernel)⟩
theorem lw_p31 : lw_okq (⟨"TwinRoomsModel", "roomReceipted", "(I)V"⟩, 60) := ⟨⟨by decide +kernel, by decide +kernel⟩, List.mem_of_getElem? (i := 838) (by decide +kernel), List.mem_of_getElem? (i := 1095) (by decide +kernel), List.mem_of_getElem? (i := 1096) (by decide +kernel)⟩
def lw_privs_2 : List (MethodName × Nat) := [(⟨"TwinRooms", "findSameCall", "(LTwinRooms$Room;II)I"⟩, 6), (⟨"TwinRooms", "openCall", "(III)I"⟩, 6), (⟨"TwinRooms", "countChange", "(II)V"⟩, 6), (⟨"TwinRooms", "linkCall", "(II)V"⟩, 6), (⟨"TwinRooms", "findOpenRecord", "(II)LTwinRooms$CallRecord;"⟩, 6), (⟨"TwinRooms", "sendOrder", "(III)V"⟩, 6), (⟨"TwinRoomsModel", "takeOut", "(I)Z"⟩, 60), (⟨"TwinRoomsModel", "copyLetter", "(II)V"⟩, 60), (⟨"TwinRoomsModel", "receive", "(I)V"⟩, 60), (⟨"TwinRoomsModel", "refereeAsked", "()V"⟩, 60), (⟨"TwinRoomsModel", "send", "(IIIII)I"⟩, 60), (⟨"TwinRoomsModel", "sendRecord", "(IIII)V"⟩, 60), (⟨"TwinRoomsModel", "roomGranted", "(I)V"⟩, 60), (⟨"TwinRoomsModel", "keepIfNewer", "(I)V"⟩, 60), (⟨"TwinRoomsModel", "sendReceipt", "(I)V"⟩, 60), (⟨"TwinRoomsModel", "roomReceipted", "(I)V"⟩, 60)]
theorem lw_r2 : ∀ q ∈ lw_privs_2, lw_okq q := List.forall_mem_cons.mpr ⟨lw_p16, List.forall_mem_cons.mpr ⟨lw_p17, List.forall_mem_cons.mpr ⟨lw_p18, List.forall_mem_cons.mpr ⟨lw_p19, List.forall_mem_cons.mpr ⟨lw_p20, List.forall_mem_cons.mpr ⟨lw_p21, List.forall_mem_cons.mpr ⟨lw_p22, List.forall_mem_cons.mpr ⟨lw_p23, List.forall_mem_cons.mpr ⟨lw_p24, List.forall_mem_cons.mpr ⟨lw_p25, List.forall_mem_cons.mpr ⟨lw_p26, List.forall_mem_cons.mpr ⟨lw_p27, List.forall_mem_cons.mpr ⟨lw_p28, List.forall_mem_cons.mpr ⟨lw_p29, List.forall_mem_cons.mpr ⟨lw_p30, List.forall_mem_cons.mpr ⟨lw_p31, fun _ h => absurd h List.not_mem_nil⟩⟩⟩⟩⟩⟩⟩⟩⟩⟩⟩⟩⟩⟩⟩⟩
theorem lw_p32 : lw_okq (⟨"TwinRoomsModel", "unitOrdered", "(I)V"⟩, 60) := ⟨⟨by decide +kernel, by decide +kernel⟩, List.mem_of_getElem? (i := 838) (by decide +kernel), List.mem_of_getElem? (i := 1099) (by decide +kernel), List.mem_of_getElem? (i := 1100) (by decide +kernel)⟩
theorem lw_p33 : lw_okq (⟨"TwinRoomsModel", "report", "(I)V"⟩, 60) := ⟨⟨by decide +kernel, by decide +kernel⟩, List.mem_of_getElem? (i := 838) (by decide +kernel), List.mem_of_getElem? (i := 1103) (by decide +kernel), List.mem_of_getElem? (i := 1104) (by decide +kernel)⟩
theorem lw_p34 : lw_okq (⟨"TwinRoomsModel", "sendReport", "(II)V"⟩, 60) := ⟨⟨by decide +kernel, by decide +kernel⟩, List.mem_of_getElem? (i := 838) (by decide +kernel), List.mem_of_getElem? (i := 1107) (by decide +kernel), List.mem_of_getElem? (i := 1108) (by decide +kernel)⟩
theorem lw_p35 : lw_okq (⟨"TwinRoomsModel", "roomReported", "(I)V"⟩, 60) := ⟨⟨by decide +kernel, by decide +kernel⟩, List.mem_of_getElem? (i := 838) (by decide +kernel), List.mem_of_getElem? (i := 1111) (by decide +kernel), List.mem_of_getElem? (i := 1112) (by decide +kernel)⟩
theorem lw_p36 : lw_okq (⟨"TwinRoomsModel", "charge", "(II)I"⟩, 60) := ⟨⟨by decide +kernel, by decide +kernel⟩, List.mem_of_getElem? (i := 838) (by decide +kernel), List.mem_of_getElem? (i := 1161) (by decide +kernel), List.mem_of_getElem? (i := 1162) (by decide +kernel)⟩
theorem lw_p37 : lw_okq (⟨"TwinRoomsModel", "alike", "(III)I"⟩, 60) := ⟨⟨by decide +kernel, by decide +kernel⟩, List.mem_of_getElem? (i := 838) (by decide +kernel), List.mem_of_getElem? (i := 1170) (by decide +kernel), List.mem_of_getElem? (i := 1171) (by decide +kernel)⟩
theorem lw_p38 : lw_okq (⟨"TwinRoomsModel", "way", "(II)I"⟩, 60) := ⟨⟨by decide +kernel, by decide +kernel⟩, List.mem_of_getElem? (i := 838) (by decide +kernel), List.mem_of_getElem? (i := 1174) (by decide +kernel), List.mem_of_getElem? (i := 1175) (by decide +kernel)⟩
theorem lw_p39 : lw_okq (⟨"TwinRoomsModel", "chargeOf", "(II)I"⟩, 60) := ⟨⟨by decide +kernel, by decide +kernel⟩, List.mem_of_getElem? (i := 838) (by decide +kernel), List.mem_of_getElem? (i := 1179) (by decide +kernel), List.mem_of_getElem? (i := 1180) (by decide +kernel)⟩
theorem lw_p40 : lw_okq (⟨"TwinRoomsModel", "change", "(II)V"⟩, 60) := ⟨⟨by decide +kernel, by decide +kernel⟩, List.mem_of_getElem? (i := 838) (by decide +kernel), List.mem_of_getElem? (i := 1183) (by decide +kernel), List.mem_of_getElem? (i := 1184) (by decide +kernel)⟩
theorem lw_p41 : lw_okq (⟨"TwinRoomsModel", "known", "(II)Z"⟩, 60) := ⟨⟨by decide +kernel, by decide +kernel⟩, List.mem_of_getElem? (i := 838) (by decide +kernel), List.mem_of_getElem? (i := 1191) (by decide +kernel), List.mem_of_getElem? (i := 1192) (by decide +kernel)⟩
theorem lw_p42 : lw_okq (⟨"TwinRoomsModel", "unitOn", "(II)Z"⟩, 60) := ⟨⟨by decide +kernel, by decide +kernel⟩, List.mem_of_getElem? (i := 838) (by decide +kernel), List.mem_of_getElem? (i := 1199) (by decide +kernel), List.mem_of_getElem? (i := 1200) (by decide +kernel)⟩
theorem lw_p43 : lw_okq (⟨"TwinRoomsModel", "nearestOf", "(IIII)I"⟩, 60) := ⟨⟨by decide +kernel, by decide +kernel⟩, List.mem_of_getElem? (i := 838) (by decide +kernel), List.mem_of_getElem? (i := 1203) (by decide +kernel), List.mem_of_getElem? (i := 1204) (by decide +kernel)⟩
theorem lw_p44 : lw_okq (⟨"TwinRoomsModel", "fitting", "(IIII)I"⟩, 60) := ⟨⟨by decide +kernel, by decide +kernel⟩, List.mem_of_getElem? (i := 838) (by decide +kernel), List.mem_of_getElem? (i := 1207) (by decide +kernel), List.mem_of_getElem? (i := 1208) (by decide +kernel)⟩
theorem lw_p45 : lw_okq (⟨"TwinRoomsModel", "isFree", "(II)Z"⟩, 60) := ⟨⟨by decide +kernel, by decide +kernel⟩, List.mem_of_getElem? (i := 838) (by decide +kernel), List.mem_of_getElem? (i := 1211) (by decide +kernel), List.mem_of_getElem? (i := 1212) (by decide +kernel)⟩
def lw_privs_3 : List (MethodName × Nat) := [(⟨"TwinRoomsModel", "unitOrdered", "(I)V"⟩, 60), (⟨"TwinRoomsModel", "report", "(I)V"⟩, 60), (⟨"TwinRoomsModel", "sendReport", "(II)V"⟩, 60), (⟨"TwinRoomsModel", "roomReported", "(I)V"⟩, 60), (⟨"TwinRoomsModel", "charge", "(II)I"⟩, 60), (⟨"TwinRoomsModel", "alike", "(III)I"⟩, 60), (⟨"TwinRoomsModel", "way", "(II)I"⟩, 60), (⟨"TwinRoomsModel", "chargeOf", "(II)I"⟩, 60), (⟨"TwinRoomsModel", "change", "(II)V"⟩, 60), (⟨"TwinRoomsModel", "known", "(II)Z"⟩, 60), (⟨"TwinRoomsModel", "unitOn", "(II)Z"⟩, 60), (⟨"TwinRoomsModel", "nearestOf", "(IIII)I"⟩, 60), (⟨"TwinRoomsModel", "fitting", "(IIII)I"⟩, 60), (⟨"TwinRoomsModel", "isFree", "(II)Z"⟩, 60)]
theorem lw_r3 : ∀ q ∈ lw_privs_3, lw_okq q := List.forall_mem_cons.mpr ⟨lw_p32, List.forall_mem_cons.mpr ⟨lw_p33, List.forall_mem_cons.mpr ⟨lw_p34, List.forall_mem_cons.mpr ⟨lw_p35, List.forall_mem_cons.mpr ⟨lw_p36, List.forall_mem_cons.mpr ⟨lw_p37, List.forall_mem_cons.mpr ⟨lw_p38, List.forall_mem_cons.mpr ⟨lw_p39, List.forall_mem_cons.mpr ⟨lw_p40, List.forall_mem_cons.mpr ⟨lw_p41, List.forall_mem_cons.mpr ⟨lw_p42, List.forall_mem_cons.mpr ⟨lw_p43, List.forall_mem_cons.mpr ⟨lw_p44, List.forall_mem_cons.mpr ⟨lw_p45, fun _ h => absurd h List.not_mem_nil⟩⟩⟩⟩⟩⟩⟩⟩⟩⟩⟩⟩⟩⟩
def lw_privs : List (MethodName × Nat) := lw_privs_1 ++ (lw_privs_2 ++ (lw_privs_3))
def lw_tbl : List Cond := k2_sels lw_privs ++ tables_1
theorem lw_privs_ok : ∀ q ∈ lw_privs, lw_okq q := by
  show ∀ q ∈ lw_privs_1 ++ (lw_privs_2 ++ (lw_privs_3)), lw_okq q
  exact List.forall_mem_append.mpr ⟨lw_r1, List.forall_mem_append.mpr ⟨lw_r2, lw_r3⟩⟩
end
section
/-! Contracts of methods that return or throw, and calls of them; made from the library's MetFree, callFree, room_calling, leaveThrown. -/
section XA
def x_Q (Qc : Array Value → State → Outcome → State → Prop) (mc ms : Nat) (free : Addr → Prop) : Array Value → State → Outcome → State → Prop := fun a st o t =>
  Qc a st o t ∧ st.WarmedH t.vm ∧ ∃ L : List Loc, st.sameButNew ({ t with vm := st.vm } : State) L mc ms ∧ ∀ q ∈ L, free q.base
def x_Met (l : Launch) (y : MethodName) (ws : List Jvm.Cond) (rm : Room) (Pc : Array Value → State → Prop) (Qc : Array Value → State → Outcome → State → Prop) (mc ms : Nat) (free : Addr → Prop) : Prop :=
  MetFree l y (headSpec ws rm) Pc (fun _ _ _ _ _ => True) (x_Q Qc mc ms free)
def x_MQ (below : List Frame) (Qc : Array Value → State → Outcome → State → Prop) (a : Array Value) (s : State) (mc ms : Nat) (free : Addr → Prop) : State → Prop := fun t =>
  ∃ o, t.status = .running ∧ Ended t below o ∧ x_Q Qc mc ms free a s o t
/-- what the tables say of a method's code -/
def x_cd (y : MethodName) (cc : ByteArray) (mx : Nat) (ret : Option FieldType) (hh : List (Nat × Nat × Nat × Nat)) (s : State) : Prop :=
  ∃ mk meth c, s.methodNamed? y = some mk ∧ s.vm.method? mk = some meth ∧ meth.code = some c ∧ c.code = cc ∧ c.maxLocals = mx ∧ meth.sig.returnType = ret ∧ meth.locks = false ∧ c.exceptionTable.toList = tableOf hh ∧ parseMethodDescriptor y.desc = some meth.sig
theorem x_cd_code {y : MethodName} {cc : ByteArray} {mx : Nat} {ret : Option FieldType} {args : Array Value} {s : State} (h : (Jvm.Cond.code y cc mx ret).before args s = true) : x_cd y cc mx ret [] s := by
  obtain ⟨mk, hn⟩ := Cond.code_named h
  obtain ⟨meth, c, h1, h2, h3, h4, h5, h6, h7, h8⟩ := Cond.code_spec hn h
  refine ⟨mk, meth, c, hn, h1, h2, h3, h4, h5, h6, ?_, h8⟩
  rw [Array.isEmpty_iff.mp h7]
  rfl
theorem x_cd_with {y : MethodName} {cc : ByteArray} {mx : Nat} {ret : Option FieldType} {hh : List (Nat × Nat × Nat × Nat)} {args : Array Value} {s : State} (h : (Jvm.Cond.codeWith y cc mx ret hh).before args s = true) : x_cd y cc mx ret hh s := by
  obtain ⟨mk, meth, c, hn, h1, h2, h3, h4, h5, h6, h7, h8⟩ := Cond.codeWith_spec h
  refine ⟨mk, meth, c, hn, h1, h2, h3, h4, h6, h7, ?_, h8⟩
  rw [← h5, table_eq]
theorem x_ofW {l : Launch} {y : MethodName} {ws : List Jvm.Cond} {rm : Room} {Pc : Array Value → State → Prop} {Qc : Array Value → State → Outcome → State → Prop} {mc ms : Nat} {free : Addr → Prop} {cc : ByteArray} {mx : Nat} {ret : Option FieldType} {hh : List (Nat × Nat × Nat × Nat)}
    (hy : plainName y.cls = true) (hcd : ∀ (args : Array Value) (s : State), (∀ w ∈ ws, w.before args s = true) → x_cd y cc mx ret hh s)
    (body : ∀ p e s m args below meth c s₁, BodyLoose p l y (headSpec ws rm) cc mx ret e s m args below meth c s₁ → c.maxLocals = mx → c.exceptionTable.toList = tableOf hh → meth.name = y.name → (∀ w ∈ ws, w.before args s = true) → Pc args s →
      W p l e (headSpec ws rm).room s m args below meth c s.heap [] 0 0 (x_MQ below Qc args s mc ms free) (entryFrame m args mx)) : x_Met l y ws rm Pc Qc mc ms free := by
  refine MetFree.of_bodyS (code := cc) (maxLocals := mx) (ret := ret) hy ?_ ?_
  · intro args s m h hn
    obtain ⟨mk, meth, c, hn', h1, h2, h3, h4, h5, h6, -, -⟩ := hcd args s (atoms_spec h)
    cases Option.some.inj (hn.symm.trans hn')
    exact ⟨meth, c, h1, h2, h3, h4, h5, h6⟩
  · intro p e s m args below meth c s₁ B hml hP _
    have hh0 : s₁.heap = s.heap := by rw [B.state]; rfl
    have hws : ∀ w ∈ ws, w.before args s = true := atoms_spec B.pre
    obtain ⟨mk, meth', c', hn', h1, h2, -, -, -, -, h7, -⟩ := hcd args s hws
    cases Option.some.inj (B.named.symm.trans hn')
    cases Option.some.inj (B.method.symm.trans h1)
    cases Option.some.inj ((Stand.of_body B).code.symm.trans h2)
    obtain ⟨t, a1, o, b1, b2, b3⟩ := body p e s m args below meth c s₁ B hml h7 (name_of_methodNamed B.named B.method).1 hws hP s₁ hh0 (Stand.of_body B)
    exact ⟨t, o, a1, b1, b2, b3⟩
/-- a frame with a thrown object over it -/
def x_W (p : Program) (l : Launch) (e : Env) (R : Room) (s : State) (m : MethodId) (args : Array Value) (below : List Frame) (meth : Method) (c : Code) (H : Heap) (locs : List Loc) (cells slots : Nat) (Q : State → Prop) (g : JFrame) (q : Addr) : Prop :=
  ∀ T : State, T.heap = H → Stand p l e R s m args below meth c T locs cells slots → ∃ t, Steps p.tables e below ((T.setTop g).pushFrame (.throwing q)) t ∧ Q t
section Back
variable {l : Launch} {R : Room} {p : Program} {e : Env} {below : List Frame} {s : State} {args : Array Value} {y : MethodName}
theorem x_back {ws : List Jvm.Cond} {rm : Room} {Pc : Array Value → State → Prop} {Qc : Array Value → State → Outcome → State → Prop} {mc ms : Nat} {free : Addr → Prop} {cc : ByteArray} {mx : Nat} {ret : Option FieldType} {hh : List (Nat × Nat × Nat × Nat)}
    (hM : x_Met l y ws rm Pc Qc mc ms free) (hblind : FrameBlind Pc) (hrc : rm.cells = mc) (hrs : rm.slots = ms) (hframes : rm.frames + 1 ≤ R.frames) (hlocals : 8 + (mx + 11) + rm.locals ≤ R.locals)
    (hws : ∀ w ∈ ws, ∀ (a' : Array Value) (U : State), s.WarmedH U.vm → w.before a' U = true) (hcd : ∀ (a' : Array Value) (U : State), (∀ w ∈ ws, w.before a' U = true) → x_cd y cc mx ret hh U)
    (hinit : ∀ (a' : Array Value) (U : State), s.WarmedH U.vm → (Jvm.Cond.initialized y.cls).before a' U = true)
    {m : MethodId} {meth : Method} {c : Code} {U : State} {locs : List Loc} {cells slots : Nat} {g : JFrame} {ig : Instr} {mk : MethodId} {a : Array Value}
    (X : Stand p l e R s m args below meth c U locs cells slots) (hg : g.method = m) (hsize : g.locals.size = c.maxLocals) (hdg : decode c.code g.pc = .ok (ig, 3)) (hW : 2 * g.monitorRoom + (g.stack.map fun v => v.category).sum ≤ 8)
    (hn : U.methodNamed? y = some mk) (hcells : cells + mc ≤ R.cells) (hslots : slots + ms ≤ R.slots) (hP : Pc a U) :
    ∃ (o : Outcome) (st₀ t T' : State) (L : List Loc), Stand p l e R s m args below meth c T' (locs ++ L) (cells + mc) (slots + ms) ∧ T'.heap = t.heap ∧ T'.vm = t.vm ∧ (∀ q ∈ L, free q.base) ∧ st₀.heap = U.heap ∧ Qc a st₀ o t ∧
      (match o with
        | .returned v => Steps p.tables e below (doInvoke e (U.setTop g) [] mk a).1 (T'.setTop { g with pc := g.pc + 3, stack := v.toList ++ g.stack })
        | .threw q => Steps p.tables e below (doInvoke e (U.setTop g) [] mk a).1 ((T'.setTop g).pushFrame (.throwing q))) := by
  have hpre : ∀ w ∈ ws, w.before a U = true := fun w hw => hws w hw _ _ X.warmed
  have h1 : (headSpec ws rm).pre.before a U = true := atoms_intro hpre
  obtain ⟨mk', methY, cY, hn', hmY, hcY, -, hlY, -, -, -, -⟩ := hcd a U hpre
  cases Option.some.inj (hn.symm.trans hn')
  have h3 : (Jvm.Cond.initialized y.cls).before a U = true := hinit _ _ X.warmed
  have h4 : cells + (headSpec ws rm).room.cells ≤ R.cells := by rw [show (headSpec ws rm).room.cells = mc from hrc]; exact hcells
  have h5 : slots + (headSpec ws rm).room.slots ≤ R.slots := by rw [show (headSpec ws rm).room.slots = ms from hrs]; exact hslots
  have hPc : Pc a (U.calling g mk a) := hblind _ _ _ _ hP
  obtain ⟨kY, hkY, -⟩ := className_of_methodNamed hn
  have hinitY : kY.init = .initialized := Cond.initialized_spec (findClass_of_methodNamed hn) hkY h3
  have h : At U g.method c below := by rw [hg]; exact X.here
  have hlo : 8 + (mx + 11) + (headSpec ws rm).room.locals ≤ R.locals := hlocals
  have happ : (headSpec ws rm).appliesLoose y e.platform (U.calling g mk a) = true :=
    Spec.appliesLoose_calling (g := g) h hdg hn hkY hinitY (X.room_calling (g := g) (R' := (headSpec ws rm).room) hsize hmY hcY hframes (by rw [hlY]; omega) h4 h5) h1
  obtain ⟨mid, hmid⟩ := h.above
  have hfr : (U.setTop g).frames = (.java g :: mid) ++ below := by rw [State.frames_setTop' g h.top, hmid]; rfl
  obtain ⟨o, s₂, hsteps, -, hend, hq⟩ := Steps.callFree hM p X.admits X.cas X.clock (acts := []) hfr happ hPc trivial
  have hq' : x_Q Qc mc ms free a (U.calling g mk a) o s₂ := hq
  rw [State.frames_setTop' g h.top] at hend
  obtain ⟨g₀, hg0⟩ := Option.isSome_iff_exists.mp h.top
  obtain ⟨r, hr⟩ := State.topJava?_eq_some.mp hg0
  obtain ⟨hqc, hW₂, L, ⟨e2, q2, q3, q4, q5, q6⟩, hL⟩ := hq'
  have e3 : s₂ = ({ (U.calling g mk a).setFrames s₂.frames with heap := s₂.heap, slotsUsed := s₂.slotsUsed } : State).setVm s₂.vm := by
    have : s₂ = ({ s₂ with vm := (U.calling g mk a).vm } : State).setVm s₂.vm := rfl
    rw [e2] at this
    exact this
  have hW' : U.WarmedH s₂.vm := hW₂
  have hr' : (({ U with heap := s₂.heap, slotsUsed := s₂.slotsUsed } : State).setVm s₂.vm).frames = .java g₀ :: r := hr
  have hsame : U.sameButNew ({ U with heap := s₂.heap, slotsUsed := s₂.slotsUsed } : State) L mc ms := by
    refine ⟨?_, q2, q3, q4, q5, q6⟩
    obtain ⟨t, ht, -⟩ := State.frames_cons hr
    show ({ U with heap := s₂.heap, slotsUsed := s₂.slotsUsed } : State) = { U.setFrames U.frames with heap := s₂.heap, slotsUsed := s₂.slotsUsed }
    rw [State.setFrames_self ht]
  subst hg
  have XS : Stand p l e R s g.method args below meth c (({ U with heap := s₂.heap, slotsUsed := s₂.slotsUsed } : State).setVm s₂.vm) (locs ++ L) (cells + mc) (slots + ms) :=
    ⟨X.admits, X.cas, X.clock, X.frames, X.room, X.hears, X.method, X.code, (X.here.setHeapUsed s₂.heap s₂.slotsUsed).setVm hW'.alike, X.tail, State.WarmedH.trans X.warmed hW', X.limits, X.bytes, X.same.trans (hsame.setVm s.vm)⟩
  cases o with
  | returned v =>
    obtain ⟨c₂, i₂, len₂, hc₂, hd₂, hf₂⟩ := hend
    have hcc : c₂ = c := by
      have h1 : s₂.code? g.method = U.code? g.method := by rw [State.code?_eq, State.code?_eq, hW'.alike.method?]
      exact Option.some.inj (hc₂.symm.trans (h1.trans h.code))
    subst hcc
    have hlen : len₂ = 3 := by rw [hdg] at hd₂; cases hd₂; rfl
    subst hlen
    have hs₂ : s₂ = (({ U with heap := s₂.heap, slotsUsed := s₂.slotsUsed } : State).setVm s₂.vm).setTop { g with pc := g.pc + 3, stack := v.toList ++ g.stack } := by
      refine e3.trans ?_
      rw [hf₂, State.calling_eq h.top, State.setFrames_setFrames, State.setTop_of_frames _ hr', hr]
      rfl
    refine ⟨.returned v, U.calling g mk a, s₂, _, L, XS, rfl, rfl, hL, rfl, hqc, ?_⟩
    show Steps p.tables e below _ ((({ U with heap := s₂.heap, slotsUsed := s₂.slotsUsed } : State).setVm s₂.vm).setTop { g with pc := g.pc + 3, stack := v.toList ++ g.stack })
    rw [← hs₂]
    exact hsteps
  | threw q =>
    have hf₂ : s₂.frames = .throwing q :: .java g :: U.frames.tail := hend
    have hs₂ : s₂ = ((({ U with heap := s₂.heap, slotsUsed := s₂.slotsUsed } : State).setVm s₂.vm).setTop g).pushFrame (.throwing q) := by
      refine e3.trans ?_
      rw [hf₂, State.calling_eq h.top, State.setFrames_setFrames, State.pushFrame, State.frames_setTop _ hr', State.setTop_of_frames _ hr', State.setFrames_setFrames, hr]
      rfl
    refine ⟨.threw q, U.calling g mk a, s₂, _, L, XS, rfl, rfl, hL, rfl, hqc, ?_⟩
    show Steps p.tables e below _ (((({ U with heap := s₂.heap, slotsUsed := s₂.slotsUsed } : State).setVm s₂.vm).setTop g).pushFrame (.throwing q))
    rw [← hs₂]
    exact hsteps
end Back
section Front
variable {p : Program} {l : Launch} {e : Env} {R : Room} {s : State} {m : MethodId} {args : Array Value} {below : List Frame} {meth : Method} {c : Code} {T : State} {H : Heap} {locs : List Loc} {cells slots : Nat}
/-- an invoking instruction, up to the callee's entry -/
def x_Fr (p : Program) (l : Launch) (e : Env) (R : Room) (s : State) (m : MethodId) (args : Array Value) (below : List Frame) (meth : Method) (c : Code) (T : State) (locs : List Loc) (cells slots : Nat) (g : JFrame) (rest : List Value) (y : MethodName) (As : List Value) : Prop :=
  ∃ (vm₁ : Vm) (mk : MethodId), Stand p l e R s m args below meth c (T.setVm vm₁) locs cells slots ∧ s.methodNamed? y = some mk ∧
    ∀ target, (∀ acts, Steps p.tables e below (doInvoke e ((T.setVm vm₁).setTop { g with stack := rest }) acts mk As.toArray).1 target) → Steps p.tables e below (T.setTop g) target
theorem x_frV (X : Stand p l e R s m args below meth c T locs cells slots) (hexec : p.tables.exec = Jvm.exec) {own C : String} {index : Nat} {y : MethodName} {cc : ByteArray} {mx : Nat} {ret : Option FieldType} {hh : List (Nat × Nat × Nat × Nat)}
    (hown : s.vm.findClass own = some m.cls) (hlink : (Jvm.Cond.methodLink own index y).before args s = true) (hinst : (Jvm.Cond.instanceMethod y).before args s = true) (hsel : (Jvm.Cond.selects C y y).before args s = true)
    (hcd : x_cd y cc mx ret hh s) (hy : y.cls ≠ "java/lang/invoke/MethodHandle" ∧ y.cls ≠ "java/lang/invoke/VarHandle")
    {b : Addr} {cellB : Cell} (hcell : T.heap[b]? = some cellB) (hobj : cellB.vm.isStatics = false) (hcls : s.vm.findClass C = some cellB.cls)
    {g : JFrame} (hg : g.method = m) {As rest : List Value} (hlen : ∀ sig, parseMethodDescriptor y.desc = some sig → As.length = sig.parameters.length)
    (hstack : g.stack = As.reverse ++ .ref b :: rest) (hdg : decode c.code g.pc = .ok (.invokevirtual index, 3)) : x_Fr p l e R s m args below meth c T locs cells slots g rest y (.ref b :: As) := by
  obtain ⟨mk, methM, hnamed, hmethM, hstM, habM⟩ := Cond.instanceMethod_spec hinst
  obtain ⟨mk', methM', cM, hnamed', hmethM', -, -, -, -, -, -, hsigM⟩ := hcd
  cases Option.some.inj (hnamed.symm.trans hnamed')
  cases hmethM.symm.trans hmethM'
  obtain ⟨c2, r2, m2, q1, q2, q3, q4, kP, hkP, hkPi⟩ := Cond.selects_spec hsel
  cases hcls.symm.trans q1
  cases (State.methodFound?_of_named hnamed hy).symm.trans q2
  cases hnamed.symm.trans q3
  have hselP : selectMethod e.platform s.vm cellB.cls mk = .method mk := by rw [Launch.admits_selectMethod X.admits]; exact q4
  obtain ⟨vm₁, X₁, hstep₁⟩ := X.invokevirtual hexec hown hlink hnamed hmethM hstM hkP hkPi hy (a := b) (cell := cellB) hcell
    (fun z h => by rw [h] at hobj; cases hobj) hselP hmethM habM hkP hkPi (g := g) hg (argsL := As) (rest := rest) (hlen _ hsigM) hstack hdg
  exact ⟨vm₁, mk, X₁, hnamed, hstep₁⟩
theorem x_frS (X : Stand p l e R s m args below meth c T locs cells slots) (hexec : p.tables.exec = Jvm.exec) {own : String} {index : Nat} {y : MethodName} {cc : ByteArray} {mx : Nat} {ret : Option FieldType} {hh : List (Nat × Nat × Nat × Nat)}
    (hown : s.vm.findClass own = some m.cls) (hlink : (Jvm.Cond.methodLink own index y).before args s = true) (hstat : (Jvm.Cond.static y).before args s = true) (hinit : (Jvm.Cond.initialized y.cls).before args s = true)
    (hcd : x_cd y cc mx ret hh s) (hy : y.cls ≠ "java/lang/invoke/MethodHandle" ∧ y.cls ≠ "java/lang/invoke/VarHandle")
    {g : JFrame} (hg : g.method = m) {As rest : List Value} (hlen : ∀ sig, parseMethodDescriptor y.desc = some sig → As.length = sig.parameters.length)
    (hstack : g.stack = As.reverse ++ rest) (hdg : decode c.code g.pc = .ok (.invokestatic index, 3)) : x_Fr p l e R s m args below meth c T locs cells slots g rest y As := by
  obtain ⟨mk, methM, cM, hnamed, hmethM, -, -, -, -, -, -, hsigM⟩ := hcd
  have hstatic : methM.isStatic = true := Cond.static_spec hnamed hmethM hstat
  obtain ⟨kP, hkP, -⟩ := className_of_methodNamed hnamed
  have hinitP : kP.init = .initialized := Cond.initialized_spec (findClass_of_methodNamed hnamed) hkP hinit
  obtain ⟨vm₁, X₁, hstep₁⟩ := X.invokestatic hexec hown hlink hnamed hmethM hstatic hkP hinitP hy (g := g) hg (argsL := As) (rest := rest) (hlen _ hsigM) hstack hdg
  exact ⟨vm₁, mk, X₁, hnamed, hstep₁⟩
theorem x_frI (X : Stand p l e R s m args below meth c T locs cells slots) (hexec : p.tables.exec = Jvm.exec) {own : String} {index : Nat} {y : MethodName} {cc : ByteArray} {mx : Nat}
    (hown : s.vm.findClass own = some m.cls) (hy1 : y.name = "<init>") (hlink : (Jvm.Cond.methodLink own index y).before args s = true) (hinst : (Jvm.Cond.instanceMethod y).before args s = true)
    (hcode : (Jvm.Cond.code y cc mx none).before args s = true) (hy : y.cls ≠ "java/lang/invoke/MethodHandle" ∧ y.cls ≠ "java/lang/invoke/VarHandle")
    {g : JFrame} (hg : g.method = m) {b : Addr} {As rest : List Value} (hlen : ∀ sig, parseMethodDescriptor y.desc = some sig → As.length = sig.parameters.length)
    (hstack : g.stack = As.reverse ++ .ref b :: rest) (hdg : decode c.code g.pc = .ok (.invokespecial index, 3)) : x_Fr p l e R s m args below meth c T locs cells slots g rest y (.ref b :: As) := by
  subst hg
  have hpl : e.platform.magicAccessors = ({} : Platform).magicAccessors := by rw [X.admits.platform]
  obtain ⟨mk, methM, cM, kP, vm₁, hnamed, hmethM, hcodeM, -, hlocalsM, -, hkP, -, hW₁, hstep₁⟩ := Steps.initColdArgs (e := e) X.here hexec X.warmed hpl hown hy1 hy hlink hinst hcode (f := g) rfl hlen hstack hdg
  exact ⟨vm₁, mk, X.noted hW₁, hnamed, hstep₁⟩
theorem x_frIN (X : Stand p l e R s m args below meth c T locs cells slots) (hexec : p.tables.exec = Jvm.exec) {own host : String} {index : Nat} {y : MethodName} {cc : ByteArray} {mx : Nat}
    (hown : s.vm.findClass own = some m.cls) (hy1 : y.name = "<init>") (hlink : (Jvm.Cond.methodLinkNest own index y host).before args s = true) (hinst : (Jvm.Cond.instanceMethod y).before args s = true)
    (hcode : (Jvm.Cond.code y cc mx none).before args s = true) (hy : y.cls ≠ "java/lang/invoke/MethodHandle" ∧ y.cls ≠ "java/lang/invoke/VarHandle")
    {g : JFrame} (hg : g.method = m) {b : Addr} {As rest : List Value} (hlen : ∀ sig, parseMethodDescriptor y.desc = some sig → As.length = sig.parameters.length)
    (hstack : g.stack = As.reverse ++ .ref b :: rest) (hdg : decode c.code g.pc = .ok (.invokespecial index, 3)) : x_Fr p l e R s m args below meth c T locs cells slots g rest y (.ref b :: As) := by
  subst hg
  have hpl : e.platform.magicAccessors = ({} : Platform).magicAccessors := by rw [X.admits.platform]
  obtain ⟨mk, methM, cM, kP, vm₁, hnamed, hmethM, hcodeM, -, hlocalsM, -, hkP, -, hW₁, hstep₁⟩ := Steps.initColdArgsNest (e := e) X.here hexec X.warmed hpl hown hy1 hy hlink hinst hcode (f := g) rfl hlen hstack hdg
  exact ⟨vm₁, mk, X.noted hW₁, hnamed, hstep₁⟩
theorem x_call {Q : State → Prop} {ws : List Jvm.Cond} {rm : Room} {Pc : Array Value → State → Prop} {Qc : Array Value → State → Outcome → State → Prop} {mc ms : Nat} {free : Addr → Prop} {cc cb : ByteArray} {mx : Nat} {ret : Option FieldType} {hh : List (Nat × Nat × Nat × Nat)} {y : MethodName} {pc : Nat} {ls : Array Slot} {st0 rest As : List Value} {ig : Instr}
    (hb : c.code = cc) (hdg : decode cc pc = .ok (ig, 3)) (hsize : ls.size = c.maxLocals)
    (hfr : ∀ T, T.heap = H → Stand p l e R s m args below meth c T locs cells slots → x_Fr p l e R s m args below meth c T locs cells slots (F0 m pc ls st0) rest y As)
    (hM : x_Met l y ws rm Pc Qc mc ms free) (hblind : FrameBlind Pc) (hrc : rm.cells = mc) (hrs : rm.slots = ms) (hframes : rm.frames + 1 ≤ R.frames) (hlocals : 8 + (mx + 11) + rm.locals ≤ R.locals)
    (hws : ∀ w ∈ ws, ∀ (a' : Array Value) (U : State), s.WarmedH U.vm → w.before a' U = true) (hcd : ∀ (a' : Array Value) (U : State), (∀ w ∈ ws, w.before a' U = true) → x_cd y cb mx ret hh U)
    (hinit : ∀ (a' : Array Value) (U : State), s.WarmedH U.vm → (Jvm.Cond.initialized y.cls).before a' U = true)
    (hW : (rest.map fun v => v.category).sum ≤ 8) (hcells : cells + mc ≤ R.cells) (hslots : slots + ms ≤ R.slots) (hP : ∀ U : State, U.heap = H → s.WarmedH U.vm → Pc As.toArray U)
    (kr : ∀ (v : Option Value) (st₀ t : State) (L : List Loc), st₀.heap = H → Qc As.toArray st₀ (.returned v) t → s.WarmedH t.vm → (∀ q ∈ L, free q.base) → W p l e R s m args below meth c t.heap (locs ++ L) (cells + mc) (slots + ms) Q (F0 m (pc + 3) ls (v.toList ++ rest)))
    (kx : ∀ (q : Addr) (st₀ t : State) (L : List Loc), st₀.heap = H → Qc As.toArray st₀ (.threw q) t → s.WarmedH t.vm → (∀ z ∈ L, free z.base) → x_W p l e R s m args below meth c t.heap (locs ++ L) (cells + mc) (slots + ms) Q (F0 m pc ls rest) q) :
    W p l e R s m args below meth c H locs cells slots Q (F0 m pc ls st0) := by
  intro T hT X
  obtain ⟨vm₁, mk, X₁, hn, hst⟩ := hfr T hT X
  obtain ⟨o, st₀, t, T', L, X', e1, e2, hL, h0, hq, hs⟩ := x_back (g := F0 m pc ls rest) (ig := ig) (a := As.toArray) (mk := mk) hM hblind hrc hrs hframes hlocals hws hcd hinit X₁ rfl hsize (by rw [hb]; exact hdg) (by simpa using hW) (X₁.named hn) hcells hslots (hP (T.setVm vm₁) hT X₁.warmed)
  have h0' : st₀.heap = H := h0.trans hT
  have hWt : s.WarmedH t.vm := by rw [← e2]; exact X'.warmed
  cases o with
  | returned v =>
    obtain ⟨t2, a1, b1⟩ := kr v st₀ t L h0' hq hWt hL T' e1 X'
    exact ⟨t2, hst _ (fun acts => by rw [doInvoke_state]; exact hs.trans a1), b1⟩
  | threw q =>
    obtain ⟨t2, a1, b1⟩ := kx q st₀ t L h0' hq hWt hL T' e1 X'
    exact ⟨t2, hst _ (fun acts => by rw [doInvoke_state]; exact hs.trans a1), b1⟩
/-- an end of the kit's that returns is an end of ours -/
theorem x_ret {Qc : Array Value → State → Outcome → State → Prop} {mc ms : Nat} {free : Addr → Prop} {g : JFrame} (k : W p l e R s m args below meth c H locs cells slots (MQ below Qc args s mc ms free) g) : W p l e R s m args below meth c H locs cells slots (x_MQ below Qc args s mc ms free) g := by
  intro T hT X
  obtain ⟨t, a1, o, b1, b2, b3, L, ⟨-, b4, b5⟩, b6⟩ := k T hT X
  exact ⟨t, a1, o, b1, b2, b3, b4, L, b5, b6⟩
/-- not caught here: on to the caller -/
theorem x_out {Qc : Array Value → State → Outcome → State → Prop} {mc ms : Nat} {free : Addr → Prop} {pc : Nat} {ls : Array Slot} {rest : List Value} {q : Addr} (hout : ∀ x ∈ c.exceptionTable.toList, covers x pc = false) (hlocks : meth.locks = false)
    (hx : ∀ t : State, t.heap = H → s.WarmedH t.vm → Qc args s (.threw q) t) (hf : ∀ z ∈ locs, free z.base) (hc : cells ≤ mc) (hs : slots ≤ ms) :
    x_W p l e R s m args below meth c H locs cells slots (x_MQ below Qc args s mc ms free) (F0 m pc ls rest) q := by
  intro T hT X
  obtain ⟨st1, hrun, hend, hW, hsm⟩ := X.leaveThrown q (g := F0 m pc ls rest) rfl rfl rfl hout hlocks
  exact ⟨_, st1, .threw q, hrun, hend, hx _ hT hW, hW, locs, hsm.mono hc hs, hf⟩
end Front
end XA
end
section
/-! The program's tables: classes, fields, methods, codes, words; printed by wip/gen/tables.py. -/
def k_no : Nat := 11
def k_na : Nat := 8
def k_nm : Nat := 170
def k_nj : Nat := 169
def k_host : String := "TwinRooms"
def k_cns : List String := ["TwinRooms$Ambulance", "TwinRooms$CallRecord", "TwinRooms$Letter", "TwinRooms$Room", "TwinRooms$Sighting", "TwinRooms", "TwinRooms$Post", "TwinRooms$QuestionCard", "TwinRooms$Referee", "TwinRooms$RoadMap", "TwinRoomsModel", "TwinRoomsLaw"]
def k_cn (c : Nat) : String := k_cns.getD c ""
def k_ft : Nat → List FieldType
  | 0 => [.int, .int, .int, .int, .int, .int, .int]
  | 1 => [.boolean, .int, .int, .int, .int, .int, .int, .int, .int, .int]
  | 2 => [.int, .int, .int, .int, .int, .int, .long, .int, .int, .int, .object "TwinRooms$CallRecord"]
  | 3 => [.boolean, .int, .long, .int, .array .int, .array (.object "TwinRooms$CallRecord"), .array .boolean, .array (.object "TwinRooms$Sighting"), .array .long, .array .int]
  | 4 => [.boolean, .boolean, .int, .int, .int, .int]
  | 5 => [.object "TwinRooms$RoadMap", .object "TwinRooms$QuestionCard", .array (.object "TwinRooms$Ambulance"), .array (.object "TwinRooms$Room"), .object "TwinRooms$Referee", .object "TwinRooms$Post"]
  | 6 => [.array (.object "TwinRooms$Letter"), .int, .object "TwinRooms$Letter"]
  | 7 => [.array .int, .array .int, .array .int, .array .int]
  | 8 => [.long, .array (.object "TwinRooms$CallRecord"), .array .int, .array .long, .int]
  | 9 => [.array .int, .array .int, .array .int, .int]
  | 10 => [.array .int, .int, .array .int, .array .int, .array .int, .array .int, .array .int, .array .int, .array .int, .array .int, .array .int, .array .int, .array .int, .array .int, .array .int, .array .int, .array .long, .array .int, .array .boolean, .array .int, .array .int, .array .long, .int, .array .int, .array .int, .array .long, .array .int, .array .boolean, .array .int, .array .int, .array .int, .array .int, .array .int, .array .int, .array .int, .array .int, .array .int, .array .boolean, .array .boolean, .array .int, .array .int, .array .int, .array .int, .array .boolean, .int, .array .int, .array .int, .array .int, .array .int, .array .int, .array .int, .array .int, .array .int, .array .int, .array .int, .array .int, .array .int, .array .int, .array .long, .int]
  | _ => []
def k_fd : Nat → List (String × String × Bool)
  | 0 => [("state", "I", false), ("junction", "I", false), ("skill", "I", false), ("serial", "I", false), ("call", "I", false), ("target", "I", false), ("highestObeyed", "I", false)]
  | 1 => [("known", "Z", false), ("junction", "I", false), ("hash", "I", false), ("node", "I", false), ("grade", "I", false), ("state", "I", false), ("unit", "I", false), ("linked", "I", false), ("grantNumber", "I", false), ("changes", "I", false)]
  | 2 => [("kind", "I", false), ("sender", "I", false), ("receiver", "I", false), ("about", "I", false), ("number", "I", false), ("changes", "I", false), ("clock", "J", false), ("junction", "I", false), ("state", "I", false), ("call", "I", false), ("record", "LTwinRooms$CallRecord;", true)]
  | 3 => [("up", "Z", false), ("clockSpeed", "I", false), ("clock", "J", false), ("callsTaken", "I", false), ("grants", "[I", true), ("records", "[LTwinRooms$CallRecord;", true), ("sure", "[Z", true), ("sightings", "[LTwinRooms$Sighting;", true), ("askedAt", "[J", true), ("highestGrants", "[I", true)]
  | 4 => [("known", "Z", false), ("orderSent", "Z", false), ("junction", "I", false), ("state", "I", false), ("call", "I", false), ("serial", "I", false)]
  | 5 => [("roadMap", "LTwinRooms$RoadMap;", true), ("questionCard", "LTwinRooms$QuestionCard;", true), ("ambulances", "[LTwinRooms$Ambulance;", true), ("rooms", "[LTwinRooms$Room;", true), ("referee", "LTwinRooms$Referee;", true), ("post", "LTwinRooms$Post;", true)]
  | 6 => [("waiting", "[LTwinRooms$Letter;", true), ("count", "I", false), ("removed", "LTwinRooms$Letter;", false)]
  | 7 => [("yesNodes", "[I", true), ("noNodes", "[I", true), ("grades", "[I", true), ("most", "[I", true)]
  | 8 => [("clock", "J", false), ("records", "[LTwinRooms$CallRecord;", true), ("grantedTo", "[I", true), ("grantedAt", "[J", true), ("lastNumber", "I", false)]
  | 9 => [("districtOf", "[I", true), ("ways", "[I", true), ("roadSeconds", "[I", true), ("roads", "I", false)]
  | 10 => [("road", "[I", true), ("roads", "I", false), ("districtOf", "[I", true), ("sum", "[I", true), ("leaf", "[I", true), ("nodeYes", "[I", true), ("nodeNo", "[I", true), ("deep", "[I", true), ("deeper", "[I", true), ("unitJunction", "[I", true), ("unitSkill", "[I", true), ("unitState", "[I", true), ("unitCall", "[I", true), ("unitGoal", "[I", true), ("unitSerial", "[I", true), ("unitHighest", "[I", true), ("clock", "[J", true), ("speed", "[I", true), ("down", "[Z", true), ("grantRoom", "[I", true), ("grantNumber", "[I", true), ("grantWhen", "[J", true), ("series", "I", false), ("hasNumber", "[I", true), ("everNumber", "[I", true), ("hasAsked", "[J", true), ("taken", "[I", true), ("knows", "[Z", true), ("junction", "[I", true), ("hash", "[I", true), ("node", "[I", true), ("grade", "[I", true), ("state", "[I", true), ("ordered", "[I", true), ("linked", "[I", true), ("stampGrant", "[I", true), ("stampChanges", "[I", true), ("sure", "[Z", true), ("heard", "[Z", true), ("heardState", "[I", true), ("heardJunction", "[I", true), ("heardCall", "[I", true), ("heardSerial", "[I", true), ("counted", "[Z", true), ("waiting", "I", false), ("kind", "[I", true), ("by", "[I", true), ("to", "[I", true), ("about", "[I", true), ("number", "[I", true), ("changes", "[I", true), ("atJunction", "[I", true), ("itsHash", "[I", true), ("itsNode", "[I", true), ("itsGrade", "[I", true), ("itsState", "[I", true), ("itsUnit", "[I", true), ("itsLinked", "[I", true), ("itsClock", "[J", true), ("thrown", "I", false)]
  | _ => []
def k_tf (c : Nat) : u_T := fun k => (k_cn c, (k_fd c).getD k ("", "", false))
def k_cl : List vw_C := (List.range k_no).map (fun c => (k_cn c, k_tf c, (k_ft c).length))
def k_aty : Nat → FieldType
  | 0 => .int
  | 1 => .long
  | 2 => .boolean
  | t + 3 => .object (k_cn t)
def k_en (x : Nat) : String := if x = 0 then "java/lang/IllegalArgumentException" else "java/lang/IllegalStateException"
abbrev i_X : Type := Nat × Instr × Nat × Nat × Nat × Nat
abbrev i_T : Type := Nat × List i_X × Nat × Option FieldType × Nat × Nat
def c_0 : List i_X := [(0, .aload_n 0, 1, 0, 0, 0), (1, .invokespecial 1, 3, 0, 0, 0), (4, .aload_n 0, 1, 0, 0, 0), (5, .new 7, 3, 9, 0, 1), (8, .dup, 1, 0, 0, 0), (9, .invokespecial 9, 3, 86, 1, 2), (12, .putfield 10, 3, 5, 0, 3), (15, .aload_n 0, 1, 0, 0, 0), (16, .new 16, 3, 7, 0, 4), (19, .dup, 1, 0, 0, 0), (20, .invokespecial 18, 3, 75, 1, 5), (23, .putfield 19, 3, 5, 1, 6), (26, .aload_n 0, 1, 0, 0, 0), (27, .bipush 6, 2, 0, 0, 0), (29, .anewarray 23, 3, 0, 6, 7), (32, .putfield 25, 3, 5, 2, 8), (35, .aload_n 0, 1, 0, 0, 0), (36, .iconst 2, 1, 0, 0, 0), (37, .anewarray 29, 3, 3, 2, 9), (40, .putfield 31, 3, 5, 3, 10), (43, .aload_n 0, 1, 0, 0, 0), (44, .new 35, 3, 8, 0, 11), (47, .dup, 1, 0, 0, 0), (48, .invokespecial 37, 3, 83, 1, 12), (51, .putfield 38, 3, 5, 4, 13), (54, .aload_n 0, 1, 0, 0, 0), (55, .new 42, 3, 6, 0, 14), (58, .dup, 1, 0, 0, 0), (59, .invokespecial 44, 3, 70, 1, 15), (62, .putfield 45, 3, 5, 5, 16), (65, .iconst 0, 1, 0, 0, 0), (66, .istore_n 1, 1, 0, 0, 0), (67, .iload_n 1, 1, 0, 0, 0), (68, .bipush 6, 2, 0, 0, 0), (70, .if_icmp .ge 22, 3, 0, 0, 0), (73, .aload_n 0, 1, 0, 0, 0), (74, .getfield 25, 3, 5, 2, 8), (77, .iload_n 1, 1, 0, 0, 0), (78, .new 23, 3, 0, 0, 7), (81, .dup, 1, 0, 0, 0), (82, .invokespecial 49, 3, 54, 1, 17), (85, .aastore, 1, 0, 0, 0), (86, .iinc 1 1, 3, 0, 0, 0), (89, .goto (-22), 3, 0, 0, 0), (92, .iconst 0, 1, 0, 0, 0), (93, .istore_n 1, 1, 0, 0, 0), (94, .iload_n 1, 1, 0, 0, 0), (95, .iconst 2, 1, 0, 0, 0), (96, .if_icmp .ge 22, 3, 0, 0, 0), (99, .aload_n 0, 1, 0, 0, 0), (100, .getfield 31, 3, 5, 3, 10), (103, .iload_n 1, 1, 0, 0, 0), (104, .new 29, 3, 3, 0, 9), (107, .dup, 1, 0, 0, 0), (108, .invokespecial 50, 3, 91, 1, 18), (111, .aastore, 1, 3, 0, 0), (112, .iinc 1 1, 3, 0, 0, 0), (115, .goto (-21), 3, 0, 0, 0), (118, .return_, 1, 0, 0, 0)]
def t_0 : i_T := (0, c_0, 2, none, 197, 2093)
def c_1 : List i_X := [(0, .iload_n 1, 1, 0, 0, 0), (1, .invokestatic 51, 3, 28, 2, 19), (4, .ifCond .eq 15, 3, 0, 0, 0), (7, .iload_n 2, 1, 0, 0, 0), (8, .invokestatic 51, 3, 28, 2, 19), (11, .ifCond .eq 8, 3, 0, 0, 0), (14, .iload_n 1, 1, 0, 0, 0), (15, .iload_n 2, 1, 0, 0, 0), (16, .if_icmp .ne 5, 3, 0, 0, 0), (19, .iconst 0, 1, 0, 0, 0), (20, .ireturn, 1, 0, 0, 0), (21, .iload_n 3, 1, 0, 0, 0), (22, .ifCond .lt 10, 3, 0, 0, 0), (25, .iload_n 3, 1, 0, 0, 0), (26, .sipush 999, 3, 0, 0, 0), (29, .if_icmp .le 5, 3, 0, 0, 0), (32, .iconst 0, 1, 0, 0, 0), (33, .ireturn, 1, 0, 0, 0), (34, .aload_n 0, 1, 0, 0, 0), (35, .getfield 10, 3, 5, 0, 3), (38, .iload_n 1, 1, 0, 0, 0), (39, .iload_n 2, 1, 0, 0, 0), (40, .iload_n 3, 1, 0, 0, 0), (41, .invokevirtual 55, 3, 87, 3, 20), (44, .ireturn, 1, 0, 0, 0)]
def t_1 : i_T := (1, c_1, 4, (some .boolean), 0, 0)
def c_2 : List i_X := [(0, .iload_n 1, 1, 0, 0, 0), (1, .invokestatic 51, 3, 28, 2, 19), (4, .ifCond .eq 10, 3, 0, 0, 0), (7, .iload_n 2, 1, 0, 0, 0), (8, .invokestatic 59, 3, 29, 2, 21), (11, .ifCond .ne 5, 3, 0, 0, 0), (14, .iconst 0, 1, 0, 0, 0), (15, .ireturn, 1, 0, 0, 0), (16, .aload_n 0, 1, 0, 0, 0), (17, .getfield 10, 3, 5, 0, 3), (20, .getfield 62, 3, 9, 0, 22), (23, .iload_n 1, 1, 0, 0, 0), (24, .iload_n 2, 1, 0, 0, 0), (25, .iastore, 1, 0, 0, 0), (26, .iconst 1, 1, 0, 0, 0), (27, .ireturn, 1, 0, 0, 0)]
def t_2 : i_T := (2, c_2, 3, (some .boolean), 0, 0)
def c_3 : List i_X := [(0, .iload_n 1, 1, 0, 0, 0), (1, .invokestatic 66, 3, 30, 2, 23), (4, .ifCond .eq 14, 3, 0, 0, 0), (7, .iload 4, 2, 0, 0, 0), (9, .ifCond .lt 9, 3, 0, 0, 0), (12, .iload 4, 2, 0, 0, 0), (14, .iconst 5, 1, 0, 0, 0), (15, .if_icmp .le 5, 3, 0, 0, 0), (18, .iconst 0, 1, 0, 0, 0), (19, .ireturn, 1, 0, 0, 0), (20, .iload 4, 2, 0, 0, 0), (22, .ifCond .le 15, 3, 0, 0, 0), (25, .aload_n 0, 1, 0, 0, 0), (26, .getfield 19, 3, 5, 1, 6), (29, .iload_n 1, 1, 0, 0, 0), (30, .iload 4, 2, 0, 0, 0), (32, .invokevirtual 69, 3, 76, 2, 24), (35, .iconst 1, 1, 0, 0, 0), (36, .ireturn, 1, 0, 0, 0), (37, .iload_n 2, 1, 0, 0, 0), (38, .invokestatic 66, 3, 30, 2, 23), (41, .ifCond .eq 10, 3, 0, 0, 0), (44, .iload_n 3, 1, 0, 0, 0), (45, .invokestatic 66, 3, 30, 2, 23), (48, .ifCond .ne 5, 3, 0, 0, 0), (51, .iconst 0, 1, 0, 0, 0), (52, .ireturn, 1, 0, 0, 0), (53, .aload_n 0, 1, 0, 0, 0), (54, .getfield 19, 3, 5, 1, 6), (57, .iload_n 1, 1, 0, 0, 0), (58, .iload_n 2, 1, 0, 0, 0), (59, .iload_n 3, 1, 0, 0, 0), (60, .invokevirtual 73, 3, 77, 3, 25), (63, .iconst 1, 1, 0, 0, 0), (64, .ireturn, 1, 0, 0, 0)]
def t_3 : i_T := (3, c_3, 5, (some .boolean), 0, 0)
def c_4 : List i_X := [(0, .iload_n 1, 1, 0, 0, 0), (1, .invokestatic 66, 3, 30, 2, 23), (4, .ifCond .eq 14, 3, 0, 0, 0), (7, .aload_n 0, 1, 0, 0, 0), (8, .getfield 19, 3, 5, 1, 6), (11, .iload_n 1, 1, 0, 0, 0), (12, .invokevirtual 77, 3, 81, 1, 26), (15, .goto 4, 3, 0, 0, 0), (18, .iconst (-1), 1, 0, 0, 0), (19, .ireturn, 1, 0, 0, 0)]
def t_4 : i_T := (4, c_4, 2, (some .int), 0, 0)
def c_5 : List i_X := [(0, .iload_n 1, 1, 0, 0, 0), (1, .invokestatic 81, 3, 31, 2, 27), (4, .ifCond .eq 19, 3, 0, 0, 0), (7, .iload_n 2, 1, 0, 0, 0), (8, .invokestatic 51, 3, 28, 2, 19), (11, .ifCond .eq 12, 3, 0, 0, 0), (14, .iload_n 3, 1, 0, 0, 0), (15, .ifCond .lt 8, 3, 0, 0, 0), (18, .iload_n 3, 1, 0, 0, 0), (19, .iconst 2, 1, 0, 0, 0), (20, .if_icmp .le 5, 3, 0, 0, 0), (23, .iconst 0, 1, 0, 0, 0), (24, .ireturn, 1, 0, 0, 0), (25, .aload_n 0, 1, 0, 0, 0), (26, .getfield 25, 3, 5, 2, 8), (29, .iload_n 1, 1, 0, 0, 0), (30, .aaload, 1, 0, 0, 0), (31, .astore 4, 2, 0, 0, 0), (33, .aload 4, 2, 0, 0, 0), (35, .getfield 84, 3, 0, 0, 28), (38, .ifCond .eq 14, 3, 0, 0, 0), (41, .aload 4, 2, 0, 0, 0), (43, .getfield 84, 3, 0, 0, 28), (46, .iconst 3, 1, 0, 0, 0), (47, .if_icmp .eq 5, 3, 0, 0, 0), (50, .iconst 0, 1, 0, 0, 0), (51, .ireturn, 1, 0, 0, 0), (52, .aload 4, 2, 0, 0, 0), (54, .iload_n 2, 1, 0, 0, 0), (55, .putfield 88, 3, 0, 1, 29), (58, .aload 4, 2, 0, 0, 0), (60, .iload_n 3, 1, 0, 0, 0), (61, .putfield 91, 3, 0, 2, 30), (64, .iconst 1, 1, 0, 0, 0), (65, .ireturn, 1, 0, 0, 0)]
def t_5 : i_T := (5, c_5, 5, (some .boolean), 0, 0)
def c_6 : List i_X := [(0, .iload_n 1, 1, 0, 0, 0), (1, .invokestatic 81, 3, 31, 2, 27), (4, .ifCond .eq 16, 3, 0, 0, 0), (7, .aload_n 0, 1, 0, 0, 0), (8, .getfield 25, 3, 5, 2, 8), (11, .iload_n 1, 1, 0, 0, 0), (12, .aaload, 1, 0, 0, 0), (13, .iload_n 2, 1, 0, 0, 0), (14, .invokevirtual 94, 3, 55, 1, 31), (17, .ifCond .ne 5, 3, 0, 0, 0), (20, .iconst 0, 1, 0, 0, 0), (21, .ireturn, 1, 0, 0, 0), (22, .aload_n 0, 1, 0, 0, 0), (23, .getfield 25, 3, 5, 2, 8), (26, .iload_n 1, 1, 0, 0, 0), (27, .aaload, 1, 0, 0, 0), (28, .iload_n 2, 1, 0, 0, 0), (29, .invokevirtual 97, 3, 56, 1, 32), (32, .aload_n 0, 1, 0, 0, 0), (33, .iload_n 1, 1, 0, 0, 0), (34, .invokevirtual 101, 3, 48, 1, 33), (37, .iconst 1, 1, 0, 0, 0), (38, .ireturn, 1, 0, 0, 0)]
def t_6 : i_T := (6, c_6, 3, (some .boolean), 0, 0)
def c_7 : List i_X := [(0, .iload_n 1, 1, 0, 0, 0), (1, .invokestatic 104, 3, 32, 2, 34), (4, .ifCond .eq 15, 3, 0, 0, 0), (7, .iload_n 2, 1, 0, 0, 0), (8, .bipush 49, 2, 0, 0, 0), (10, .if_icmp .lt 9, 3, 0, 0, 0), (13, .iload_n 2, 1, 0, 0, 0), (14, .bipush 51, 2, 0, 0, 0), (16, .if_icmp .le 5, 3, 0, 0, 0), (19, .iconst 0, 1, 0, 0, 0), (20, .ireturn, 1, 0, 0, 0), (21, .aload_n 0, 1, 0, 0, 0), (22, .getfield 31, 3, 5, 3, 10), (25, .iload_n 1, 1, 0, 0, 0), (26, .aaload, 1, 3, 0, 0), (27, .iload_n 2, 1, 0, 0, 0), (28, .putfield 107, 3, 3, 1, 35), (31, .iconst 1, 1, 0, 0, 0), (32, .ireturn, 1, 0, 0, 0)]
def t_7 : i_T := (7, c_7, 3, (some .boolean), 0, 0)
def c_8 : List i_X := [(0, .iload_n 1, 1, 0, 0, 0), (1, .ifCond .lt 10, 3, 0, 0, 0), (4, .iload_n 1, 1, 0, 0, 0), (5, .sipush 1000, 3, 0, 0, 0), (8, .if_icmp .le 11, 3, 0, 0, 0), (11, .new 110, 3, 0, 112, 36), (19, .aload_n 0, 1, 0, 0, 0), (20, .getfield 38, 3, 5, 4, 13), (23, .dup, 1, 0, 0, 0), (24, .getfield 113, 3, 8, 0, 37), (27, .iload_n 1, 1, 0, 0, 0), (28, .i2l, 1, 0, 0, 0), (29, .ldc2_w 117, 3, 50, 0, 38), (32, .lmul, 1, 0, 0, 0), (33, .ladd, 1, 0, 0, 0), (34, .putfield 113, 3, 8, 0, 37), (37, .iconst 0, 1, 0, 0, 0), (38, .istore_n 2, 1, 0, 0, 0), (39, .iload_n 2, 1, 0, 0, 0), (40, .iconst 2, 1, 0, 0, 0), (41, .if_icmp .ge 36, 3, 0, 0, 0), (44, .aload_n 0, 1, 0, 0, 0), (45, .getfield 31, 3, 5, 3, 10), (48, .iload_n 2, 1, 0, 0, 0), (49, .aaload, 1, 3, 0, 0), (50, .dup, 1, 0, 0, 0), (51, .getfield 119, 3, 3, 2, 39), (54, .iload_n 1, 1, 0, 0, 0), (55, .i2l, 1, 0, 0, 0), (56, .aload_n 0, 1, 0, 0, 0), (57, .getfield 31, 3, 5, 3, 10), (60, .iload_n 2, 1, 0, 0, 0), (61, .aaload, 1, 3, 0, 0), (62, .getfield 107, 3, 3, 1, 35), (65, .i2l, 1, 0, 0, 0), (66, .lmul, 1, 0, 0, 0), (67, .ladd, 1, 0, 0, 0), (68, .putfield 119, 3, 3, 2, 39), (71, .iinc 2 1, 3, 0, 0, 0), (74, .goto (-35), 3, 0, 0, 0), (77, .aload_n 0, 1, 0, 0, 0), (78, .getfield 38, 3, 5, 4, 13), (81, .getfield 113, 3, 8, 0, 37), (84, .lreturn, 1, 0, 0, 0)]
def t_8 : i_T := (8, c_8, 3, (some .long), 1, 6)
def c_9 : List i_X := [(0, .iload_n 1, 1, 0, 0, 0), (1, .invokestatic 104, 3, 32, 2, 34), (4, .ifCond .eq 10, 3, 0, 0, 0), (7, .iload_n 2, 1, 0, 0, 0), (8, .invokestatic 59, 3, 29, 2, 21), (11, .ifCond .ne 11, 3, 0, 0, 0), (14, .new 110, 3, 0, 112, 36), (22, .aload_n 0, 1, 0, 0, 0), (23, .getfield 31, 3, 5, 3, 10), (26, .iload_n 1, 1, 0, 0, 0), (27, .aaload, 1, 3, 0, 0), (28, .getfield 120, 3, 3, 0, 40), (31, .ifCond .ne 11, 3, 0, 0, 0), (34, .new 124, 3, 1, 126, 41), (42, .aload_n 0, 1, 0, 0, 0), (43, .getfield 45, 3, 5, 5, 16), (46, .iconst 0, 1, 0, 0, 0), (47, .iload_n 1, 1, 0, 0, 0), (48, .iconst 2, 1, 0, 0, 0), (49, .iload_n 2, 1, 0, 0, 0), (50, .iconst 0, 1, 0, 0, 0), (51, .invokevirtual 127, 3, 72, 5, 42), (54, .astore_n 3, 1, 0, 0, 0), (55, .aload_n 3, 1, 0, 0, 0), (56, .aload_n 0, 1, 0, 0, 0), (57, .getfield 31, 3, 5, 3, 10), (60, .iload_n 1, 1, 0, 0, 0), (61, .aaload, 1, 3, 0, 0), (62, .getfield 119, 3, 3, 2, 39), (65, .putfield 131, 3, 2, 6, 43), (68, .return_, 1, 0, 0, 0)]
def t_9 : i_T := (9, c_9, 4, none, 1, 6)
def c_10 : List i_X := [(0, .iload_n 1, 1, 0, 0, 0), (1, .invokestatic 104, 3, 32, 2, 34), (4, .ifCond .eq 23, 3, 0, 0, 0), (7, .iload_n 2, 1, 0, 0, 0), (8, .invokestatic 59, 3, 29, 2, 21), (11, .ifCond .eq 16, 3, 0, 0, 0), (14, .aload_n 0, 1, 0, 0, 0), (15, .getfield 31, 3, 5, 3, 10), (18, .iload_n 1, 1, 0, 0, 0), (19, .aaload, 1, 3, 0, 0), (20, .iload_n 2, 1, 0, 0, 0), (21, .invokevirtual 134, 3, 92, 1, 44), (24, .goto 4, 3, 0, 0, 0), (27, .iconst 0, 1, 0, 0, 0), (28, .ireturn, 1, 0, 0, 0)]
def t_10 : i_T := (10, c_10, 3, (some .int), 0, 0)
def c_11 : List i_X := [(0, .iload_n 1, 1, 0, 0, 0), (1, .invokestatic 104, 3, 32, 2, 34), (4, .ifCond .eq 10, 3, 0, 0, 0), (7, .iload_n 2, 1, 0, 0, 0), (8, .invokestatic 51, 3, 28, 2, 19), (11, .ifCond .ne 11, 3, 0, 0, 0), (14, .new 110, 3, 0, 112, 36), (22, .aload_n 0, 1, 0, 0, 0), (23, .iload_n 1, 1, 0, 0, 0), (24, .iload_n 2, 1, 0, 0, 0), (25, .invokevirtual 137, 3, 36, 2, 45), (28, .ifCond .eq 17, 3, 0, 0, 0), (31, .aload_n 0, 1, 0, 0, 0), (32, .getfield 31, 3, 5, 3, 10), (35, .iload_n 1, 1, 0, 0, 0), (36, .aaload, 1, 3, 0, 0), (37, .getfield 141, 3, 3, 3, 46), (40, .bipush 8, 2, 0, 0, 0), (42, .if_icmp .lt 11, 3, 0, 0, 0), (45, .new 124, 3, 1, 126, 41), (53, .aload_n 0, 1, 0, 0, 0), (54, .aload_n 0, 1, 0, 0, 0), (55, .getfield 31, 3, 5, 3, 10), (58, .iload_n 1, 1, 0, 0, 0), (59, .aaload, 1, 3, 0, 0), (60, .iload_n 2, 1, 0, 0, 0), (61, .iload_n 3, 1, 0, 0, 0), (62, .invokevirtual 144, 3, 38, 3, 47), (65, .istore 4, 2, 0, 0, 0), (67, .iload 4, 2, 0, 0, 0), (69, .iconst (-1), 1, 0, 0, 0), (70, .if_icmp .ne 11, 3, 0, 0, 0), (73, .aload_n 0, 1, 0, 0, 0), (74, .iload_n 1, 1, 0, 0, 0), (75, .iload_n 2, 1, 0, 0, 0), (76, .iload_n 3, 1, 0, 0, 0), (77, .invokevirtual 148, 3, 40, 3, 48), (80, .ireturn, 1, 0, 0, 0), (81, .aload_n 0, 1, 0, 0, 0), (82, .iload_n 1, 1, 0, 0, 0), (83, .iload 4, 2, 0, 0, 0), (85, .invokevirtual 152, 3, 39, 2, 49), (88, .bipush 100, 2, 0, 0, 0), (90, .iload 4, 2, 0, 0, 0), (92, .iadd, 1, 0, 0, 0), (93, .ireturn, 1, 0, 0, 0)]
def t_11 : i_T := (11, c_11, 5, (some .int), 1, 6)
def c_12 : List i_X := [(0, .aload_n 0, 1, 0, 0, 0), (1, .iload_n 1, 1, 0, 0, 0), (2, .iload_n 2, 1, 0, 0, 0), (3, .invokevirtual 155, 3, 37, 2, 50), (6, .astore 4, 2, 0, 0, 0), (8, .aload 4, 2, 0, 0, 0), (10, .getfield 159, 3, 1, 4, 51), (13, .ifCond .le 11, 3, 0, 0, 0), (16, .new 124, 3, 1, 126, 41), (24, .aload_n 0, 1, 0, 0, 0), (25, .getfield 19, 3, 5, 1, 6), (28, .aload 4, 2, 0, 0, 0), (30, .getfield 164, 3, 1, 3, 52), (33, .invokevirtual 167, 3, 78, 1, 53), (36, .ifCond .ne 21, 3, 0, 0, 0), (39, .aload 4, 2, 0, 0, 0), (41, .aload_n 0, 1, 0, 0, 0), (42, .getfield 19, 3, 5, 1, 6), (45, .aload 4, 2, 0, 0, 0), (47, .getfield 164, 3, 1, 3, 52), (50, .iload_n 3, 1, 0, 0, 0), (51, .invokevirtual 170, 3, 80, 2, 54), (54, .putfield 164, 3, 1, 3, 52), (57, .aload 4, 2, 0, 0, 0), (59, .aload_n 0, 1, 0, 0, 0), (60, .getfield 19, 3, 5, 1, 6), (63, .aload 4, 2, 0, 0, 0), (65, .getfield 164, 3, 1, 3, 52), (68, .invokevirtual 174, 3, 79, 1, 55), (71, .putfield 159, 3, 1, 4, 51), (74, .aload_n 0, 1, 0, 0, 0), (75, .iload_n 1, 1, 0, 0, 0), (76, .iload_n 2, 1, 0, 0, 0), (77, .invokevirtual 177, 3, 41, 2, 56), (80, .aload 4, 2, 0, 0, 0), (82, .getfield 159, 3, 1, 4, 51), (85, .ireturn, 1, 0, 0, 0)]
def t_12 : i_T := (12, c_12, 5, (some .int), 2, 12)
def c_13 : List i_X := [(0, .aload_n 0, 1, 0, 0, 0), (1, .iload_n 1, 1, 0, 0, 0), (2, .iload_n 2, 1, 0, 0, 0), (3, .invokevirtual 155, 3, 37, 2, 50), (6, .astore_n 3, 1, 0, 0, 0), (7, .aload_n 0, 1, 0, 0, 0), (8, .getfield 31, 3, 5, 3, 10), (11, .iload_n 1, 1, 0, 0, 0), (12, .aaload, 1, 3, 0, 0), (13, .iload_n 2, 1, 0, 0, 0), (14, .invokevirtual 180, 3, 93, 1, 57), (17, .ifCond .eq 11, 3, 0, 0, 0), (20, .new 124, 3, 1, 126, 41), (28, .aload_n 0, 1, 0, 0, 0), (29, .aload_n 0, 1, 0, 0, 0), (30, .getfield 31, 3, 5, 3, 10), (33, .iload_n 1, 1, 0, 0, 0), (34, .aaload, 1, 3, 0, 0), (35, .aload_n 3, 1, 0, 0, 0), (36, .invokevirtual 183, 3, 65, 0, 58), (39, .aload_n 3, 1, 0, 0, 0), (40, .getfield 187, 3, 1, 1, 59), (43, .iconst 0, 1, 0, 0, 0), (44, .invokevirtual 188, 3, 42, 4, 60), (47, .istore 4, 2, 0, 0, 0), (49, .iload 4, 2, 0, 0, 0), (51, .iconst (-1), 1, 0, 0, 0), (52, .if_icmp .eq 44, 3, 0, 0, 0), (55, .aload_n 0, 1, 0, 0, 0), (56, .iload_n 1, 1, 0, 0, 0), (57, .iload_n 2, 1, 0, 0, 0), (58, .iload 4, 2, 0, 0, 0), (60, .invokevirtual 192, 3, 47, 3, 61), (63, .aload_n 0, 1, 0, 0, 0), (64, .getfield 31, 3, 5, 3, 10), (67, .iload_n 1, 1, 0, 0, 0), (68, .aaload, 1, 3, 0, 0), (69, .getfield 195, 3, 3, 7, 62), (72, .iload 4, 2, 0, 0, 0), (74, .aaload, 1, 4, 0, 0), (75, .iconst 1, 1, 0, 0, 0), (76, .putfield 199, 3, 4, 1, 63), (79, .aload_n 3, 1, 0, 0, 0), (80, .iconst 1, 1, 0, 0, 0), (81, .putfield 204, 3, 1, 5, 64), (84, .aload_n 3, 1, 0, 0, 0), (85, .iload 4, 2, 0, 0, 0), (87, .putfield 205, 3, 1, 6, 65), (90, .aload_n 0, 1, 0, 0, 0), (91, .iload_n 1, 1, 0, 0, 0), (92, .iload_n 2, 1, 0, 0, 0), (93, .invokevirtual 177, 3, 41, 2, 56), (96, .iload 4, 2, 0, 0, 0), (98, .ireturn, 1, 0, 0, 0)]
def t_13 : i_T := (13, c_13, 5, (some .int), 2, 12)
def c_14 : List i_X := [(0, .aload_n 0, 1, 0, 0, 0), (1, .iload_n 1, 1, 0, 0, 0), (2, .iload_n 2, 1, 0, 0, 0), (3, .invokevirtual 155, 3, 37, 2, 50), (6, .iconst 2, 1, 0, 0, 0), (7, .putfield 204, 3, 1, 5, 64), (10, .aload_n 0, 1, 0, 0, 0), (11, .iload_n 1, 1, 0, 0, 0), (12, .iload_n 2, 1, 0, 0, 0), (13, .invokevirtual 177, 3, 41, 2, 56), (16, .return_, 1, 0, 0, 0)]
def t_14 : i_T := (14, c_14, 3, none, 1, 6)
def c_15 : List i_X := [(0, .aload_n 0, 1, 0, 0, 0), (1, .iload_n 1, 1, 0, 0, 0), (2, .iload_n 2, 1, 0, 0, 0), (3, .invokevirtual 208, 3, 35, 2, 66), (6, .ifCond .ne 11, 3, 0, 0, 0), (9, .new 110, 3, 0, 112, 36), (17, .aload_n 0, 1, 0, 0, 0), (18, .getfield 31, 3, 5, 3, 10), (21, .iload_n 1, 1, 0, 0, 0), (22, .aaload, 1, 3, 0, 0), (23, .getfield 120, 3, 3, 0, 40), (26, .ifCond .ne 11, 3, 0, 0, 0), (29, .new 124, 3, 1, 126, 41), (37, .aload_n 0, 1, 0, 0, 0), (38, .iconst 4, 1, 0, 0, 0), (39, .iload_n 1, 1, 0, 0, 0), (40, .iconst 2, 1, 0, 0, 0), (41, .aload_n 0, 1, 0, 0, 0), (42, .getfield 31, 3, 5, 3, 10), (45, .iload_n 1, 1, 0, 0, 0), (46, .aaload, 1, 3, 0, 0), (47, .getfield 211, 3, 3, 5, 67), (50, .iload_n 2, 1, 0, 0, 0), (51, .aaload, 1, 1, 0, 0), (52, .iload_n 2, 1, 0, 0, 0), (53, .invokevirtual 215, 3, 45, 5, 68), (56, .return_, 1, 0, 0, 0)]
def t_15 : i_T := (15, c_15, 3, none, 1, 6)
def c_16 : List i_X := [(0, .aload_n 0, 1, 0, 0, 0), (1, .getfield 45, 3, 5, 5, 16), (4, .getfield 219, 3, 6, 1, 69), (7, .ireturn, 1, 0, 0, 0)]
def t_16 : i_T := (16, c_16, 1, (some .int), 0, 0)
def c_17 : List i_X := [(0, .aload_n 0, 1, 0, 0, 0), (1, .getfield 45, 3, 5, 5, 16), (4, .iload_n 1, 1, 0, 0, 0), (5, .invokevirtual 222, 3, 71, 1, 70), (8, .ifCond .eq 19, 3, 0, 0, 0), (11, .aload_n 0, 1, 0, 0, 0), (12, .getfield 45, 3, 5, 5, 16), (15, .getfield 225, 3, 6, 0, 71), (18, .iload_n 1, 1, 0, 0, 0), (19, .aaload, 1, 2, 0, 0), (20, .iload_n 2, 1, 0, 0, 0), (21, .invokevirtual 229, 3, 69, 1, 72), (24, .goto 4, 3, 0, 0, 0), (27, .iconst (-1), 1, 0, 0, 0), (28, .ireturn, 1, 0, 0, 0)]
def t_17 : i_T := (17, c_17, 3, (some .int), 0, 0)
def c_18 : List i_X := [(0, .aload_n 0, 1, 0, 0, 0), (1, .getfield 45, 3, 5, 5, 16), (4, .iload_n 1, 1, 0, 0, 0), (5, .invokevirtual 222, 3, 71, 1, 70), (8, .ifCond .ne 5, 3, 0, 0, 0), (11, .iconst 0, 1, 0, 0, 0), (12, .ireturn, 1, 0, 0, 0), (13, .aload_n 0, 1, 0, 0, 0), (14, .getfield 45, 3, 5, 5, 16), (17, .iload_n 1, 1, 0, 0, 0), (18, .invokevirtual 232, 3, 74, 1, 73), (21, .astore_n 2, 1, 0, 0, 0), (22, .aload_n 2, 1, 0, 0, 0), (23, .getfield 236, 3, 2, 2, 74), (26, .iconst 3, 1, 0, 0, 0), (27, .if_icmp .lt 11, 3, 0, 0, 0), (30, .aload_n 0, 1, 0, 0, 0), (31, .aload_n 2, 1, 0, 0, 0), (32, .invokevirtual 239, 3, 53, 1, 75), (35, .goto 39, 3, 0, 0, 0), (38, .aload_n 2, 1, 0, 0, 0), (39, .getfield 236, 3, 2, 2, 74), (42, .iconst 2, 1, 0, 0, 0), (43, .if_icmp .ne 11, 3, 0, 0, 0), (46, .aload_n 0, 1, 0, 0, 0), (47, .aload_n 2, 1, 0, 0, 0), (48, .invokevirtual 243, 3, 49, 1, 76), (51, .goto 23, 3, 0, 0, 0), (54, .aload_n 0, 1, 0, 0, 0), (55, .getfield 31, 3, 5, 3, 10), (58, .aload_n 2, 1, 0, 0, 0), (59, .getfield 236, 3, 2, 2, 74), (62, .aaload, 1, 3, 0, 0), (63, .getfield 120, 3, 3, 0, 40), (66, .ifCond .eq 8, 3, 0, 0, 0), (69, .aload_n 0, 1, 0, 0, 0), (70, .aload_n 2, 1, 0, 0, 0), (71, .invokevirtual 246, 3, 51, 1, 77), (74, .iconst 1, 1, 0, 0, 0), (75, .ireturn, 1, 0, 0, 0)]
def t_18 : i_T := (18, c_18, 3, (some .boolean), 0, 0)
def c_19 : List i_X := [(0, .aload_n 0, 1, 0, 0, 0), (1, .getfield 45, 3, 5, 5, 16), (4, .iload_n 1, 1, 0, 0, 0), (5, .invokevirtual 222, 3, 71, 1, 70), (8, .ifCond .ne 5, 3, 0, 0, 0), (11, .iconst 0, 1, 0, 0, 0), (12, .ireturn, 1, 0, 0, 0), (13, .aload_n 0, 1, 0, 0, 0), (14, .getfield 45, 3, 5, 5, 16), (17, .iload_n 1, 1, 0, 0, 0), (18, .invokevirtual 232, 3, 74, 1, 73), (21, .pop, 1, 0, 0, 0), (22, .iconst 1, 1, 0, 0, 0), (23, .ireturn, 1, 0, 0, 0)]
def t_19 : i_T := (19, c_19, 2, (some .boolean), 0, 0)
def c_20 : List i_X := [(0, .aload_n 0, 1, 0, 0, 0), (1, .getfield 45, 3, 5, 5, 16), (4, .iload_n 1, 1, 0, 0, 0), (5, .invokevirtual 222, 3, 71, 1, 70), (8, .ifCond .eq 15, 3, 0, 0, 0), (11, .aload_n 0, 1, 0, 0, 0), (12, .getfield 45, 3, 5, 5, 16), (15, .getfield 219, 3, 6, 1, 69), (18, .bipush 48, 2, 0, 0, 0), (20, .if_icmp .lt 5, 3, 0, 0, 0), (23, .iconst 0, 1, 0, 0, 0), (24, .ireturn, 1, 0, 0, 0), (25, .aload_n 0, 1, 0, 0, 0), (26, .getfield 45, 3, 5, 5, 16), (29, .iload_n 1, 1, 0, 0, 0), (30, .invokevirtual 249, 3, 73, 1, 78), (33, .iconst 1, 1, 0, 0, 0), (34, .ireturn, 1, 0, 0, 0)]
def t_20 : i_T := (20, c_20, 2, (some .boolean), 0, 0)
def c_21 : List i_X := [(0, .iload_n 1, 1, 0, 0, 0), (1, .invokestatic 104, 3, 32, 2, 34), (4, .ifCond .eq 15, 3, 0, 0, 0), (7, .aload_n 0, 1, 0, 0, 0), (8, .getfield 31, 3, 5, 3, 10), (11, .iload_n 1, 1, 0, 0, 0), (12, .aaload, 1, 3, 0, 0), (13, .getfield 120, 3, 3, 0, 40), (16, .ifCond .ne 5, 3, 0, 0, 0), (19, .iconst 0, 1, 0, 0, 0), (20, .ireturn, 1, 0, 0, 0), (21, .aload_n 0, 1, 0, 0, 0), (22, .getfield 31, 3, 5, 3, 10), (25, .iload_n 1, 1, 0, 0, 0), (26, .aaload, 1, 3, 0, 0), (27, .invokevirtual 252, 3, 94, 0, 79), (30, .iconst 1, 1, 0, 0, 0), (31, .ireturn, 1, 0, 0, 0)]
def t_21 : i_T := (21, c_21, 2, (some .boolean), 0, 0)
def c_22 : List i_X := [(0, .iload_n 1, 1, 0, 0, 0), (1, .invokestatic 104, 3, 32, 2, 34), (4, .ifCond .eq 15, 3, 0, 0, 0), (7, .aload_n 0, 1, 0, 0, 0), (8, .getfield 31, 3, 5, 3, 10), (11, .iload_n 1, 1, 0, 0, 0), (12, .aaload, 1, 3, 0, 0), (13, .getfield 120, 3, 3, 0, 40), (16, .ifCond .eq 5, 3, 0, 0, 0), (19, .iconst 0, 1, 0, 0, 0), (20, .ireturn, 1, 0, 0, 0), (21, .aload_n 0, 1, 0, 0, 0), (22, .getfield 31, 3, 5, 3, 10), (25, .iload_n 1, 1, 0, 0, 0), (26, .aaload, 1, 3, 0, 0), (27, .iconst 1, 1, 0, 0, 0), (28, .putfield 120, 3, 3, 0, 40), (31, .aload_n 0, 1, 0, 0, 0), (32, .getfield 45, 3, 5, 5, 16), (35, .bipush 7, 2, 0, 0, 0), (37, .iload_n 1, 1, 0, 0, 0), (38, .iload_n 1, 1, 0, 0, 0), (39, .invokestatic 255, 3, 34, 2, 80), (42, .iconst (-1), 1, 0, 0, 0), (43, .iconst 0, 1, 0, 0, 0), (44, .invokevirtual 127, 3, 72, 5, 42), (47, .pop, 1, 0, 0, 0), (48, .iconst 1, 1, 0, 0, 0), (49, .ireturn, 1, 0, 0, 0)]
def t_22 : i_T := (22, c_22, 2, (some .boolean), 0, 0)
def c_23 : List i_X := [(0, .iload_n 1, 1, 0, 0, 0), (1, .invokestatic 81, 3, 31, 2, 27), (4, .ifCond .eq 10, 3, 0, 0, 0), (7, .iload_n 2, 1, 0, 0, 0), (8, .invokestatic 51, 3, 28, 2, 19), (11, .ifCond .ne 5, 3, 0, 0, 0), (14, .iconst (-1), 1, 0, 0, 0), (15, .ireturn, 1, 0, 0, 0), (16, .aload_n 0, 1, 0, 0, 0), (17, .getfield 10, 3, 5, 0, 3), (20, .iload_n 2, 1, 0, 0, 0), (21, .invokevirtual 258, 3, 88, 1, 81), (24, .aload_n 0, 1, 0, 0, 0), (25, .getfield 10, 3, 5, 0, 3), (28, .getfield 261, 3, 9, 1, 82), (31, .aload_n 0, 1, 0, 0, 0), (32, .getfield 25, 3, 5, 2, 8), (35, .iload_n 1, 1, 0, 0, 0), (36, .aaload, 1, 0, 0, 0), (37, .getfield 88, 3, 0, 1, 29), (40, .iaload, 1, 0, 0, 0), (41, .ireturn, 1, 0, 0, 0)]
def t_23 : i_T := (23, c_23, 3, (some .int), 0, 0)
def c_24 : List i_X := [(0, .iload_n 1, 1, 0, 0, 0), (1, .invokestatic 104, 3, 32, 2, 34), (4, .ifCond .eq 10, 3, 0, 0, 0), (7, .iload_n 3, 1, 0, 0, 0), (8, .invokestatic 51, 3, 28, 2, 19), (11, .ifCond .ne 5, 3, 0, 0, 0), (14, .iconst (-1), 1, 0, 0, 0), (15, .ireturn, 1, 0, 0, 0), (16, .aload_n 0, 1, 0, 0, 0), (17, .aload_n 0, 1, 0, 0, 0), (18, .getfield 31, 3, 5, 3, 10), (21, .iload_n 1, 1, 0, 0, 0), (22, .aaload, 1, 3, 0, 0), (23, .iload_n 2, 1, 0, 0, 0), (24, .iload_n 3, 1, 0, 0, 0), (25, .iload 4, 2, 0, 0, 0), (27, .invokevirtual 188, 3, 42, 4, 60), (30, .ireturn, 1, 0, 0, 0)]
def t_24 : i_T := (24, c_24, 5, (some .int), 0, 0)
def c_25 : List i_X := [(0, .iload_n 1, 1, 0, 0, 0), (1, .invokestatic 81, 3, 31, 2, 27), (4, .ifCond .eq 16, 3, 0, 0, 0), (7, .aload_n 0, 1, 0, 0, 0), (8, .getfield 25, 3, 5, 2, 8), (11, .iload_n 1, 1, 0, 0, 0), (12, .aaload, 1, 0, 0, 0), (13, .iload_n 2, 1, 0, 0, 0), (14, .invokevirtual 264, 3, 58, 1, 83), (17, .goto 4, 3, 0, 0, 0), (20, .iconst (-1), 1, 0, 0, 0), (21, .ireturn, 1, 0, 0, 0)]
def t_25 : i_T := (25, c_25, 3, (some .int), 0, 0)
def c_26 : List i_X := [(0, .iload_n 1, 1, 0, 0, 0), (1, .invokestatic 104, 3, 32, 2, 34), (4, .ifCond .eq 27, 3, 0, 0, 0), (7, .iload_n 2, 1, 0, 0, 0), (8, .invokestatic 81, 3, 31, 2, 27), (11, .ifCond .eq 20, 3, 0, 0, 0), (14, .aload_n 0, 1, 0, 0, 0), (15, .getfield 31, 3, 5, 3, 10), (18, .iload_n 1, 1, 0, 0, 0), (19, .aaload, 1, 3, 0, 0), (20, .getfield 195, 3, 3, 7, 62), (23, .iload_n 2, 1, 0, 0, 0), (24, .aaload, 1, 4, 0, 0), (25, .getfield 265, 3, 4, 0, 84), (28, .ifCond .ne 5, 3, 0, 0, 0), (31, .iconst (-1), 1, 0, 0, 0), (32, .ireturn, 1, 0, 0, 0), (33, .aload_n 0, 1, 0, 0, 0), (34, .getfield 31, 3, 5, 3, 10), (37, .iload_n 1, 1, 0, 0, 0), (38, .aaload, 1, 3, 0, 0), (39, .getfield 195, 3, 3, 7, 62), (42, .iload_n 2, 1, 0, 0, 0), (43, .aaload, 1, 4, 0, 0), (44, .iload_n 3, 1, 0, 0, 0), (45, .invokevirtual 268, 3, 103, 1, 85), (48, .ireturn, 1, 0, 0, 0)]
def t_26 : i_T := (26, c_26, 4, (some .int), 0, 0)
def c_27 : List i_X := [(0, .iload_n 1, 1, 0, 0, 0), (1, .iconst 2, 1, 0, 0, 0), (2, .if_icmp .ne 29, 3, 0, 0, 0), (5, .iload_n 2, 1, 0, 0, 0), (6, .invokestatic 269, 3, 33, 2, 86), (9, .ifCond .eq 20, 3, 0, 0, 0), (12, .aload_n 0, 1, 0, 0, 0), (13, .getfield 38, 3, 5, 4, 13), (16, .getfield 272, 3, 8, 1, 87), (19, .iload_n 2, 1, 0, 0, 0), (20, .aaload, 1, 1, 0, 0), (21, .iload_n 3, 1, 0, 0, 0), (22, .iconst 0, 1, 0, 0, 0), (23, .invokevirtual 273, 3, 66, 2, 88), (26, .goto 4, 3, 0, 0, 0), (29, .iconst (-1), 1, 0, 0, 0), (30, .ireturn, 1, 0, 0, 0), (31, .aload_n 0, 1, 0, 0, 0), (32, .iload_n 1, 1, 0, 0, 0), (33, .iload_n 2, 1, 0, 0, 0), (34, .invokevirtual 208, 3, 35, 2, 66), (37, .ifCond .ne 5, 3, 0, 0, 0), (40, .iconst (-1), 1, 0, 0, 0), (41, .ireturn, 1, 0, 0, 0), (42, .aload_n 0, 1, 0, 0, 0), (43, .getfield 31, 3, 5, 3, 10), (46, .iload_n 1, 1, 0, 0, 0), (47, .aaload, 1, 3, 0, 0), (48, .getfield 211, 3, 3, 5, 67), (51, .iload_n 2, 1, 0, 0, 0), (52, .aaload, 1, 1, 0, 0), (53, .iload_n 3, 1, 0, 0, 0), (54, .aload_n 0, 1, 0, 0, 0), (55, .getfield 31, 3, 5, 3, 10), (58, .iload_n 1, 1, 0, 0, 0), (59, .aaload, 1, 3, 0, 0), (60, .getfield 275, 3, 3, 6, 89), (63, .iload_n 2, 1, 0, 0, 0), (64, .baload, 1, 0, 0, 0), (65, .invokevirtual 273, 3, 66, 2, 88), (68, .ireturn, 1, 0, 0, 0)]
def t_27 : i_T := (27, c_27, 4, (some .int), 0, 0)
def c_28 : List i_X := [(0, .iload_n 0, 1, 0, 0, 0), (1, .ifCond .lt 13, 3, 0, 0, 0), (4, .iload_n 0, 1, 0, 0, 0), (5, .bipush 12, 2, 0, 0, 0), (7, .if_icmp .ge 7, 3, 0, 0, 0), (10, .iconst 1, 1, 0, 0, 0), (11, .goto 4, 3, 0, 0, 0), (14, .iconst 0, 1, 0, 0, 0), (15, .ireturn, 1, 0, 0, 0)]
def t_28 : i_T := (28, c_28, 1, (some .boolean), 0, 0)
def c_29 : List i_X := [(0, .iload_n 0, 1, 0, 0, 0), (1, .ifCond .lt 12, 3, 0, 0, 0), (4, .iload_n 0, 1, 0, 0, 0), (5, .iconst 4, 1, 0, 0, 0), (6, .if_icmp .ge 7, 3, 0, 0, 0), (9, .iconst 1, 1, 0, 0, 0), (10, .goto 4, 3, 0, 0, 0), (13, .iconst 0, 1, 0, 0, 0), (14, .ireturn, 1, 0, 0, 0)]
def t_29 : i_T := (29, c_29, 1, (some .boolean), 0, 0)
def c_30 : List i_X := [(0, .iload_n 0, 1, 0, 0, 0), (1, .ifCond .lt 13, 3, 0, 0, 0), (4, .iload_n 0, 1, 0, 0, 0), (5, .bipush 16, 2, 0, 0, 0), (7, .if_icmp .ge 7, 3, 0, 0, 0), (10, .iconst 1, 1, 0, 0, 0), (11, .goto 4, 3, 0, 0, 0), (14, .iconst 0, 1, 0, 0, 0), (15, .ireturn, 1, 0, 0, 0)]
def t_30 : i_T := (30, c_30, 1, (some .boolean), 0, 0)
def c_31 : List i_X := [(0, .iload_n 0, 1, 0, 0, 0), (1, .ifCond .lt 13, 3, 0, 0, 0), (4, .iload_n 0, 1, 0, 0, 0), (5, .bipush 6, 2, 0, 0, 0), (7, .if_icmp .ge 7, 3, 0, 0, 0), (10, .iconst 1, 1, 0, 0, 0), (11, .goto 4, 3, 0, 0, 0), (14, .iconst 0, 1, 0, 0, 0), (15, .ireturn, 1, 0, 0, 0)]
def t_31 : i_T := (31, c_31, 1, (some .boolean), 0, 0)
def c_32 : List i_X := [(0, .iload_n 0, 1, 0, 0, 0), (1, .ifCond .lt 12, 3, 0, 0, 0), (4, .iload_n 0, 1, 0, 0, 0), (5, .iconst 2, 1, 0, 0, 0), (6, .if_icmp .ge 7, 3, 0, 0, 0), (9, .iconst 1, 1, 0, 0, 0), (10, .goto 4, 3, 0, 0, 0), (13, .iconst 0, 1, 0, 0, 0), (14, .ireturn, 1, 0, 0, 0)]
def t_32 : i_T := (32, c_32, 1, (some .boolean), 0, 0)
def c_33 : List i_X := [(0, .iload_n 0, 1, 0, 0, 0), (1, .ifCond .lt 13, 3, 0, 0, 0), (4, .iload_n 0, 1, 0, 0, 0), (5, .bipush 16, 2, 0, 0, 0), (7, .if_icmp .ge 7, 3, 0, 0, 0), (10, .iconst 1, 1, 0, 0, 0), (11, .goto 4, 3, 0, 0, 0), (14, .iconst 0, 1, 0, 0, 0), (15, .ireturn, 1, 0, 0, 0)]
def t_33 : i_T := (33, c_33, 1, (some .boolean), 0, 0)
def c_34 : List i_X := [(0, .iconst 1, 1, 0, 0, 0), (1, .iload_n 0, 1, 0, 0, 0), (2, .isub, 1, 0, 0, 0), (3, .ireturn, 1, 0, 0, 0)]
def t_34 : i_T := (34, c_34, 1, (some .int), 0, 0)
def c_35 : List i_X := [(0, .iload_n 1, 1, 0, 0, 0), (1, .invokestatic 104, 3, 32, 2, 34), (4, .ifCond .eq 31, 3, 0, 0, 0), (7, .iload_n 2, 1, 0, 0, 0), (8, .invokestatic 269, 3, 33, 2, 86), (11, .ifCond .eq 24, 3, 0, 0, 0), (14, .aload_n 0, 1, 0, 0, 0), (15, .getfield 31, 3, 5, 3, 10), (18, .iload_n 1, 1, 0, 0, 0), (19, .aaload, 1, 3, 0, 0), (20, .getfield 211, 3, 3, 5, 67), (23, .iload_n 2, 1, 0, 0, 0), (24, .aaload, 1, 1, 0, 0), (25, .getfield 279, 3, 1, 0, 90), (28, .ifCond .eq 7, 3, 0, 0, 0), (31, .iconst 1, 1, 0, 0, 0), (32, .goto 4, 3, 0, 0, 0), (35, .iconst 0, 1, 0, 0, 0), (36, .ireturn, 1, 0, 0, 0)]
def t_35 : i_T := (35, c_35, 3, (some .boolean), 0, 0)
def c_36 : List i_X := [(0, .aload_n 0, 1, 0, 0, 0), (1, .getfield 31, 3, 5, 3, 10), (4, .iload_n 1, 1, 0, 0, 0), (5, .aaload, 1, 3, 0, 0), (6, .aload_n 0, 1, 0, 0, 0), (7, .getfield 10, 3, 5, 0, 3), (10, .getfield 62, 3, 9, 0, 22), (13, .iload_n 2, 1, 0, 0, 0), (14, .iaload, 1, 0, 0, 0), (15, .invokevirtual 134, 3, 92, 1, 44), (18, .ifCond .le 7, 3, 0, 0, 0), (21, .iconst 1, 1, 0, 0, 0), (22, .goto 4, 3, 0, 0, 0), (25, .iconst 0, 1, 0, 0, 0), (26, .ireturn, 1, 0, 0, 0)]
def t_36 : i_T := (36, c_36, 3, (some .boolean), 0, 0)
def c_37 : List i_X := [(0, .aload_n 0, 1, 0, 0, 0), (1, .iload_n 1, 1, 0, 0, 0), (2, .iload_n 2, 1, 0, 0, 0), (3, .invokevirtual 208, 3, 35, 2, 66), (6, .ifCond .ne 11, 3, 0, 0, 0), (9, .new 110, 3, 0, 112, 36), (17, .aload_n 0, 1, 0, 0, 0), (18, .getfield 31, 3, 5, 3, 10), (21, .iload_n 1, 1, 0, 0, 0), (22, .aaload, 1, 3, 0, 0), (23, .getfield 211, 3, 3, 5, 67), (26, .iload_n 2, 1, 0, 0, 0), (27, .aaload, 1, 1, 0, 0), (28, .astore_n 3, 1, 0, 0, 0), (29, .aload_n 0, 1, 0, 0, 0), (30, .iload_n 1, 1, 0, 0, 0), (31, .aload_n 3, 1, 0, 0, 0), (32, .getfield 187, 3, 1, 1, 59), (35, .invokevirtual 137, 3, 36, 2, 45), (38, .ifCond .eq 11, 3, 0, 0, 0), (41, .aload_n 3, 1, 0, 0, 0), (42, .getfield 204, 3, 1, 5, 64), (45, .iconst 2, 1, 0, 0, 0), (46, .if_icmp .ne 11, 3, 0, 0, 0), (49, .new 124, 3, 1, 126, 41), (57, .aload_n 3, 1, 0, 0, 0), (58, .areturn, 1, 0, 0, 0)]
def t_37 : i_T := (37, c_37, 4, (some (.object "TwinRooms$CallRecord")), 1, 6)
def c_38 : List i_X := [(0, .aload_n 0, 1, 0, 0, 0), (1, .getfield 10, 3, 5, 0, 3), (4, .iload_n 2, 1, 0, 0, 0), (5, .invokevirtual 258, 3, 88, 1, 81), (8, .iconst 0, 1, 0, 0, 0), (9, .istore 4, 2, 0, 0, 0), (11, .iload 4, 2, 0, 0, 0), (13, .bipush 16, 2, 0, 0, 0), (15, .if_icmp .ge 75, 3, 0, 0, 0), (18, .aload_n 1, 1, 0, 0, 0), (19, .getfield 211, 3, 3, 5, 67), (22, .iload 4, 2, 0, 0, 0), (24, .aaload, 1, 1, 0, 0), (25, .astore 5, 2, 0, 0, 0), (27, .aload 5, 2, 0, 0, 0), (29, .getfield 279, 3, 1, 0, 90), (32, .ifCond .eq 52, 3, 0, 0, 0), (35, .aload 5, 2, 0, 0, 0), (37, .getfield 204, 3, 1, 5, 64), (40, .iconst 2, 1, 0, 0, 0), (41, .if_icmp .eq 43, 3, 0, 0, 0), (44, .aload 5, 2, 0, 0, 0), (46, .getfield 280, 3, 1, 2, 91), (49, .iload_n 3, 1, 0, 0, 0), (50, .if_icmp .ne 34, 3, 0, 0, 0), (53, .aload_n 0, 1, 0, 0, 0), (54, .getfield 10, 3, 5, 0, 3), (57, .getfield 261, 3, 9, 1, 82), (60, .aload 5, 2, 0, 0, 0), (62, .getfield 187, 3, 1, 1, 59), (65, .iaload, 1, 0, 0, 0), (66, .istore 6, 2, 0, 0, 0), (68, .iload 6, 2, 0, 0, 0), (70, .iconst (-1), 1, 0, 0, 0), (71, .if_icmp .eq 13, 3, 0, 0, 0), (74, .iload 6, 2, 0, 0, 0), (76, .bipush 60, 2, 0, 0, 0), (78, .if_icmp .gt 6, 3, 0, 0, 0), (81, .iload 4, 2, 0, 0, 0), (83, .ireturn, 1, 0, 0, 0), (84, .iinc 4 1, 3, 0, 0, 0), (87, .goto (-76), 3, 0, 0, 0), (90, .iconst (-1), 1, 0, 0, 0), (91, .ireturn, 1, 0, 0, 0)]
def t_38 : i_T := (38, c_38, 7, (some .int), 0, 0)
def c_39 : List i_X := [(0, .aload_n 0, 1, 0, 0, 0), (1, .getfield 31, 3, 5, 3, 10), (4, .iload_n 1, 1, 0, 0, 0), (5, .aaload, 1, 3, 0, 0), (6, .getfield 211, 3, 3, 5, 67), (9, .iload_n 2, 1, 0, 0, 0), (10, .aaload, 1, 1, 0, 0), (11, .astore_n 3, 1, 0, 0, 0), (12, .aload_n 0, 1, 0, 0, 0), (13, .iload_n 1, 1, 0, 0, 0), (14, .aload_n 3, 1, 0, 0, 0), (15, .getfield 187, 3, 1, 1, 59), (18, .invokevirtual 137, 3, 36, 2, 45), (21, .ifCond .eq 19, 3, 0, 0, 0), (24, .aload_n 3, 1, 0, 0, 0), (25, .dup, 1, 0, 0, 0), (26, .getfield 283, 3, 1, 7, 92), (29, .iconst 1, 1, 0, 0, 0), (30, .iadd, 1, 0, 0, 0), (31, .putfield 283, 3, 1, 7, 92), (34, .aload_n 0, 1, 0, 0, 0), (35, .iload_n 1, 1, 0, 0, 0), (36, .iload_n 2, 1, 0, 0, 0), (37, .invokevirtual 177, 3, 41, 2, 56), (40, .return_, 1, 0, 0, 0)]
def t_39 : i_T := (39, c_39, 4, none, 0, 0)
def c_40 : List i_X := [(0, .bipush 8, 2, 0, 0, 0), (2, .iload_n 1, 1, 0, 0, 0), (3, .imul, 1, 0, 0, 0), (4, .aload_n 0, 1, 0, 0, 0), (5, .getfield 31, 3, 5, 3, 10), (8, .iload_n 1, 1, 0, 0, 0), (9, .aaload, 1, 3, 0, 0), (10, .getfield 141, 3, 3, 3, 46), (13, .iadd, 1, 0, 0, 0), (14, .istore 4, 2, 0, 0, 0), (16, .aload_n 0, 1, 0, 0, 0), (17, .getfield 31, 3, 5, 3, 10), (20, .iload_n 1, 1, 0, 0, 0), (21, .aaload, 1, 3, 0, 0), (22, .dup, 1, 0, 0, 0), (23, .getfield 141, 3, 3, 3, 46), (26, .iconst 1, 1, 0, 0, 0), (27, .iadd, 1, 0, 0, 0), (28, .putfield 141, 3, 3, 3, 46), (31, .aload_n 0, 1, 0, 0, 0), (32, .getfield 31, 3, 5, 3, 10), (35, .iload_n 1, 1, 0, 0, 0), (36, .aaload, 1, 3, 0, 0), (37, .getfield 211, 3, 3, 5, 67), (40, .iload 4, 2, 0, 0, 0), (42, .aaload, 1, 1, 0, 0), (43, .iload_n 2, 1, 0, 0, 0), (44, .iload_n 3, 1, 0, 0, 0), (45, .aload_n 0, 1, 0, 0, 0), (46, .getfield 19, 3, 5, 1, 6), (49, .iconst 0, 1, 0, 0, 0), (50, .invokevirtual 174, 3, 79, 1, 55), (53, .invokevirtual 286, 3, 60, 3, 93), (56, .aload_n 0, 1, 0, 0, 0), (57, .iload_n 1, 1, 0, 0, 0), (58, .iload 4, 2, 0, 0, 0), (60, .invokevirtual 177, 3, 41, 2, 56), (63, .iload 4, 2, 0, 0, 0), (65, .ireturn, 1, 0, 0, 0)]
def t_40 : i_T := (40, c_40, 5, (some .int), 0, 0)
def c_41 : List i_X := [(0, .aload_n 0, 1, 0, 0, 0), (1, .getfield 31, 3, 5, 3, 10), (4, .iload_n 1, 1, 0, 0, 0), (5, .aaload, 1, 3, 0, 0), (6, .getfield 211, 3, 3, 5, 67), (9, .iload_n 2, 1, 0, 0, 0), (10, .aaload, 1, 1, 0, 0), (11, .astore_n 3, 1, 0, 0, 0), (12, .aload_n 0, 1, 0, 0, 0), (13, .getfield 10, 3, 5, 0, 3), (16, .getfield 62, 3, 9, 0, 22), (19, .aload_n 3, 1, 0, 0, 0), (20, .getfield 187, 3, 1, 1, 59), (23, .iaload, 1, 0, 0, 0), (24, .istore 4, 2, 0, 0, 0), (26, .aload_n 3, 1, 0, 0, 0), (27, .aload_n 0, 1, 0, 0, 0), (28, .getfield 31, 3, 5, 3, 10), (31, .iload_n 1, 1, 0, 0, 0), (32, .aaload, 1, 3, 0, 0), (33, .getfield 289, 3, 3, 4, 94), (36, .iload 4, 2, 0, 0, 0), (38, .iaload, 1, 0, 0, 0), (39, .invokevirtual 292, 3, 61, 1, 95), (42, .aload_n 0, 1, 0, 0, 0), (43, .getfield 31, 3, 5, 3, 10), (46, .iload_n 1, 1, 0, 0, 0), (47, .aaload, 1, 3, 0, 0), (48, .getfield 275, 3, 3, 6, 89), (51, .iload_n 2, 1, 0, 0, 0), (52, .iconst 0, 1, 0, 0, 0), (53, .bastore, 1, 0, 0, 0), (54, .aload_n 0, 1, 0, 0, 0), (55, .iconst 2, 1, 0, 0, 0), (56, .iload_n 1, 1, 0, 0, 0), (57, .iload_n 1, 1, 0, 0, 0), (58, .invokestatic 255, 3, 34, 2, 80), (61, .aload_n 3, 1, 0, 0, 0), (62, .iload_n 2, 1, 0, 0, 0), (63, .invokevirtual 215, 3, 45, 5, 68), (66, .return_, 1, 0, 0, 0)]
def t_41 : i_T := (41, c_41, 5, none, 0, 0)
def c_42 : List i_X := [(0, .aload_n 0, 1, 0, 0, 0), (1, .getfield 10, 3, 5, 0, 3), (4, .iload_n 3, 1, 0, 0, 0), (5, .invokevirtual 258, 3, 88, 1, 81), (8, .iconst 0, 1, 0, 0, 0), (9, .istore 5, 2, 0, 0, 0), (11, .iload 5, 2, 0, 0, 0), (13, .bipush 6, 2, 0, 0, 0), (15, .if_icmp .ge 41, 3, 0, 0, 0), (18, .aload_n 0, 1, 0, 0, 0), (19, .aload_n 1, 1, 0, 0, 0), (20, .iload_n 2, 1, 0, 0, 0), (21, .iload 5, 2, 0, 0, 0), (23, .invokevirtual 295, 3, 44, 3, 96), (26, .istore 6, 2, 0, 0, 0), (28, .iload 6, 2, 0, 0, 0), (30, .iconst (-1), 1, 0, 0, 0), (31, .if_icmp .eq 19, 3, 0, 0, 0), (34, .aload_n 0, 1, 0, 0, 0), (35, .aload_n 1, 1, 0, 0, 0), (36, .iload_n 2, 1, 0, 0, 0), (37, .iload 6, 2, 0, 0, 0), (39, .invokevirtual 298, 3, 43, 3, 97), (42, .iload 4, 2, 0, 0, 0), (44, .if_icmp .ne 6, 3, 0, 0, 0), (47, .iload 5, 2, 0, 0, 0), (49, .ireturn, 1, 0, 0, 0), (50, .iinc 5 1, 3, 0, 0, 0), (53, .goto (-42), 3, 0, 0, 0), (56, .iconst (-1), 1, 0, 0, 0), (57, .ireturn, 1, 0, 0, 0)]
def t_42 : i_T := (42, c_42, 7, (some .int), 0, 0)
def c_43 : List i_X := [(0, .iconst 0, 1, 0, 0, 0), (1, .istore 4, 2, 0, 0, 0), (3, .iconst 0, 1, 0, 0, 0), (4, .istore 5, 2, 0, 0, 0), (6, .iload 5, 2, 0, 0, 0), (8, .bipush 6, 2, 0, 0, 0), (10, .if_icmp .ge 34, 3, 0, 0, 0), (13, .aload_n 0, 1, 0, 0, 0), (14, .aload_n 1, 1, 0, 0, 0), (15, .iload_n 2, 1, 0, 0, 0), (16, .iload 5, 2, 0, 0, 0), (18, .invokevirtual 295, 3, 44, 3, 96), (21, .istore 6, 2, 0, 0, 0), (23, .iload 6, 2, 0, 0, 0), (25, .iconst (-1), 1, 0, 0, 0), (26, .if_icmp .eq 12, 3, 0, 0, 0), (29, .iload 6, 2, 0, 0, 0), (31, .iload_n 3, 1, 0, 0, 0), (32, .if_icmp .ge 6, 3, 0, 0, 0), (35, .iinc 4 1, 3, 0, 0, 0), (38, .iinc 5 1, 3, 0, 0, 0), (41, .goto (-35), 3, 0, 0, 0), (44, .iload 4, 2, 0, 0, 0), (46, .ireturn, 1, 0, 0, 0)]
def t_43 : i_T := (43, c_43, 7, (some .int), 0, 0)
def c_44 : List i_X := [(0, .aload_n 1, 1, 0, 0, 0), (1, .getfield 195, 3, 3, 7, 62), (4, .iload_n 3, 1, 0, 0, 0), (5, .aaload, 1, 4, 0, 0), (6, .astore 4, 2, 0, 0, 0), (8, .aload 4, 2, 0, 0, 0), (10, .invokevirtual 301, 3, 101, 0, 98), (13, .ifCond .eq 16, 3, 0, 0, 0), (16, .aload_n 0, 1, 0, 0, 0), (17, .getfield 25, 3, 5, 2, 8), (20, .iload_n 3, 1, 0, 0, 0), (21, .aaload, 1, 0, 0, 0), (22, .getfield 91, 3, 0, 2, 30), (25, .iload_n 2, 1, 0, 0, 0), (26, .if_icmp .ge 5, 3, 0, 0, 0), (29, .iconst (-1), 1, 0, 0, 0), (30, .ireturn, 1, 0, 0, 0), (31, .aload_n 0, 1, 0, 0, 0), (32, .getfield 10, 3, 5, 0, 3), (35, .getfield 261, 3, 9, 1, 82), (38, .aload 4, 2, 0, 0, 0), (40, .getfield 305, 3, 4, 2, 99), (43, .iaload, 1, 0, 0, 0), (44, .istore 5, 2, 0, 0, 0), (46, .iload 5, 2, 0, 0, 0), (48, .iconst (-1), 1, 0, 0, 0), (49, .if_icmp .ne 7, 3, 0, 0, 0), (52, .iconst (-1), 1, 0, 0, 0), (53, .goto 10, 3, 0, 0, 0), (56, .iload 5, 2, 0, 0, 0), (58, .bipush 6, 2, 0, 0, 0), (60, .imul, 1, 0, 0, 0), (61, .iload_n 3, 1, 0, 0, 0), (62, .iadd, 1, 0, 0, 0), (63, .ireturn, 1, 0, 0, 0)]
def t_44 : i_T := (44, c_44, 6, (some .int), 0, 0)
def c_45 : List i_X := [(0, .aload_n 0, 1, 0, 0, 0), (1, .getfield 45, 3, 5, 5, 16), (4, .iload_n 1, 1, 0, 0, 0), (5, .iload_n 2, 1, 0, 0, 0), (6, .iload_n 3, 1, 0, 0, 0), (7, .iload 5, 2, 0, 0, 0), (9, .aload 4, 2, 0, 0, 0), (11, .getfield 306, 3, 1, 8, 100), (14, .invokevirtual 127, 3, 72, 5, 42), (17, .astore 6, 2, 0, 0, 0), (19, .aload 6, 2, 0, 0, 0), (21, .getfield 309, 3, 2, 10, 101), (24, .aload 4, 2, 0, 0, 0), (26, .invokevirtual 313, 3, 64, 1, 102), (29, .return_, 1, 0, 0, 0)]
def t_45 : i_T := (45, c_45, 7, none, 0, 0)
def c_46 : List i_X := [(0, .aload_n 2, 1, 0, 0, 0), (1, .getfield 309, 3, 2, 10, 101), (4, .astore_n 3, 1, 0, 0, 0), (5, .aload_n 0, 1, 0, 0, 0), (6, .getfield 45, 3, 5, 5, 16), (9, .iconst 3, 1, 0, 0, 0), (10, .iload_n 1, 1, 0, 0, 0), (11, .aload_n 2, 1, 0, 0, 0), (12, .getfield 317, 3, 2, 1, 103), (15, .aload_n 2, 1, 0, 0, 0), (16, .getfield 320, 3, 2, 3, 104), (19, .aload_n 3, 1, 0, 0, 0), (20, .getfield 306, 3, 1, 8, 100), (23, .invokevirtual 127, 3, 72, 5, 42), (26, .astore 4, 2, 0, 0, 0), (28, .aload 4, 2, 0, 0, 0), (30, .aload_n 3, 1, 0, 0, 0), (31, .getfield 323, 3, 1, 9, 105), (34, .putfield 326, 3, 2, 5, 106), (37, .return_, 1, 0, 0, 0)]
def t_46 : i_T := (46, c_46, 5, none, 0, 0)
def c_47 : List i_X := [(0, .aload_n 0, 1, 0, 0, 0), (1, .getfield 31, 3, 5, 3, 10), (4, .iload_n 1, 1, 0, 0, 0), (5, .aaload, 1, 3, 0, 0), (6, .getfield 211, 3, 3, 5, 67), (9, .iload_n 2, 1, 0, 0, 0), (10, .aaload, 1, 1, 0, 0), (11, .getfield 187, 3, 1, 1, 59), (14, .istore 4, 2, 0, 0, 0), (16, .aload_n 0, 1, 0, 0, 0), (17, .getfield 31, 3, 5, 3, 10), (20, .iload_n 1, 1, 0, 0, 0), (21, .aaload, 1, 3, 0, 0), (22, .getfield 289, 3, 3, 4, 94), (25, .aload_n 0, 1, 0, 0, 0), (26, .getfield 10, 3, 5, 0, 3), (29, .getfield 62, 3, 9, 0, 22), (32, .iload 4, 2, 0, 0, 0), (34, .iaload, 1, 0, 0, 0), (35, .iaload, 1, 0, 0, 0), (36, .istore 5, 2, 0, 0, 0), (38, .aload_n 0, 1, 0, 0, 0), (39, .getfield 45, 3, 5, 5, 16), (42, .iconst 5, 1, 0, 0, 0), (43, .iload_n 1, 1, 0, 0, 0), (44, .iconst 3, 1, 0, 0, 0), (45, .iload_n 3, 1, 0, 0, 0), (46, .iadd, 1, 0, 0, 0), (47, .iload_n 2, 1, 0, 0, 0), (48, .iload 5, 2, 0, 0, 0), (50, .invokevirtual 127, 3, 72, 5, 42), (53, .astore 6, 2, 0, 0, 0), (55, .aload 6, 2, 0, 0, 0), (57, .iload 4, 2, 0, 0, 0), (59, .putfield 327, 3, 2, 7, 107), (62, .return_, 1, 0, 0, 0)]
def t_47 : i_T := (47, c_47, 7, none, 0, 0)
def c_48 : List i_X := [(0, .aload_n 0, 1, 0, 0, 0), (1, .getfield 25, 3, 5, 2, 8), (4, .iload_n 1, 1, 0, 0, 0), (5, .aaload, 1, 0, 0, 0), (6, .astore_n 2, 1, 0, 0, 0), (7, .aload_n 2, 1, 0, 0, 0), (8, .dup, 1, 0, 0, 0), (9, .getfield 328, 3, 0, 3, 108), (12, .iconst 1, 1, 0, 0, 0), (13, .iadd, 1, 0, 0, 0), (14, .putfield 328, 3, 0, 3, 108), (17, .iconst 0, 1, 0, 0, 0), (18, .istore_n 3, 1, 0, 0, 0), (19, .iload_n 3, 1, 0, 0, 0), (20, .iconst 2, 1, 0, 0, 0), (21, .if_icmp .ge 56, 3, 0, 0, 0), (24, .aload_n 0, 1, 0, 0, 0), (25, .getfield 45, 3, 5, 5, 16), (28, .bipush 6, 2, 0, 0, 0), (30, .iconst 3, 1, 0, 0, 0), (31, .iload_n 1, 1, 0, 0, 0), (32, .iadd, 1, 0, 0, 0), (33, .iload_n 3, 1, 0, 0, 0), (34, .iload_n 1, 1, 0, 0, 0), (35, .aload_n 2, 1, 0, 0, 0), (36, .getfield 328, 3, 0, 3, 108), (39, .invokevirtual 127, 3, 72, 5, 42), (42, .astore 4, 2, 0, 0, 0), (44, .aload 4, 2, 0, 0, 0), (46, .aload_n 2, 1, 0, 0, 0), (47, .getfield 84, 3, 0, 0, 28), (50, .putfield 331, 3, 2, 8, 109), (53, .aload 4, 2, 0, 0, 0), (55, .aload_n 2, 1, 0, 0, 0), (56, .getfield 88, 3, 0, 1, 29), (59, .putfield 327, 3, 2, 7, 107), (62, .aload 4, 2, 0, 0, 0), (64, .aload_n 2, 1, 0, 0, 0), (65, .getfield 332, 3, 0, 4, 110), (68, .putfield 335, 3, 2, 9, 111), (71, .iinc 3 1, 3, 0, 0, 0), (74, .goto (-55), 3, 0, 0, 0), (77, .return_, 1, 0, 0, 0)]
def t_48 : i_T := (48, c_48, 5, none, 0, 0)
def c_49 : List i_X := [(0, .aload_n 1, 1, 0, 0, 0), (1, .getfield 336, 3, 2, 0, 112), (4, .ifCond .ne 11, 3, 0, 0, 0), (7, .aload_n 0, 1, 0, 0, 0), (8, .aload_n 1, 1, 0, 0, 0), (9, .invokevirtual 339, 3, 50, 1, 113), (12, .goto 37, 3, 0, 0, 0), (15, .aload_n 1, 1, 0, 0, 0), (16, .getfield 336, 3, 2, 0, 112), (19, .iconst 4, 1, 0, 0, 0), (20, .if_icmp .ne 29, 3, 0, 0, 0), (23, .aload_n 0, 1, 0, 0, 0), (24, .getfield 38, 3, 5, 4, 13), (27, .getfield 272, 3, 8, 1, 87), (30, .aload_n 1, 1, 0, 0, 0), (31, .getfield 320, 3, 2, 3, 104), (34, .aaload, 1, 1, 0, 0), (35, .aload_n 1, 1, 0, 0, 0), (36, .getfield 309, 3, 2, 10, 101), (39, .invokevirtual 342, 3, 63, 1, 114), (42, .pop, 1, 0, 0, 0), (43, .aload_n 0, 1, 0, 0, 0), (44, .iconst 2, 1, 0, 0, 0), (45, .aload_n 1, 1, 0, 0, 0), (46, .invokevirtual 346, 3, 46, 2, 115), (49, .return_, 1, 0, 0, 0)]
def t_49 : i_T := (49, c_49, 2, none, 0, 0)
def c_50 : List i_X := [(0, .aload_n 1, 1, 0, 0, 0), (1, .getfield 317, 3, 2, 1, 103), (4, .istore_n 2, 1, 0, 0, 0), (5, .aload_n 1, 1, 0, 0, 0), (6, .getfield 320, 3, 2, 3, 104), (9, .istore_n 3, 1, 0, 0, 0), (10, .aload_n 0, 1, 0, 0, 0), (11, .getfield 38, 3, 5, 4, 13), (14, .iload_n 2, 1, 0, 0, 0), (15, .iload_n 3, 1, 0, 0, 0), (16, .invokevirtual 350, 3, 84, 2, 116), (19, .ifCond .ne 4, 3, 0, 0, 0), (22, .return_, 1, 0, 0, 0), (23, .aload_n 0, 1, 0, 0, 0), (24, .getfield 38, 3, 5, 4, 13), (27, .iload_n 2, 1, 0, 0, 0), (28, .iload_n 3, 1, 0, 0, 0), (29, .invokevirtual 353, 3, 85, 2, 117), (32, .istore 4, 2, 0, 0, 0), (34, .aload_n 0, 1, 0, 0, 0), (35, .getfield 45, 3, 5, 5, 16), (38, .iconst 1, 1, 0, 0, 0), (39, .iconst 2, 1, 0, 0, 0), (40, .iload_n 2, 1, 0, 0, 0), (41, .iload_n 3, 1, 0, 0, 0), (42, .iload 4, 2, 0, 0, 0), (44, .invokevirtual 127, 3, 72, 5, 42), (47, .astore 5, 2, 0, 0, 0), (49, .aload 5, 2, 0, 0, 0), (51, .aload_n 1, 1, 0, 0, 0), (52, .getfield 131, 3, 2, 6, 43), (55, .putfield 131, 3, 2, 6, 43), (58, .iconst 0, 1, 0, 0, 0), (59, .istore 6, 2, 0, 0, 0), (61, .iload 6, 2, 0, 0, 0), (63, .bipush 16, 2, 0, 0, 0), (65, .if_icmp .ge 57, 3, 0, 0, 0), (68, .aload_n 0, 1, 0, 0, 0), (69, .getfield 38, 3, 5, 4, 13), (72, .getfield 272, 3, 8, 1, 87), (75, .iload 6, 2, 0, 0, 0), (77, .aaload, 1, 1, 0, 0), (78, .astore 7, 2, 0, 0, 0), (80, .aload 7, 2, 0, 0, 0), (82, .getfield 279, 3, 1, 0, 90), (85, .ifCond .eq 31, 3, 0, 0, 0), (88, .aload_n 0, 1, 0, 0, 0), (89, .getfield 10, 3, 5, 0, 3), (92, .getfield 62, 3, 9, 0, 22), (95, .aload 7, 2, 0, 0, 0), (97, .getfield 187, 3, 1, 1, 59), (100, .iaload, 1, 0, 0, 0), (101, .iload_n 3, 1, 0, 0, 0), (102, .if_icmp .ne 14, 3, 0, 0, 0), (105, .aload_n 0, 1, 0, 0, 0), (106, .iconst 2, 1, 0, 0, 0), (107, .iconst 2, 1, 0, 0, 0), (108, .iload_n 2, 1, 0, 0, 0), (109, .aload 7, 2, 0, 0, 0), (111, .iload 6, 2, 0, 0, 0), (113, .invokevirtual 215, 3, 45, 5, 68), (116, .iinc 6 1, 3, 0, 0, 0), (119, .goto (-58), 3, 0, 0, 0), (122, .return_, 1, 0, 0, 0)]
def t_50 : i_T := (50, c_50, 8, none, 0, 0)
def c_51 : List i_X := [(0, .aload_n 0, 1, 0, 0, 0), (1, .getfield 31, 3, 5, 3, 10), (4, .aload_n 1, 1, 0, 0, 0), (5, .getfield 236, 3, 2, 2, 74), (8, .aaload, 1, 3, 0, 0), (9, .astore_n 2, 1, 0, 0, 0), (10, .aload_n 1, 1, 0, 0, 0), (11, .getfield 336, 3, 2, 0, 112), (14, .tableswitch 116 1 7 #[42, 50, 77, 116, 116, 85, 101], 42, 0, 0, 0), (56, .aload_n 2, 1, 0, 0, 0), (57, .aload_n 1, 1, 0, 0, 0), (58, .invokevirtual 357, 3, 95, 1, 118), (61, .goto 69, 3, 0, 0, 0), (64, .aload_n 2, 1, 0, 0, 0), (65, .aload_n 1, 1, 0, 0, 0), (66, .invokevirtual 360, 3, 96, 1, 119), (69, .aload_n 1, 1, 0, 0, 0), (70, .getfield 317, 3, 2, 1, 103), (73, .invokestatic 104, 3, 32, 2, 34), (76, .ifCond .eq 54, 3, 0, 0, 0), (79, .aload_n 0, 1, 0, 0, 0), (80, .aload_n 1, 1, 0, 0, 0), (81, .getfield 236, 3, 2, 2, 74), (84, .aload_n 1, 1, 0, 0, 0), (85, .invokevirtual 346, 3, 46, 2, 115), (88, .goto 42, 3, 0, 0, 0), (91, .aload_n 2, 1, 0, 0, 0), (92, .aload_n 1, 1, 0, 0, 0), (93, .invokevirtual 363, 3, 97, 1, 120), (96, .goto 34, 3, 0, 0, 0), (99, .aload_n 2, 1, 0, 0, 0), (100, .getfield 195, 3, 3, 7, 62), (103, .aload_n 1, 1, 0, 0, 0), (104, .getfield 320, 3, 2, 3, 104), (107, .aaload, 1, 4, 0, 0), (108, .aload_n 1, 1, 0, 0, 0), (109, .invokevirtual 366, 3, 99, 1, 121), (112, .goto 18, 3, 0, 0, 0), (115, .aload_n 0, 1, 0, 0, 0), (116, .aload_n 1, 1, 0, 0, 0), (117, .getfield 236, 3, 2, 2, 74), (120, .aload_n 1, 1, 0, 0, 0), (121, .getfield 317, 3, 2, 1, 103), (124, .invokevirtual 369, 3, 52, 2, 122), (127, .goto 3, 3, 0, 0, 0), (130, .return_, 1, 0, 0, 0)]
def t_51 : i_T := (51, c_51, 3, none, 0, 0)
def c_52 : List i_X := [(0, .iconst 0, 1, 0, 0, 0), (1, .istore_n 3, 1, 0, 0, 0), (2, .iload_n 3, 1, 0, 0, 0), (3, .bipush 16, 2, 0, 0, 0), (5, .if_icmp .ge 40, 3, 0, 0, 0), (8, .aload_n 0, 1, 0, 0, 0), (9, .getfield 31, 3, 5, 3, 10), (12, .iload_n 1, 1, 0, 0, 0), (13, .aaload, 1, 3, 0, 0), (14, .getfield 211, 3, 3, 5, 67), (17, .iload_n 3, 1, 0, 0, 0), (18, .aaload, 1, 1, 0, 0), (19, .astore 4, 2, 0, 0, 0), (21, .aload 4, 2, 0, 0, 0), (23, .getfield 279, 3, 1, 0, 90), (26, .ifCond .eq 13, 3, 0, 0, 0), (29, .aload_n 0, 1, 0, 0, 0), (30, .iconst 2, 1, 0, 0, 0), (31, .iload_n 1, 1, 0, 0, 0), (32, .iload_n 2, 1, 0, 0, 0), (33, .aload 4, 2, 0, 0, 0), (35, .iload_n 3, 1, 0, 0, 0), (36, .invokevirtual 215, 3, 45, 5, 68), (39, .iinc 3 1, 3, 0, 0, 0), (42, .goto (-40), 3, 0, 0, 0), (45, .return_, 1, 0, 0, 0)]
def t_52 : i_T := (52, c_52, 5, none, 0, 0)
def c_53 : List i_X := [(0, .aload_n 1, 1, 0, 0, 0), (1, .getfield 236, 3, 2, 2, 74), (4, .iconst 3, 1, 0, 0, 0), (5, .isub, 1, 0, 0, 0), (6, .istore_n 2, 1, 0, 0, 0), (7, .aload_n 0, 1, 0, 0, 0), (8, .getfield 25, 3, 5, 2, 8), (11, .iload_n 2, 1, 0, 0, 0), (12, .aaload, 1, 0, 0, 0), (13, .aload_n 1, 1, 0, 0, 0), (14, .invokevirtual 372, 3, 57, 1, 123), (17, .aload_n 0, 1, 0, 0, 0), (18, .iload_n 2, 1, 0, 0, 0), (19, .invokevirtual 101, 3, 48, 1, 33), (22, .return_, 1, 0, 0, 0)]
def t_53 : i_T := (53, c_53, 3, none, 0, 0)
def c_54 : List i_X := [(0, .aload_n 0, 1, 0, 0, 0), (1, .invokespecial 3, 3, 0, 0, 0), (4, .aload_n 0, 1, 0, 0, 0), (5, .iconst 0, 1, 0, 0, 0), (6, .putfield 9, 3, 0, 0, 1), (9, .aload_n 0, 1, 0, 0, 0), (10, .iconst (-1), 1, 0, 0, 0), (11, .putfield 15, 3, 0, 4, 2), (14, .return_, 1, 0, 0, 0)]
def t_54 : i_T := (54, c_54, 1, none, 0, 0)
def c_55 : List i_X := [(0, .iload_n 1, 1, 0, 0, 0), (1, .aload_n 0, 1, 0, 0, 0), (2, .getfield 9, 3, 0, 0, 1), (5, .if_icmp .eq 52, 3, 0, 0, 0), (8, .aload_n 0, 1, 0, 0, 0), (9, .getfield 9, 3, 0, 0, 1), (12, .ifCond .ne 8, 3, 0, 0, 0), (15, .iload_n 1, 1, 0, 0, 0), (16, .iconst 3, 1, 0, 0, 0), (17, .if_icmp .eq 40, 3, 0, 0, 0), (20, .aload_n 0, 1, 0, 0, 0), (21, .getfield 9, 3, 0, 0, 1), (24, .iconst 3, 1, 0, 0, 0), (25, .if_icmp .ne 7, 3, 0, 0, 0), (28, .iload_n 1, 1, 0, 0, 0), (29, .ifCond .eq 28, 3, 0, 0, 0), (32, .aload_n 0, 1, 0, 0, 0), (33, .getfield 9, 3, 0, 0, 1), (36, .iconst 1, 1, 0, 0, 0), (37, .if_icmp .ne 8, 3, 0, 0, 0), (40, .iload_n 1, 1, 0, 0, 0), (41, .iconst 2, 1, 0, 0, 0), (42, .if_icmp .eq 15, 3, 0, 0, 0), (45, .aload_n 0, 1, 0, 0, 0), (46, .getfield 9, 3, 0, 0, 1), (49, .iconst 2, 1, 0, 0, 0), (50, .if_icmp .ne 11, 3, 0, 0, 0), (53, .iload_n 1, 1, 0, 0, 0), (54, .ifCond .ne 7, 3, 0, 0, 0), (57, .iconst 1, 1, 0, 0, 0), (58, .goto 4, 3, 0, 0, 0), (61, .iconst 0, 1, 0, 0, 0), (62, .ireturn, 1, 0, 0, 0)]
def t_55 : i_T := (55, c_55, 2, (some .boolean), 0, 0)
def c_56 : List i_X := [(0, .aload_n 0, 1, 0, 0, 0), (1, .getfield 9, 3, 0, 0, 1), (4, .iconst 1, 1, 0, 0, 0), (5, .if_icmp .ne 16, 3, 0, 0, 0), (8, .iload_n 1, 1, 0, 0, 0), (9, .iconst 2, 1, 0, 0, 0), (10, .if_icmp .ne 11, 3, 0, 0, 0), (13, .aload_n 0, 1, 0, 0, 0), (14, .aload_n 0, 1, 0, 0, 0), (15, .getfield 18, 3, 0, 5, 3), (18, .putfield 21, 3, 0, 1, 4), (21, .aload_n 0, 1, 0, 0, 0), (22, .getfield 9, 3, 0, 0, 1), (25, .iconst 2, 1, 0, 0, 0), (26, .if_icmp .ne 12, 3, 0, 0, 0), (29, .iload_n 1, 1, 0, 0, 0), (30, .ifCond .ne 8, 3, 0, 0, 0), (33, .aload_n 0, 1, 0, 0, 0), (34, .iconst (-1), 1, 0, 0, 0), (35, .putfield 15, 3, 0, 4, 2), (38, .aload_n 0, 1, 0, 0, 0), (39, .iload_n 1, 1, 0, 0, 0), (40, .putfield 9, 3, 0, 0, 1), (43, .return_, 1, 0, 0, 0)]
def t_56 : i_T := (56, c_56, 2, none, 0, 0)
def c_57 : List i_X := [(0, .aload_n 0, 1, 0, 0, 0), (1, .getfield 9, 3, 0, 0, 1), (4, .ifCond .ne 43, 3, 0, 0, 0), (7, .aload_n 1, 1, 0, 0, 0), (8, .getfield 24, 3, 2, 4, 5), (11, .aload_n 0, 1, 0, 0, 0), (12, .getfield 29, 3, 0, 6, 6), (15, .if_icmp .lt 32, 3, 0, 0, 0), (18, .aload_n 0, 1, 0, 0, 0), (19, .iconst 1, 1, 0, 0, 0), (20, .putfield 9, 3, 0, 0, 1), (23, .aload_n 0, 1, 0, 0, 0), (24, .aload_n 1, 1, 0, 0, 0), (25, .getfield 32, 3, 2, 3, 7), (28, .putfield 15, 3, 0, 4, 2), (31, .aload_n 0, 1, 0, 0, 0), (32, .aload_n 1, 1, 0, 0, 0), (33, .getfield 35, 3, 2, 7, 8), (36, .putfield 18, 3, 0, 5, 3), (39, .aload_n 0, 1, 0, 0, 0), (40, .aload_n 1, 1, 0, 0, 0), (41, .getfield 24, 3, 2, 4, 5), (44, .putfield 29, 3, 0, 6, 6), (47, .return_, 1, 0, 0, 0)]
def t_57 : i_T := (57, c_57, 2, none, 0, 0)
def c_58 : List i_X := [(0, .iload_n 1, 1, 0, 0, 0), (1, .tableswitch 69 0 5 #[39, 44, 49, 54, 59, 64], 39, 0, 0, 0), (40, .aload_n 0, 1, 0, 0, 0), (41, .getfield 9, 3, 0, 0, 1), (44, .ireturn, 1, 0, 0, 0), (45, .aload_n 0, 1, 0, 0, 0), (46, .getfield 21, 3, 0, 1, 4), (49, .ireturn, 1, 0, 0, 0), (50, .aload_n 0, 1, 0, 0, 0), (51, .getfield 15, 3, 0, 4, 2), (54, .ireturn, 1, 0, 0, 0), (55, .aload_n 0, 1, 0, 0, 0), (56, .getfield 29, 3, 0, 6, 6), (59, .ireturn, 1, 0, 0, 0), (60, .aload_n 0, 1, 0, 0, 0), (61, .getfield 36, 3, 0, 3, 9), (64, .ireturn, 1, 0, 0, 0), (65, .aload_n 0, 1, 0, 0, 0), (66, .getfield 39, 3, 0, 2, 10), (69, .ireturn, 1, 0, 0, 0), (70, .iconst (-1), 1, 0, 0, 0), (71, .ireturn, 1, 0, 0, 0)]
def t_58 : i_T := (58, c_58, 2, (some .int), 0, 0)
def c_59 : List i_X := [(0, .aload_n 0, 1, 0, 0, 0), (1, .invokespecial 3, 3, 0, 0, 0), (4, .return_, 1, 0, 0, 0)]
def t_59 : i_T := (59, c_59, 1, none, 0, 0)
def c_60 : List i_X := [(0, .aload_n 0, 1, 0, 0, 0), (1, .iconst 1, 1, 0, 0, 0), (2, .putfield 9, 3, 1, 0, 1), (5, .aload_n 0, 1, 0, 0, 0), (6, .iload_n 1, 1, 0, 0, 0), (7, .putfield 15, 3, 1, 1, 2), (10, .aload_n 0, 1, 0, 0, 0), (11, .iload_n 2, 1, 0, 0, 0), (12, .putfield 19, 3, 1, 2, 3), (15, .aload_n 0, 1, 0, 0, 0), (16, .iconst 0, 1, 0, 0, 0), (17, .putfield 22, 3, 1, 3, 4), (20, .aload_n 0, 1, 0, 0, 0), (21, .iload_n 3, 1, 0, 0, 0), (22, .putfield 25, 3, 1, 4, 5), (25, .aload_n 0, 1, 0, 0, 0), (26, .iconst 0, 1, 0, 0, 0), (27, .putfield 28, 3, 1, 5, 6), (30, .aload_n 0, 1, 0, 0, 0), (31, .iconst (-1), 1, 0, 0, 0), (32, .putfield 31, 3, 1, 6, 7), (35, .aload_n 0, 1, 0, 0, 0), (36, .iconst 0, 1, 0, 0, 0), (37, .putfield 34, 3, 1, 7, 8), (40, .return_, 1, 0, 0, 0)]
def t_60 : i_T := (60, c_60, 4, none, 0, 0)
def c_61 : List i_X := [(0, .aload_n 0, 1, 0, 0, 0), (1, .aload_n 0, 1, 0, 0, 0), (2, .getfield 37, 3, 1, 8, 9), (5, .iload_n 1, 1, 0, 0, 0), (6, .if_icmp .ne 12, 3, 0, 0, 0), (9, .aload_n 0, 1, 0, 0, 0), (10, .getfield 40, 3, 1, 9, 10), (13, .iconst 1, 1, 0, 0, 0), (14, .iadd, 1, 0, 0, 0), (15, .goto 4, 3, 0, 0, 0), (18, .iconst 1, 1, 0, 0, 0), (19, .putfield 40, 3, 1, 9, 10), (22, .aload_n 0, 1, 0, 0, 0), (23, .iload_n 1, 1, 0, 0, 0), (24, .putfield 37, 3, 1, 8, 9), (27, .return_, 1, 0, 0, 0)]
def t_61 : i_T := (61, c_61, 2, none, 0, 0)
def c_62 : List i_X := [(0, .aload_n 0, 1, 0, 0, 0), (1, .getfield 9, 3, 1, 0, 1), (4, .ifCond .eq 23, 3, 0, 0, 0), (7, .aload_n 0, 1, 0, 0, 0), (8, .getfield 37, 3, 1, 8, 9), (11, .iload_n 1, 1, 0, 0, 0), (12, .if_icmp .ne 15, 3, 0, 0, 0), (15, .aload_n 0, 1, 0, 0, 0), (16, .getfield 40, 3, 1, 9, 10), (19, .iload_n 2, 1, 0, 0, 0), (20, .if_icmp .ne 7, 3, 0, 0, 0), (23, .iconst 1, 1, 0, 0, 0), (24, .goto 4, 3, 0, 0, 0), (27, .iconst 0, 1, 0, 0, 0), (28, .ireturn, 1, 0, 0, 0)]
def t_62 : i_T := (62, c_62, 3, (some .boolean), 0, 0)
def c_63 : List i_X := [(0, .aload_n 0, 1, 0, 0, 0), (1, .getfield 9, 3, 1, 0, 1), (4, .ifCond .eq 36, 3, 0, 0, 0), (7, .aload_n 1, 1, 0, 0, 0), (8, .getfield 37, 3, 1, 8, 9), (11, .aload_n 0, 1, 0, 0, 0), (12, .getfield 37, 3, 1, 8, 9), (15, .if_icmp .gt 25, 3, 0, 0, 0), (18, .aload_n 1, 1, 0, 0, 0), (19, .getfield 37, 3, 1, 8, 9), (22, .aload_n 0, 1, 0, 0, 0), (23, .getfield 37, 3, 1, 8, 9), (26, .if_icmp .ne 18, 3, 0, 0, 0), (29, .aload_n 1, 1, 0, 0, 0), (30, .getfield 40, 3, 1, 9, 10), (33, .aload_n 0, 1, 0, 0, 0), (34, .getfield 40, 3, 1, 9, 10), (37, .if_icmp .le 7, 3, 0, 0, 0), (40, .iconst 1, 1, 0, 0, 0), (41, .goto 4, 3, 0, 0, 0), (44, .iconst 0, 1, 0, 0, 0), (45, .istore_n 2, 1, 0, 0, 0), (46, .iload_n 2, 1, 0, 0, 0), (47, .ifCond .eq 8, 3, 0, 0, 0), (50, .aload_n 0, 1, 0, 0, 0), (51, .aload_n 1, 1, 0, 0, 0), (52, .invokevirtual 43, 3, 64, 1, 11), (55, .iload_n 2, 1, 0, 0, 0), (56, .ireturn, 1, 0, 0, 0)]
def t_63 : i_T := (63, c_63, 3, (some .boolean), 0, 0)
def c_64 : List i_X := [(0, .aload_n 0, 1, 0, 0, 0), (1, .aload_n 1, 1, 0, 0, 0), (2, .getfield 9, 3, 1, 0, 1), (5, .putfield 9, 3, 1, 0, 1), (8, .aload_n 0, 1, 0, 0, 0), (9, .aload_n 1, 1, 0, 0, 0), (10, .getfield 15, 3, 1, 1, 2), (13, .putfield 15, 3, 1, 1, 2), (16, .aload_n 0, 1, 0, 0, 0), (17, .aload_n 1, 1, 0, 0, 0), (18, .getfield 19, 3, 1, 2, 3), (21, .putfield 19, 3, 1, 2, 3), (24, .aload_n 0, 1, 0, 0, 0), (25, .aload_n 1, 1, 0, 0, 0), (26, .getfield 22, 3, 1, 3, 4), (29, .putfield 22, 3, 1, 3, 4), (32, .aload_n 0, 1, 0, 0, 0), (33, .aload_n 1, 1, 0, 0, 0), (34, .getfield 25, 3, 1, 4, 5), (37, .putfield 25, 3, 1, 4, 5), (40, .aload_n 0, 1, 0, 0, 0), (41, .aload_n 1, 1, 0, 0, 0), (42, .getfield 28, 3, 1, 5, 6), (45, .putfield 28, 3, 1, 5, 6), (48, .aload_n 0, 1, 0, 0, 0), (49, .aload_n 1, 1, 0, 0, 0), (50, .getfield 31, 3, 1, 6, 7), (53, .putfield 31, 3, 1, 6, 7), (56, .aload_n 0, 1, 0, 0, 0), (57, .aload_n 1, 1, 0, 0, 0), (58, .getfield 34, 3, 1, 7, 8), (61, .putfield 34, 3, 1, 7, 8), (64, .aload_n 0, 1, 0, 0, 0), (65, .aload_n 1, 1, 0, 0, 0), (66, .getfield 37, 3, 1, 8, 9), (69, .putfield 37, 3, 1, 8, 9), (72, .aload_n 0, 1, 0, 0, 0), (73, .aload_n 1, 1, 0, 0, 0), (74, .getfield 40, 3, 1, 9, 10), (77, .putfield 40, 3, 1, 9, 10), (80, .return_, 1, 0, 0, 0)]
def t_64 : i_T := (64, c_64, 2, none, 0, 0)
def c_65 : List i_X := [(0, .aload_n 0, 1, 0, 0, 0), (1, .getfield 25, 3, 1, 4, 5), (4, .ifCond .ne 7, 3, 0, 0, 0), (7, .iconst 5, 1, 0, 0, 0), (8, .goto 7, 3, 0, 0, 0), (11, .aload_n 0, 1, 0, 0, 0), (12, .getfield 25, 3, 1, 4, 5), (15, .iconst 1, 1, 0, 0, 0), (16, .isub, 1, 0, 0, 0), (17, .iconst 2, 1, 0, 0, 0), (18, .idiv, 1, 0, 0, 0), (19, .ireturn, 1, 0, 0, 0)]
def t_65 : i_T := (65, c_65, 1, (some .int), 0, 0)
def c_66 : List i_X := [(0, .aload_n 0, 1, 0, 0, 0), (1, .getfield 9, 3, 1, 0, 1), (4, .ifCond .ne 5, 3, 0, 0, 0), (7, .iconst (-1), 1, 0, 0, 0), (8, .ireturn, 1, 0, 0, 0), (9, .iload_n 1, 1, 0, 0, 0), (10, .tableswitch 100 0 8 #[50, 55, 60, 65, 70, 75, 80, 85, 90], 50, 0, 0, 0), (60, .aload_n 0, 1, 0, 0, 0), (61, .getfield 15, 3, 1, 1, 2), (64, .ireturn, 1, 0, 0, 0), (65, .aload_n 0, 1, 0, 0, 0), (66, .getfield 22, 3, 1, 3, 4), (69, .ireturn, 1, 0, 0, 0), (70, .aload_n 0, 1, 0, 0, 0), (71, .getfield 25, 3, 1, 4, 5), (74, .ireturn, 1, 0, 0, 0), (75, .aload_n 0, 1, 0, 0, 0), (76, .getfield 28, 3, 1, 5, 6), (79, .ireturn, 1, 0, 0, 0), (80, .aload_n 0, 1, 0, 0, 0), (81, .getfield 31, 3, 1, 6, 7), (84, .ireturn, 1, 0, 0, 0), (85, .aload_n 0, 1, 0, 0, 0), (86, .getfield 34, 3, 1, 7, 8), (89, .ireturn, 1, 0, 0, 0), (90, .aload_n 0, 1, 0, 0, 0), (91, .getfield 37, 3, 1, 8, 9), (94, .ireturn, 1, 0, 0, 0), (95, .aload_n 0, 1, 0, 0, 0), (96, .getfield 40, 3, 1, 9, 10), (99, .ireturn, 1, 0, 0, 0), (100, .iload_n 2, 1, 0, 0, 0), (101, .ifCond .eq 7, 3, 0, 0, 0), (104, .iconst 1, 1, 0, 0, 0), (105, .goto 4, 3, 0, 0, 0), (108, .iconst 0, 1, 0, 0, 0), (109, .ireturn, 1, 0, 0, 0), (110, .iconst (-1), 1, 0, 0, 0), (111, .ireturn, 1, 0, 0, 0)]
def t_66 : i_T := (66, c_66, 3, (some .int), 0, 0)
def c_67 : List i_X := [(0, .aload_n 0, 1, 0, 0, 0), (1, .invokespecial 3, 3, 0, 0, 0), (4, .aload_n 0, 1, 0, 0, 0), (5, .new 9, 3, 1, 0, 1), (8, .dup, 1, 0, 0, 0), (9, .invokespecial 11, 3, 59, 1, 2), (12, .putfield 12, 3, 2, 10, 3), (15, .return_, 1, 0, 0, 0)]
def t_67 : i_T := (67, c_67, 1, none, 1, 10)
def c_68 : List i_X := [(0, .aload_n 0, 1, 0, 0, 0), (1, .aload_n 1, 1, 0, 0, 0), (2, .getfield 18, 3, 2, 0, 4), (5, .putfield 18, 3, 2, 0, 4), (8, .aload_n 0, 1, 0, 0, 0), (9, .aload_n 1, 1, 0, 0, 0), (10, .getfield 22, 3, 2, 1, 5), (13, .putfield 22, 3, 2, 1, 5), (16, .aload_n 0, 1, 0, 0, 0), (17, .aload_n 1, 1, 0, 0, 0), (18, .getfield 25, 3, 2, 2, 6), (21, .putfield 25, 3, 2, 2, 6), (24, .aload_n 0, 1, 0, 0, 0), (25, .aload_n 1, 1, 0, 0, 0), (26, .getfield 28, 3, 2, 3, 7), (29, .putfield 28, 3, 2, 3, 7), (32, .aload_n 0, 1, 0, 0, 0), (33, .aload_n 1, 1, 0, 0, 0), (34, .getfield 31, 3, 2, 4, 8), (37, .putfield 31, 3, 2, 4, 8), (40, .aload_n 0, 1, 0, 0, 0), (41, .aload_n 1, 1, 0, 0, 0), (42, .getfield 34, 3, 2, 5, 9), (45, .putfield 34, 3, 2, 5, 9), (48, .aload_n 0, 1, 0, 0, 0), (49, .aload_n 1, 1, 0, 0, 0), (50, .getfield 37, 3, 2, 6, 10), (53, .putfield 37, 3, 2, 6, 10), (56, .aload_n 0, 1, 0, 0, 0), (57, .aload_n 1, 1, 0, 0, 0), (58, .getfield 41, 3, 2, 7, 11), (61, .putfield 41, 3, 2, 7, 11), (64, .aload_n 0, 1, 0, 0, 0), (65, .aload_n 1, 1, 0, 0, 0), (66, .getfield 44, 3, 2, 8, 12), (69, .putfield 44, 3, 2, 8, 12), (72, .aload_n 0, 1, 0, 0, 0), (73, .aload_n 1, 1, 0, 0, 0), (74, .getfield 47, 3, 2, 9, 13), (77, .putfield 47, 3, 2, 9, 13), (80, .aload_n 0, 1, 0, 0, 0), (81, .getfield 12, 3, 2, 10, 3), (84, .aload_n 1, 1, 0, 0, 0), (85, .getfield 12, 3, 2, 10, 3), (88, .invokevirtual 50, 3, 64, 1, 14), (91, .return_, 1, 0, 0, 0)]
def t_68 : i_T := (68, c_68, 2, none, 0, 0)
def c_69 : List i_X := [(0, .iload_n 1, 1, 0, 0, 0), (1, .tableswitch 60 0 4 #[35, 40, 45, 50, 55], 35, 0, 0, 0), (36, .aload_n 0, 1, 0, 0, 0), (37, .getfield 18, 3, 2, 0, 4), (40, .ireturn, 1, 0, 0, 0), (41, .aload_n 0, 1, 0, 0, 0), (42, .getfield 22, 3, 2, 1, 5), (45, .ireturn, 1, 0, 0, 0), (46, .aload_n 0, 1, 0, 0, 0), (47, .getfield 25, 3, 2, 2, 6), (50, .ireturn, 1, 0, 0, 0), (51, .aload_n 0, 1, 0, 0, 0), (52, .getfield 28, 3, 2, 3, 7), (55, .ireturn, 1, 0, 0, 0), (56, .aload_n 0, 1, 0, 0, 0), (57, .getfield 31, 3, 2, 4, 8), (60, .ireturn, 1, 0, 0, 0), (61, .iconst (-1), 1, 0, 0, 0), (62, .ireturn, 1, 0, 0, 0)]
def t_69 : i_T := (69, c_69, 2, (some .int), 0, 0)
def c_70 : List i_X := [(0, .aload_n 0, 1, 0, 0, 0), (1, .invokespecial 3, 3, 0, 0, 0), (4, .aload_n 0, 1, 0, 0, 0), (5, .bipush 49, 2, 0, 0, 0), (7, .anewarray 9, 3, 2, 49, 1), (10, .putfield 11, 3, 6, 0, 2), (13, .aload_n 0, 1, 0, 0, 0), (14, .new 9, 3, 2, 0, 1), (17, .dup, 1, 0, 0, 0), (18, .invokespecial 17, 3, 67, 1, 3), (21, .putfield 18, 3, 6, 2, 4), (24, .iconst 0, 1, 0, 0, 0), (25, .istore_n 1, 1, 0, 0, 0), (26, .iload_n 1, 1, 0, 0, 0), (27, .bipush 48, 2, 0, 0, 0), (29, .if_icmp .gt 22, 3, 0, 0, 0), (32, .aload_n 0, 1, 0, 0, 0), (33, .getfield 11, 3, 6, 0, 2), (36, .iload_n 1, 1, 0, 0, 0), (37, .new 9, 3, 2, 0, 1), (40, .dup, 1, 0, 0, 0), (41, .invokespecial 17, 3, 67, 1, 3), (44, .aastore, 1, 2, 0, 0), (45, .iinc 1 1, 3, 0, 0, 0), (48, .goto (-22), 3, 0, 0, 0), (51, .return_, 1, 0, 0, 0)]
def t_70 : i_T := (70, c_70, 2, none, 101, 1099)
def c_71 : List i_X := [(0, .iload_n 1, 1, 0, 0, 0), (1, .ifCond .lt 15, 3, 0, 0, 0), (4, .iload_n 1, 1, 0, 0, 0), (5, .aload_n 0, 1, 0, 0, 0), (6, .getfield 22, 3, 6, 1, 5), (9, .if_icmp .ge 7, 3, 0, 0, 0), (12, .iconst 1, 1, 0, 0, 0), (13, .goto 4, 3, 0, 0, 0), (16, .iconst 0, 1, 0, 0, 0), (17, .ireturn, 1, 0, 0, 0)]
def t_71 : i_T := (71, c_71, 2, (some .boolean), 0, 0)
def c_72 : List i_X := [(0, .aload_n 0, 1, 0, 0, 0), (1, .getfield 11, 3, 6, 0, 2), (4, .aload_n 0, 1, 0, 0, 0), (5, .getfield 22, 3, 6, 1, 5), (8, .aaload, 1, 2, 0, 0), (9, .astore 6, 2, 0, 0, 0), (11, .aload_n 0, 1, 0, 0, 0), (12, .getfield 22, 3, 6, 1, 5), (15, .bipush 48, 2, 0, 0, 0), (17, .if_icmp .ge 13, 3, 0, 0, 0), (20, .aload_n 0, 1, 0, 0, 0), (21, .dup, 1, 0, 0, 0), (22, .getfield 22, 3, 6, 1, 5), (25, .iconst 1, 1, 0, 0, 0), (26, .iadd, 1, 0, 0, 0), (27, .putfield 22, 3, 6, 1, 5), (30, .aload 6, 2, 0, 0, 0), (32, .iload_n 1, 1, 0, 0, 0), (33, .putfield 26, 3, 2, 0, 6), (36, .aload 6, 2, 0, 0, 0), (38, .iload_n 2, 1, 0, 0, 0), (39, .putfield 29, 3, 2, 1, 7), (42, .aload 6, 2, 0, 0, 0), (44, .iload_n 3, 1, 0, 0, 0), (45, .putfield 32, 3, 2, 2, 8), (48, .aload 6, 2, 0, 0, 0), (50, .iload 4, 2, 0, 0, 0), (52, .putfield 35, 3, 2, 3, 9), (55, .aload 6, 2, 0, 0, 0), (57, .iload 5, 2, 0, 0, 0), (59, .putfield 38, 3, 2, 4, 10), (62, .aload 6, 2, 0, 0, 0), (64, .areturn, 1, 0, 0, 0)]
def t_72 : i_T := (72, c_72, 7, (some (.object "TwinRooms$Letter")), 0, 0)
def c_73 : List i_X := [(0, .aload_n 0, 1, 0, 0, 0), (1, .getfield 11, 3, 6, 0, 2), (4, .aload_n 0, 1, 0, 0, 0), (5, .getfield 22, 3, 6, 1, 5), (8, .aaload, 1, 2, 0, 0), (9, .aload_n 0, 1, 0, 0, 0), (10, .getfield 11, 3, 6, 0, 2), (13, .iload_n 1, 1, 0, 0, 0), (14, .aaload, 1, 2, 0, 0), (15, .invokevirtual 41, 3, 68, 1, 11), (18, .aload_n 0, 1, 0, 0, 0), (19, .dup, 1, 0, 0, 0), (20, .getfield 22, 3, 6, 1, 5), (23, .iconst 1, 1, 0, 0, 0), (24, .iadd, 1, 0, 0, 0), (25, .putfield 22, 3, 6, 1, 5), (28, .return_, 1, 0, 0, 0)]
def t_73 : i_T := (73, c_73, 2, none, 0, 0)
def c_74 : List i_X := [(0, .aload_n 0, 1, 0, 0, 0), (1, .getfield 11, 3, 6, 0, 2), (4, .iload_n 1, 1, 0, 0, 0), (5, .aaload, 1, 2, 0, 0), (6, .astore_n 2, 1, 0, 0, 0), (7, .aload_n 0, 1, 0, 0, 0), (8, .dup, 1, 0, 0, 0), (9, .getfield 22, 3, 6, 1, 5), (12, .iconst 1, 1, 0, 0, 0), (13, .isub, 1, 0, 0, 0), (14, .putfield 22, 3, 6, 1, 5), (17, .iload_n 1, 1, 0, 0, 0), (18, .istore_n 3, 1, 0, 0, 0), (19, .iload_n 3, 1, 0, 0, 0), (20, .aload_n 0, 1, 0, 0, 0), (21, .getfield 22, 3, 6, 1, 5), (24, .if_icmp .ge 23, 3, 0, 0, 0), (27, .aload_n 0, 1, 0, 0, 0), (28, .getfield 11, 3, 6, 0, 2), (31, .iload_n 3, 1, 0, 0, 0), (32, .aload_n 0, 1, 0, 0, 0), (33, .getfield 11, 3, 6, 0, 2), (36, .iload_n 3, 1, 0, 0, 0), (37, .iconst 1, 1, 0, 0, 0), (38, .iadd, 1, 0, 0, 0), (39, .aaload, 1, 2, 0, 0), (40, .aastore, 1, 2, 0, 0), (41, .iinc 3 1, 3, 0, 0, 0), (44, .goto (-25), 3, 0, 0, 0), (47, .aload_n 0, 1, 0, 0, 0), (48, .getfield 11, 3, 6, 0, 2), (51, .aload_n 0, 1, 0, 0, 0), (52, .getfield 22, 3, 6, 1, 5), (55, .aload_n 0, 1, 0, 0, 0), (56, .getfield 18, 3, 6, 2, 4), (59, .aastore, 1, 2, 0, 0), (60, .aload_n 0, 1, 0, 0, 0), (61, .aload_n 2, 1, 0, 0, 0), (62, .putfield 18, 3, 6, 2, 4), (65, .aload_n 2, 1, 0, 0, 0), (66, .areturn, 1, 0, 0, 0)]
def t_74 : i_T := (74, c_74, 4, (some (.object "TwinRooms$Letter")), 0, 0)
def c_75 : List i_X := [(0, .aload_n 0, 1, 0, 0, 0), (1, .invokespecial 3, 3, 0, 0, 0), (4, .aload_n 0, 1, 0, 0, 0), (5, .bipush 16, 2, 0, 0, 0), (7, .newarray .int, 2, 0, 16, 0), (9, .putfield 9, 3, 7, 0, 1), (12, .aload_n 0, 1, 0, 0, 0), (13, .bipush 16, 2, 0, 0, 0), (15, .newarray .int, 2, 0, 16, 0), (17, .putfield 15, 3, 7, 1, 2), (20, .aload_n 0, 1, 0, 0, 0), (21, .bipush 16, 2, 0, 0, 0), (23, .newarray .int, 2, 0, 16, 0), (25, .putfield 18, 3, 7, 2, 3), (28, .aload_n 0, 1, 0, 0, 0), (29, .bipush 16, 2, 0, 0, 0), (31, .newarray .int, 2, 0, 16, 0), (33, .putfield 21, 3, 7, 3, 4), (36, .iconst 0, 1, 0, 0, 0), (37, .istore_n 1, 1, 0, 0, 0), (38, .iload_n 1, 1, 0, 0, 0), (39, .bipush 16, 2, 0, 0, 0), (41, .if_icmp .ge 16, 3, 0, 0, 0), (44, .aload_n 0, 1, 0, 0, 0), (45, .getfield 18, 3, 7, 2, 3), (48, .iload_n 1, 1, 0, 0, 0), (49, .iconst 1, 1, 0, 0, 0), (50, .iastore, 1, 0, 0, 0), (51, .iinc 1 1, 3, 0, 0, 0), (54, .goto (-16), 3, 0, 0, 0), (57, .return_, 1, 0, 0, 0)]
def t_75 : i_T := (75, c_75, 2, none, 4, 64)
def c_76 : List i_X := [(0, .aload_n 0, 1, 0, 0, 0), (1, .getfield 18, 3, 7, 2, 3), (4, .iload_n 1, 1, 0, 0, 0), (5, .iload_n 2, 1, 0, 0, 0), (6, .iastore, 1, 0, 0, 0), (7, .return_, 1, 0, 0, 0)]
def t_76 : i_T := (76, c_76, 3, none, 0, 0)
def c_77 : List i_X := [(0, .aload_n 0, 1, 0, 0, 0), (1, .getfield 18, 3, 7, 2, 3), (4, .iload_n 1, 1, 0, 0, 0), (5, .iconst 0, 1, 0, 0, 0), (6, .iastore, 1, 0, 0, 0), (7, .aload_n 0, 1, 0, 0, 0), (8, .getfield 9, 3, 7, 0, 1), (11, .iload_n 1, 1, 0, 0, 0), (12, .iload_n 2, 1, 0, 0, 0), (13, .iastore, 1, 0, 0, 0), (14, .aload_n 0, 1, 0, 0, 0), (15, .getfield 15, 3, 7, 1, 2), (18, .iload_n 1, 1, 0, 0, 0), (19, .iload_n 3, 1, 0, 0, 0), (20, .iastore, 1, 0, 0, 0), (21, .return_, 1, 0, 0, 0)]
def t_77 : i_T := (77, c_77, 4, none, 0, 0)
def c_78 : List i_X := [(0, .aload_n 0, 1, 0, 0, 0), (1, .getfield 18, 3, 7, 2, 3), (4, .iload_n 1, 1, 0, 0, 0), (5, .iaload, 1, 0, 0, 0), (6, .ifCond .le 7, 3, 0, 0, 0), (9, .iconst 1, 1, 0, 0, 0), (10, .goto 4, 3, 0, 0, 0), (13, .iconst 0, 1, 0, 0, 0), (14, .ireturn, 1, 0, 0, 0)]
def t_78 : i_T := (78, c_78, 2, (some .boolean), 0, 0)
def c_79 : List i_X := [(0, .aload_n 0, 1, 0, 0, 0), (1, .getfield 18, 3, 7, 2, 3), (4, .iload_n 1, 1, 0, 0, 0), (5, .iaload, 1, 0, 0, 0), (6, .ireturn, 1, 0, 0, 0)]
def t_79 : i_T := (79, c_79, 2, (some .int), 0, 0)
def c_80 : List i_X := [(0, .iload_n 2, 1, 0, 0, 0), (1, .ifCond .eq 12, 3, 0, 0, 0), (4, .aload_n 0, 1, 0, 0, 0), (5, .getfield 9, 3, 7, 0, 1), (8, .iload_n 1, 1, 0, 0, 0), (9, .iaload, 1, 0, 0, 0), (10, .goto 9, 3, 0, 0, 0), (13, .aload_n 0, 1, 0, 0, 0), (14, .getfield 15, 3, 7, 1, 2), (17, .iload_n 1, 1, 0, 0, 0), (18, .iaload, 1, 0, 0, 0), (19, .ireturn, 1, 0, 0, 0)]
def t_80 : i_T := (80, c_80, 3, (some .int), 0, 0)
def c_81 : List i_X := [(0, .iconst 0, 1, 0, 0, 0), (1, .istore_n 2, 1, 0, 0, 0), (2, .iload_n 2, 1, 0, 0, 0), (3, .bipush 16, 2, 0, 0, 0), (5, .if_icmp .ge 16, 3, 0, 0, 0), (8, .aload_n 0, 1, 0, 0, 0), (9, .getfield 21, 3, 7, 3, 4), (12, .iload_n 2, 1, 0, 0, 0), (13, .iconst 0, 1, 0, 0, 0), (14, .iastore, 1, 0, 0, 0), (15, .iinc 2 1, 3, 0, 0, 0), (18, .goto (-16), 3, 0, 0, 0), (21, .iconst 0, 1, 0, 0, 0), (22, .istore_n 2, 1, 0, 0, 0), (23, .iload_n 2, 1, 0, 0, 0), (24, .bipush 16, 2, 0, 0, 0), (26, .if_icmp .ge 13, 3, 0, 0, 0), (29, .aload_n 0, 1, 0, 0, 0), (30, .invokevirtual 24, 3, 82, 0, 5), (33, .iinc 2 1, 3, 0, 0, 0), (36, .goto (-13), 3, 0, 0, 0), (39, .aload_n 0, 1, 0, 0, 0), (40, .getfield 21, 3, 7, 3, 4), (43, .iload_n 1, 1, 0, 0, 0), (44, .iaload, 1, 0, 0, 0), (45, .bipush 16, 2, 0, 0, 0), (47, .if_icmp .ge 12, 3, 0, 0, 0), (50, .aload_n 0, 1, 0, 0, 0), (51, .getfield 21, 3, 7, 3, 4), (54, .iload_n 1, 1, 0, 0, 0), (55, .iaload, 1, 0, 0, 0), (56, .goto 4, 3, 0, 0, 0), (59, .iconst (-1), 1, 0, 0, 0), (60, .ireturn, 1, 0, 0, 0)]
def t_81 : i_T := (81, c_81, 3, (some .int), 0, 0)
def c_82 : List i_X := [(0, .iconst 0, 1, 0, 0, 0), (1, .istore_n 1, 1, 0, 0, 0), (2, .iload_n 1, 1, 0, 0, 0), (3, .bipush 16, 2, 0, 0, 0), (5, .if_icmp .ge 50, 3, 0, 0, 0), (8, .aload_n 0, 1, 0, 0, 0), (9, .iload_n 1, 1, 0, 0, 0), (10, .invokevirtual 27, 3, 78, 1, 6), (13, .ifCond .ne 36, 3, 0, 0, 0), (16, .aload_n 0, 1, 0, 0, 0), (17, .getfield 21, 3, 7, 3, 4), (20, .iload_n 1, 1, 0, 0, 0), (21, .iconst 1, 1, 0, 0, 0), (22, .aload_n 0, 1, 0, 0, 0), (23, .getfield 21, 3, 7, 3, 4), (26, .aload_n 0, 1, 0, 0, 0), (27, .getfield 9, 3, 7, 0, 1), (30, .iload_n 1, 1, 0, 0, 0), (31, .iaload, 1, 0, 0, 0), (32, .iaload, 1, 0, 0, 0), (33, .aload_n 0, 1, 0, 0, 0), (34, .getfield 21, 3, 7, 3, 4), (37, .aload_n 0, 1, 0, 0, 0), (38, .getfield 15, 3, 7, 1, 2), (41, .iload_n 1, 1, 0, 0, 0), (42, .iaload, 1, 0, 0, 0), (43, .iaload, 1, 0, 0, 0), (44, .invokestatic 31, 3, 0, 0, 7), (47, .iadd, 1, 0, 0, 0), (48, .iastore, 1, 0, 0, 0), (49, .iinc 1 1, 3, 0, 0, 0), (52, .goto (-50), 3, 0, 0, 0), (55, .return_, 1, 0, 0, 0)]
def t_82 : i_T := (82, c_82, 2, none, 0, 0)
def c_83 : List i_X := [(0, .aload_n 0, 1, 0, 0, 0), (1, .invokespecial 3, 3, 0, 0, 0), (4, .aload_n 0, 1, 0, 0, 0), (5, .bipush 16, 2, 0, 0, 0), (7, .anewarray 9, 3, 1, 16, 1), (10, .putfield 11, 3, 8, 1, 2), (13, .aload_n 0, 1, 0, 0, 0), (14, .iconst 4, 1, 0, 0, 0), (15, .newarray .int, 2, 0, 4, 0), (17, .putfield 17, 3, 8, 2, 3), (20, .aload_n 0, 1, 0, 0, 0), (21, .iconst 4, 1, 0, 0, 0), (22, .newarray .long, 2, 1, 4, 0), (24, .putfield 21, 3, 8, 3, 4), (27, .iconst 0, 1, 0, 0, 0), (28, .istore_n 1, 1, 0, 0, 0), (29, .iload_n 1, 1, 0, 0, 0), (30, .bipush 16, 2, 0, 0, 0), (32, .if_icmp .ge 22, 3, 0, 0, 0), (35, .aload_n 0, 1, 0, 0, 0), (36, .getfield 11, 3, 8, 1, 2), (39, .iload_n 1, 1, 0, 0, 0), (40, .new 9, 3, 1, 0, 1), (43, .dup, 1, 0, 0, 0), (44, .invokespecial 25, 3, 59, 1, 5), (47, .aastore, 1, 1, 0, 0), (48, .iinc 1 1, 3, 0, 0, 0), (51, .goto (-22), 3, 0, 0, 0), (54, .iconst 0, 1, 0, 0, 0), (55, .istore_n 1, 1, 0, 0, 0), (56, .iload_n 1, 1, 0, 0, 0), (57, .iconst 4, 1, 0, 0, 0), (58, .if_icmp .ge 16, 3, 0, 0, 0), (61, .aload_n 0, 1, 0, 0, 0), (62, .getfield 17, 3, 8, 2, 3), (65, .iload_n 1, 1, 0, 0, 0), (66, .iconst (-1), 1, 0, 0, 0), (67, .iastore, 1, 0, 0, 0), (68, .iinc 1 1, 3, 0, 0, 0), (71, .goto (-15), 3, 0, 0, 0), (74, .return_, 1, 0, 0, 0)]
def t_83 : i_T := (83, c_83, 2, none, 19, 184)
def c_84 : List i_X := [(0, .aload_n 0, 1, 0, 0, 0), (1, .getfield 17, 3, 8, 2, 3), (4, .iload_n 2, 1, 0, 0, 0), (5, .iaload, 1, 0, 0, 0), (6, .iconst (-1), 1, 0, 0, 0), (7, .if_icmp .eq 31, 3, 0, 0, 0), (10, .aload_n 0, 1, 0, 0, 0), (11, .getfield 17, 3, 8, 2, 3), (14, .iload_n 2, 1, 0, 0, 0), (15, .iaload, 1, 0, 0, 0), (16, .iload_n 1, 1, 0, 0, 0), (17, .if_icmp .eq 21, 3, 0, 0, 0), (20, .aload_n 0, 1, 0, 0, 0), (21, .getfield 26, 3, 8, 0, 6), (24, .aload_n 0, 1, 0, 0, 0), (25, .getfield 21, 3, 8, 3, 4), (28, .iload_n 2, 1, 0, 0, 0), (29, .laload, 1, 0, 0, 0), (30, .lsub, 1, 0, 0, 0), (31, .ldc2_w 30, 3, 2100, 0, 7), (34, .lcmp, 1, 0, 0, 0), (35, .ifCond .lt 7, 3, 0, 0, 0), (38, .iconst 1, 1, 0, 0, 0), (39, .goto 4, 3, 0, 0, 0), (42, .iconst 0, 1, 0, 0, 0), (43, .ireturn, 1, 0, 0, 0)]
def t_84 : i_T := (84, c_84, 3, (some .boolean), 0, 0)
def c_85 : List i_X := [(0, .aload_n 0, 1, 0, 0, 0), (1, .getfield 17, 3, 8, 2, 3), (4, .iload_n 2, 1, 0, 0, 0), (5, .iload_n 1, 1, 0, 0, 0), (6, .iastore, 1, 0, 0, 0), (7, .aload_n 0, 1, 0, 0, 0), (8, .getfield 21, 3, 8, 3, 4), (11, .iload_n 2, 1, 0, 0, 0), (12, .aload_n 0, 1, 0, 0, 0), (13, .getfield 26, 3, 8, 0, 6), (16, .lastore, 1, 0, 0, 0), (17, .aload_n 0, 1, 0, 0, 0), (18, .dup, 1, 0, 0, 0), (19, .getfield 32, 3, 8, 4, 8), (22, .iconst 1, 1, 0, 0, 0), (23, .iadd, 1, 0, 0, 0), (24, .putfield 32, 3, 8, 4, 8), (27, .aload_n 0, 1, 0, 0, 0), (28, .getfield 32, 3, 8, 4, 8), (31, .ireturn, 1, 0, 0, 0)]
def t_85 : i_T := (85, c_85, 3, (some .int), 0, 0)
def c_86 : List i_X := [(0, .aload_n 0, 1, 0, 0, 0), (1, .invokespecial 3, 3, 0, 0, 0), (4, .aload_n 0, 1, 0, 0, 0), (5, .bipush 12, 2, 0, 0, 0), (7, .newarray .int, 2, 0, 12, 0), (9, .putfield 9, 3, 9, 0, 1), (12, .aload_n 0, 1, 0, 0, 0), (13, .bipush 12, 2, 0, 0, 0), (15, .newarray .int, 2, 0, 12, 0), (17, .putfield 15, 3, 9, 1, 2), (20, .aload_n 0, 1, 0, 0, 0), (21, .sipush 144, 3, 0, 0, 0), (24, .newarray .int, 2, 0, 144, 0), (26, .putfield 18, 3, 9, 2, 3), (29, .return_, 1, 0, 0, 0)]
def t_86 : i_T := (86, c_86, 1, none, 3, 168)
def c_87 : List i_X := [(0, .iload_n 1, 1, 0, 0, 0), (1, .bipush 12, 2, 0, 0, 0), (3, .imul, 1, 0, 0, 0), (4, .iload_n 2, 1, 0, 0, 0), (5, .iadd, 1, 0, 0, 0), (6, .istore 4, 2, 0, 0, 0), (8, .aload_n 0, 1, 0, 0, 0), (9, .getfield 18, 3, 9, 2, 3), (12, .iload 4, 2, 0, 0, 0), (14, .iaload, 1, 0, 0, 0), (15, .ifCond .le 7, 3, 0, 0, 0), (18, .iconst 1, 1, 0, 0, 0), (19, .goto 4, 3, 0, 0, 0), (22, .iconst 0, 1, 0, 0, 0), (23, .istore 5, 2, 0, 0, 0), (25, .iload_n 3, 1, 0, 0, 0), (26, .ifCond .le 7, 3, 0, 0, 0), (29, .iconst 1, 1, 0, 0, 0), (30, .goto 4, 3, 0, 0, 0), (33, .iconst 0, 1, 0, 0, 0), (34, .istore 6, 2, 0, 0, 0), (36, .aload_n 0, 1, 0, 0, 0), (37, .getfield 21, 3, 9, 3, 4), (40, .iload 5, 2, 0, 0, 0), (42, .isub, 1, 0, 0, 0), (43, .iload 6, 2, 0, 0, 0), (45, .iadd, 1, 0, 0, 0), (46, .bipush 30, 2, 0, 0, 0), (48, .if_icmp .le 5, 3, 0, 0, 0), (51, .iconst 0, 1, 0, 0, 0), (52, .ireturn, 1, 0, 0, 0), (53, .aload_n 0, 1, 0, 0, 0), (54, .dup, 1, 0, 0, 0), (55, .getfield 21, 3, 9, 3, 4), (58, .iload 6, 2, 0, 0, 0), (60, .iload 5, 2, 0, 0, 0), (62, .isub, 1, 0, 0, 0), (63, .iadd, 1, 0, 0, 0), (64, .putfield 21, 3, 9, 3, 4), (67, .aload_n 0, 1, 0, 0, 0), (68, .getfield 18, 3, 9, 2, 3), (71, .iload 4, 2, 0, 0, 0), (73, .iload_n 3, 1, 0, 0, 0), (74, .iastore, 1, 0, 0, 0), (75, .iconst 1, 1, 0, 0, 0), (76, .ireturn, 1, 0, 0, 0)]
def t_87 : i_T := (87, c_87, 7, (some .boolean), 0, 0)
def c_88 : List i_X := [(0, .iconst 0, 1, 0, 0, 0), (1, .istore_n 2, 1, 0, 0, 0), (2, .iload_n 2, 1, 0, 0, 0), (3, .bipush 12, 2, 0, 0, 0), (5, .if_icmp .ge 16, 3, 0, 0, 0), (8, .aload_n 0, 1, 0, 0, 0), (9, .getfield 15, 3, 9, 1, 2), (12, .iload_n 2, 1, 0, 0, 0), (13, .iconst (-1), 1, 0, 0, 0), (14, .iastore, 1, 0, 0, 0), (15, .iinc 2 1, 3, 0, 0, 0), (18, .goto (-16), 3, 0, 0, 0), (21, .aload_n 0, 1, 0, 0, 0), (22, .getfield 15, 3, 9, 1, 2), (25, .iload_n 1, 1, 0, 0, 0), (26, .iconst 0, 1, 0, 0, 0), (27, .iastore, 1, 0, 0, 0), (28, .iconst 1, 1, 0, 0, 0), (29, .istore_n 2, 1, 0, 0, 0), (30, .iconst 1, 1, 0, 0, 0), (31, .istore_n 3, 1, 0, 0, 0), (32, .iload_n 3, 1, 0, 0, 0), (33, .bipush 12, 2, 0, 0, 0), (35, .if_icmp .ge 18, 3, 0, 0, 0), (38, .iload_n 2, 1, 0, 0, 0), (39, .ifCond .eq 14, 3, 0, 0, 0), (42, .aload_n 0, 1, 0, 0, 0), (43, .invokevirtual 25, 3, 89, 0, 5), (46, .istore_n 2, 1, 0, 0, 0), (47, .iinc 3 1, 3, 0, 0, 0), (50, .goto (-18), 3, 0, 0, 0), (53, .return_, 1, 0, 0, 0)]
def t_88 : i_T := (88, c_88, 4, none, 0, 0)
def c_89 : List i_X := [(0, .iconst 0, 1, 0, 0, 0), (1, .istore_n 1, 1, 0, 0, 0), (2, .iconst 0, 1, 0, 0, 0), (3, .istore_n 2, 1, 0, 0, 0), (4, .iload_n 2, 1, 0, 0, 0), (5, .bipush 12, 2, 0, 0, 0), (7, .if_icmp .ge 89, 3, 0, 0, 0), (10, .iconst 0, 1, 0, 0, 0), (11, .istore_n 3, 1, 0, 0, 0), (12, .iload_n 3, 1, 0, 0, 0), (13, .bipush 12, 2, 0, 0, 0), (15, .if_icmp .ge 75, 3, 0, 0, 0), (18, .aload_n 0, 1, 0, 0, 0), (19, .getfield 18, 3, 9, 2, 3), (22, .iload_n 2, 1, 0, 0, 0), (23, .bipush 12, 2, 0, 0, 0), (25, .imul, 1, 0, 0, 0), (26, .iload_n 3, 1, 0, 0, 0), (27, .iadd, 1, 0, 0, 0), (28, .iaload, 1, 0, 0, 0), (29, .istore 4, 2, 0, 0, 0), (31, .iload 4, 2, 0, 0, 0), (33, .ifCond .le 51, 3, 0, 0, 0), (36, .aload_n 0, 1, 0, 0, 0), (37, .getfield 15, 3, 9, 1, 2), (40, .iload_n 3, 1, 0, 0, 0), (41, .iaload, 1, 0, 0, 0), (42, .iconst (-1), 1, 0, 0, 0), (43, .if_icmp .eq 41, 3, 0, 0, 0), (46, .iload 4, 2, 0, 0, 0), (48, .aload_n 0, 1, 0, 0, 0), (49, .getfield 15, 3, 9, 1, 2), (52, .iload_n 3, 1, 0, 0, 0), (53, .iaload, 1, 0, 0, 0), (54, .iadd, 1, 0, 0, 0), (55, .aload_n 0, 1, 0, 0, 0), (56, .getfield 15, 3, 9, 1, 2), (59, .iload_n 2, 1, 0, 0, 0), (60, .iaload, 1, 0, 0, 0), (61, .invokestatic 29, 3, 90, 3, 6), (64, .ifCond .eq 20, 3, 0, 0, 0), (67, .aload_n 0, 1, 0, 0, 0), (68, .getfield 15, 3, 9, 1, 2), (71, .iload_n 2, 1, 0, 0, 0), (72, .iload 4, 2, 0, 0, 0), (74, .aload_n 0, 1, 0, 0, 0), (75, .getfield 15, 3, 9, 1, 2), (78, .iload_n 3, 1, 0, 0, 0), (79, .iaload, 1, 0, 0, 0), (80, .iadd, 1, 0, 0, 0), (81, .iastore, 1, 0, 0, 0), (82, .iconst 1, 1, 0, 0, 0), (83, .istore_n 1, 1, 0, 0, 0), (84, .iinc 3 1, 3, 0, 0, 0), (87, .goto (-75), 3, 0, 0, 0), (90, .iinc 2 1, 3, 0, 0, 0), (93, .goto (-89), 3, 0, 0, 0), (96, .iload_n 1, 1, 0, 0, 0), (97, .ireturn, 1, 0, 0, 0)]
def t_89 : i_T := (89, c_89, 5, (some .boolean), 0, 0)
def c_90 : List i_X := [(0, .iload_n 1, 1, 0, 0, 0), (1, .iconst (-1), 1, 0, 0, 0), (2, .if_icmp .eq 8, 3, 0, 0, 0), (5, .iload_n 0, 1, 0, 0, 0), (6, .iload_n 1, 1, 0, 0, 0), (7, .if_icmp .ge 7, 3, 0, 0, 0), (10, .iconst 1, 1, 0, 0, 0), (11, .goto 4, 3, 0, 0, 0), (14, .iconst 0, 1, 0, 0, 0), (15, .ireturn, 1, 0, 0, 0)]
def t_90 : i_T := (90, c_90, 2, (some .boolean), 0, 0)
def c_91 : List i_X := [(0, .aload_n 0, 1, 0, 0, 0), (1, .invokespecial 3, 3, 0, 0, 0), (4, .aload_n 0, 1, 0, 0, 0), (5, .iconst 1, 1, 0, 0, 0), (6, .putfield 9, 3, 3, 0, 1), (9, .aload_n 0, 1, 0, 0, 0), (10, .bipush 50, 2, 0, 0, 0), (12, .putfield 15, 3, 3, 1, 2), (15, .aload_n 0, 1, 0, 0, 0), (16, .iconst 4, 1, 0, 0, 0), (17, .newarray .int, 2, 0, 4, 0), (19, .putfield 19, 3, 3, 4, 3), (22, .aload_n 0, 1, 0, 0, 0), (23, .bipush 16, 2, 0, 0, 0), (25, .anewarray 23, 3, 1, 16, 4), (28, .putfield 25, 3, 3, 5, 5), (31, .aload_n 0, 1, 0, 0, 0), (32, .bipush 16, 2, 0, 0, 0), (34, .newarray .boolean, 2, 2, 16, 0), (36, .putfield 29, 3, 3, 6, 6), (39, .aload_n 0, 1, 0, 0, 0), (40, .bipush 6, 2, 0, 0, 0), (42, .anewarray 33, 3, 4, 6, 7), (45, .putfield 35, 3, 3, 7, 8), (48, .aload_n 0, 1, 0, 0, 0), (49, .iconst 4, 1, 0, 0, 0), (50, .newarray .long, 2, 1, 4, 0), (52, .putfield 39, 3, 3, 8, 9), (55, .aload_n 0, 1, 0, 0, 0), (56, .iconst 4, 1, 0, 0, 0), (57, .newarray .int, 2, 0, 4, 0), (59, .putfield 43, 3, 3, 9, 10), (62, .iconst 0, 1, 0, 0, 0), (63, .istore_n 1, 1, 0, 0, 0), (64, .iload_n 1, 1, 0, 0, 0), (65, .bipush 16, 2, 0, 0, 0), (67, .if_icmp .ge 22, 3, 0, 0, 0), (70, .aload_n 0, 1, 0, 0, 0), (71, .getfield 25, 3, 3, 5, 5), (74, .iload_n 1, 1, 0, 0, 0), (75, .new 23, 3, 1, 0, 4), (78, .dup, 1, 0, 0, 0), (79, .invokespecial 46, 3, 59, 1, 11), (82, .aastore, 1, 1, 0, 0), (83, .iinc 1 1, 3, 0, 0, 0), (86, .goto (-22), 3, 0, 0, 0), (89, .iconst 0, 1, 0, 0, 0), (90, .istore_n 1, 1, 0, 0, 0), (91, .iload_n 1, 1, 0, 0, 0), (92, .bipush 6, 2, 0, 0, 0), (94, .if_icmp .ge 22, 3, 0, 0, 0), (97, .aload_n 0, 1, 0, 0, 0), (98, .getfield 35, 3, 3, 7, 8), (101, .iload_n 1, 1, 0, 0, 0), (102, .new 33, 3, 4, 0, 7), (105, .dup, 1, 0, 0, 0), (106, .invokespecial 47, 3, 98, 1, 12), (109, .aastore, 1, 4, 0, 0), (110, .iinc 1 1, 3, 0, 0, 0), (113, .goto (-22), 3, 0, 0, 0), (116, .return_, 1, 0, 0, 0)]
def t_91 : i_T := (91, c_91, 2, none, 28, 246)
def c_92 : List i_X := [(0, .aload_n 0, 1, 0, 0, 0), (1, .getfield 9, 3, 3, 0, 1), (4, .ifCond .eq 25, 3, 0, 0, 0), (7, .aload_n 0, 1, 0, 0, 0), (8, .getfield 48, 3, 3, 2, 13), (11, .aload_n 0, 1, 0, 0, 0), (12, .getfield 39, 3, 3, 8, 9), (15, .iload_n 1, 1, 0, 0, 0), (16, .laload, 1, 0, 0, 0), (17, .lsub, 1, 0, 0, 0), (18, .ldc2_w 52, 3, 2000, 0, 14), (21, .lcmp, 1, 0, 0, 0), (22, .ifCond .ge 7, 3, 0, 0, 0), (25, .iconst 1, 1, 0, 0, 0), (26, .goto 4, 3, 0, 0, 0), (29, .iconst 0, 1, 0, 0, 0), (30, .istore_n 2, 1, 0, 0, 0), (31, .iload_n 2, 1, 0, 0, 0), (32, .ifCond .eq 12, 3, 0, 0, 0), (35, .aload_n 0, 1, 0, 0, 0), (36, .getfield 19, 3, 3, 4, 3), (39, .iload_n 1, 1, 0, 0, 0), (40, .iaload, 1, 0, 0, 0), (41, .goto 4, 3, 0, 0, 0), (44, .iconst 0, 1, 0, 0, 0), (45, .ireturn, 1, 0, 0, 0)]
def t_92 : i_T := (92, c_92, 3, (some .int), 0, 0)
def c_93 : List i_X := [(0, .iconst 0, 1, 0, 0, 0), (1, .istore_n 2, 1, 0, 0, 0), (2, .iload_n 2, 1, 0, 0, 0), (3, .bipush 6, 2, 0, 0, 0), (5, .if_icmp .ge 24, 3, 0, 0, 0), (8, .aload_n 0, 1, 0, 0, 0), (9, .getfield 35, 3, 3, 7, 8), (12, .iload_n 2, 1, 0, 0, 0), (13, .aaload, 1, 4, 0, 0), (14, .iload_n 1, 1, 0, 0, 0), (15, .invokevirtual 54, 3, 102, 1, 15), (18, .ifCond .eq 5, 3, 0, 0, 0), (21, .iconst 1, 1, 0, 0, 0), (22, .ireturn, 1, 0, 0, 0), (23, .iinc 2 1, 3, 0, 0, 0), (26, .goto (-24), 3, 0, 0, 0), (29, .iconst 0, 1, 0, 0, 0), (30, .ireturn, 1, 0, 0, 0)]
def t_93 : i_T := (93, c_93, 3, (some .boolean), 0, 0)
def c_94 : List i_X := [(0, .aload_n 0, 1, 0, 0, 0), (1, .iconst 0, 1, 0, 0, 0), (2, .putfield 9, 3, 3, 0, 1), (5, .iconst 0, 1, 0, 0, 0), (6, .istore_n 1, 1, 0, 0, 0), (7, .iload_n 1, 1, 0, 0, 0), (8, .iconst 4, 1, 0, 0, 0), (9, .if_icmp .ge 16, 3, 0, 0, 0), (12, .aload_n 0, 1, 0, 0, 0), (13, .getfield 19, 3, 3, 4, 3), (16, .iload_n 1, 1, 0, 0, 0), (17, .iconst 0, 1, 0, 0, 0), (18, .iastore, 1, 0, 0, 0), (19, .iinc 1 1, 3, 0, 0, 0), (22, .goto (-15), 3, 0, 0, 0), (25, .iconst 0, 1, 0, 0, 0), (26, .istore_n 1, 1, 0, 0, 0), (27, .iload_n 1, 1, 0, 0, 0), (28, .bipush 16, 2, 0, 0, 0), (30, .if_icmp .ge 16, 3, 0, 0, 0), (33, .aload_n 0, 1, 0, 0, 0), (34, .getfield 29, 3, 3, 6, 6), (37, .iload_n 1, 1, 0, 0, 0), (38, .iconst 0, 1, 0, 0, 0), (39, .bastore, 1, 0, 0, 0), (40, .iinc 1 1, 3, 0, 0, 0), (43, .goto (-16), 3, 0, 0, 0), (46, .iconst 0, 1, 0, 0, 0), (47, .istore_n 1, 1, 0, 0, 0), (48, .iload_n 1, 1, 0, 0, 0), (49, .bipush 6, 2, 0, 0, 0), (51, .if_icmp .ge 18, 3, 0, 0, 0), (54, .aload_n 0, 1, 0, 0, 0), (55, .getfield 35, 3, 3, 7, 8), (58, .iload_n 1, 1, 0, 0, 0), (59, .aaload, 1, 4, 0, 0), (60, .invokevirtual 58, 3, 100, 0, 16), (63, .iinc 1 1, 3, 0, 0, 0), (66, .goto (-18), 3, 0, 0, 0), (69, .return_, 1, 0, 0, 0)]
def t_94 : i_T := (94, c_94, 2, none, 0, 0)
def c_95 : List i_X := [(0, .aload_n 1, 1, 0, 0, 0), (1, .getfield 61, 3, 2, 3, 17), (4, .istore_n 2, 1, 0, 0, 0), (5, .aload_n 1, 1, 0, 0, 0), (6, .getfield 66, 3, 2, 4, 18), (9, .aload_n 0, 1, 0, 0, 0), (10, .getfield 43, 3, 3, 9, 10), (13, .iload_n 2, 1, 0, 0, 0), (14, .iaload, 1, 0, 0, 0), (15, .if_icmp .le 33, 3, 0, 0, 0), (18, .aload_n 0, 1, 0, 0, 0), (19, .getfield 43, 3, 3, 9, 10), (22, .iload_n 2, 1, 0, 0, 0), (23, .aload_n 1, 1, 0, 0, 0), (24, .getfield 66, 3, 2, 4, 18), (27, .iastore, 1, 0, 0, 0), (28, .aload_n 0, 1, 0, 0, 0), (29, .getfield 19, 3, 3, 4, 3), (32, .iload_n 2, 1, 0, 0, 0), (33, .aload_n 1, 1, 0, 0, 0), (34, .getfield 66, 3, 2, 4, 18), (37, .iastore, 1, 0, 0, 0), (38, .aload_n 0, 1, 0, 0, 0), (39, .getfield 39, 3, 3, 8, 9), (42, .iload_n 2, 1, 0, 0, 0), (43, .aload_n 1, 1, 0, 0, 0), (44, .getfield 69, 3, 2, 6, 19), (47, .lastore, 1, 0, 0, 0), (48, .return_, 1, 0, 0, 0)]
def t_95 : i_T := (95, c_95, 3, none, 0, 0)
def c_96 : List i_X := [(0, .aload_n 0, 1, 0, 0, 0), (1, .getfield 25, 3, 3, 5, 5), (4, .aload_n 1, 1, 0, 0, 0), (5, .getfield 61, 3, 2, 3, 17), (8, .aaload, 1, 1, 0, 0), (9, .aload_n 1, 1, 0, 0, 0), (10, .getfield 70, 3, 2, 10, 20), (13, .invokevirtual 74, 3, 63, 1, 21), (16, .ifCond .eq 13, 3, 0, 0, 0), (19, .aload_n 0, 1, 0, 0, 0), (20, .getfield 29, 3, 3, 6, 6), (23, .aload_n 1, 1, 0, 0, 0), (24, .getfield 61, 3, 2, 3, 17), (27, .iconst 0, 1, 0, 0, 0), (28, .bastore, 1, 0, 0, 0), (29, .return_, 1, 0, 0, 0)]
def t_96 : i_T := (96, c_96, 2, none, 0, 0)
def c_97 : List i_X := [(0, .aload_n 0, 1, 0, 0, 0), (1, .getfield 25, 3, 3, 5, 5), (4, .aload_n 1, 1, 0, 0, 0), (5, .getfield 61, 3, 2, 3, 17), (8, .aaload, 1, 1, 0, 0), (9, .aload_n 1, 1, 0, 0, 0), (10, .getfield 66, 3, 2, 4, 18), (13, .aload_n 1, 1, 0, 0, 0), (14, .getfield 78, 3, 2, 5, 22), (17, .invokevirtual 81, 3, 62, 2, 23), (20, .ifCond .eq 13, 3, 0, 0, 0), (23, .aload_n 0, 1, 0, 0, 0), (24, .getfield 29, 3, 3, 6, 6), (27, .aload_n 1, 1, 0, 0, 0), (28, .getfield 61, 3, 2, 3, 17), (31, .iconst 1, 1, 0, 0, 0), (32, .bastore, 1, 0, 0, 0), (33, .return_, 1, 0, 0, 0)]
def t_97 : i_T := (97, c_97, 2, none, 0, 0)
def c_98 : List i_X := [(0, .aload_n 0, 1, 0, 0, 0), (1, .invokespecial 3, 3, 0, 0, 0), (4, .return_, 1, 0, 0, 0)]
def t_98 : i_T := (98, c_98, 1, none, 0, 0)
def c_99 : List i_X := [(0, .aload_n 0, 1, 0, 0, 0), (1, .getfield 9, 3, 4, 0, 1), (4, .ifCond .eq 15, 3, 0, 0, 0), (7, .aload_n 1, 1, 0, 0, 0), (8, .getfield 15, 3, 2, 4, 2), (11, .aload_n 0, 1, 0, 0, 0), (12, .getfield 21, 3, 4, 5, 3), (15, .if_icmp .gt 4, 3, 0, 0, 0), (18, .return_, 1, 0, 0, 0), (19, .aload_n 0, 1, 0, 0, 0), (20, .iconst 1, 1, 0, 0, 0), (21, .putfield 9, 3, 4, 0, 1), (24, .aload_n 0, 1, 0, 0, 0), (25, .iconst 0, 1, 0, 0, 0), (26, .putfield 24, 3, 4, 1, 4), (29, .aload_n 0, 1, 0, 0, 0), (30, .aload_n 1, 1, 0, 0, 0), (31, .getfield 15, 3, 2, 4, 2), (34, .putfield 21, 3, 4, 5, 3), (37, .aload_n 0, 1, 0, 0, 0), (38, .aload_n 1, 1, 0, 0, 0), (39, .getfield 27, 3, 2, 8, 5), (42, .putfield 30, 3, 4, 3, 6), (45, .aload_n 0, 1, 0, 0, 0), (46, .aload_n 1, 1, 0, 0, 0), (47, .getfield 31, 3, 2, 7, 7), (50, .putfield 34, 3, 4, 2, 8), (53, .aload_n 0, 1, 0, 0, 0), (54, .aload_n 1, 1, 0, 0, 0), (55, .getfield 35, 3, 2, 9, 9), (58, .putfield 38, 3, 4, 4, 10), (61, .return_, 1, 0, 0, 0)]
def t_99 : i_T := (99, c_99, 2, none, 0, 0)
def c_100 : List i_X := [(0, .aload_n 0, 1, 0, 0, 0), (1, .iconst 0, 1, 0, 0, 0), (2, .putfield 9, 3, 4, 0, 1), (5, .return_, 1, 0, 0, 0)]
def t_100 : i_T := (100, c_100, 1, none, 0, 0)
def c_101 : List i_X := [(0, .aload_n 0, 1, 0, 0, 0), (1, .getfield 9, 3, 4, 0, 1), (4, .ifCond .eq 21, 3, 0, 0, 0), (7, .aload_n 0, 1, 0, 0, 0), (8, .getfield 30, 3, 4, 3, 6), (11, .ifCond .ne 14, 3, 0, 0, 0), (14, .aload_n 0, 1, 0, 0, 0), (15, .getfield 24, 3, 4, 1, 4), (18, .ifCond .ne 7, 3, 0, 0, 0), (21, .iconst 1, 1, 0, 0, 0), (22, .goto 4, 3, 0, 0, 0), (25, .iconst 0, 1, 0, 0, 0), (26, .ireturn, 1, 0, 0, 0)]
def t_101 : i_T := (101, c_101, 1, (some .boolean), 0, 0)
def c_102 : List i_X := [(0, .aload_n 0, 1, 0, 0, 0), (1, .getfield 9, 3, 4, 0, 1), (4, .ifCond .eq 30, 3, 0, 0, 0), (7, .aload_n 0, 1, 0, 0, 0), (8, .getfield 38, 3, 4, 4, 10), (11, .iload_n 1, 1, 0, 0, 0), (12, .if_icmp .ne 22, 3, 0, 0, 0), (15, .aload_n 0, 1, 0, 0, 0), (16, .getfield 30, 3, 4, 3, 6), (19, .ifCond .eq 15, 3, 0, 0, 0), (22, .aload_n 0, 1, 0, 0, 0), (23, .getfield 30, 3, 4, 3, 6), (26, .iconst 3, 1, 0, 0, 0), (27, .if_icmp .eq 7, 3, 0, 0, 0), (30, .iconst 1, 1, 0, 0, 0), (31, .goto 4, 3, 0, 0, 0), (34, .iconst 0, 1, 0, 0, 0), (35, .ireturn, 1, 0, 0, 0)]
def t_102 : i_T := (102, c_102, 2, (some .boolean), 0, 0)
def c_103 : List i_X := [(0, .iload_n 1, 1, 0, 0, 0), (1, .tableswitch 68 0 4 #[35, 40, 45, 50, 55], 35, 0, 0, 0), (36, .aload_n 0, 1, 0, 0, 0), (37, .getfield 30, 3, 4, 3, 6), (40, .ireturn, 1, 0, 0, 0), (41, .aload_n 0, 1, 0, 0, 0), (42, .getfield 34, 3, 4, 2, 8), (45, .ireturn, 1, 0, 0, 0), (46, .aload_n 0, 1, 0, 0, 0), (47, .getfield 38, 3, 4, 4, 10), (50, .ireturn, 1, 0, 0, 0), (51, .aload_n 0, 1, 0, 0, 0), (52, .getfield 21, 3, 4, 5, 3), (55, .ireturn, 1, 0, 0, 0), (56, .aload_n 0, 1, 0, 0, 0), (57, .invokevirtual 39, 3, 101, 0, 11), (60, .ifCond .eq 7, 3, 0, 0, 0), (63, .iconst 0, 1, 0, 0, 0), (64, .goto 4, 3, 0, 0, 0), (67, .iconst 1, 1, 0, 0, 0), (68, .ireturn, 1, 0, 0, 0), (69, .iconst (-1), 1, 0, 0, 0), (70, .ireturn, 1, 0, 0, 0)]
def t_103 : i_T := (103, c_103, 2, (some .int), 0, 0)
def c_104 : List i_X := [(0, .aload_n 0, 1, 0, 0, 0), (1, .invokespecial 1, 3, 0, 0, 0), (4, .aload_n 0, 1, 0, 0, 0), (5, .sipush 144, 3, 0, 0, 0), (8, .newarray .int, 2, 0, 144, 0), (10, .putfield 7, 3, 10, 0, 1), (13, .aload_n 0, 1, 0, 0, 0), (14, .bipush 12, 2, 0, 0, 0), (16, .newarray .int, 2, 0, 12, 0), (18, .putfield 13, 3, 10, 2, 2), (21, .aload_n 0, 1, 0, 0, 0), (22, .bipush 12, 2, 0, 0, 0), (24, .newarray .int, 2, 0, 12, 0), (26, .putfield 16, 3, 10, 3, 3), (29, .aload_n 0, 1, 0, 0, 0), (30, .bipush 16, 2, 0, 0, 0), (32, .newarray .int, 2, 0, 16, 0), (34, .putfield 19, 3, 10, 4, 4), (37, .aload_n 0, 1, 0, 0, 0), (38, .bipush 16, 2, 0, 0, 0), (40, .newarray .int, 2, 0, 16, 0), (42, .putfield 22, 3, 10, 5, 5), (45, .aload_n 0, 1, 0, 0, 0), (46, .bipush 16, 2, 0, 0, 0), (48, .newarray .int, 2, 0, 16, 0), (50, .putfield 25, 3, 10, 6, 6), (53, .aload_n 0, 1, 0, 0, 0), (54, .bipush 16, 2, 0, 0, 0), (56, .newarray .int, 2, 0, 16, 0), (58, .putfield 28, 3, 10, 7, 7), (61, .aload_n 0, 1, 0, 0, 0), (62, .bipush 16, 2, 0, 0, 0), (64, .newarray .int, 2, 0, 16, 0), (66, .putfield 31, 3, 10, 8, 8), (69, .aload_n 0, 1, 0, 0, 0), (70, .bipush 6, 2, 0, 0, 0), (72, .newarray .int, 2, 0, 6, 0), (74, .putfield 34, 3, 10, 9, 9), (77, .aload_n 0, 1, 0, 0, 0), (78, .bipush 6, 2, 0, 0, 0), (80, .newarray .int, 2, 0, 6, 0), (82, .putfield 37, 3, 10, 10, 10), (85, .aload_n 0, 1, 0, 0, 0), (86, .bipush 6, 2, 0, 0, 0), (88, .newarray .int, 2, 0, 6, 0), (90, .putfield 40, 3, 10, 11, 11), (93, .aload_n 0, 1, 0, 0, 0), (94, .bipush 6, 2, 0, 0, 0), (96, .newarray .int, 2, 0, 6, 0), (98, .putfield 43, 3, 10, 12, 12), (101, .aload_n 0, 1, 0, 0, 0), (102, .bipush 6, 2, 0, 0, 0), (104, .newarray .int, 2, 0, 6, 0), (106, .putfield 46, 3, 10, 13, 13), (109, .aload_n 0, 1, 0, 0, 0), (110, .bipush 6, 2, 0, 0, 0), (112, .newarray .int, 2, 0, 6, 0), (114, .putfield 49, 3, 10, 14, 14), (117, .aload_n 0, 1, 0, 0, 0), (118, .bipush 6, 2, 0, 0, 0), (120, .newarray .int, 2, 0, 6, 0), (122, .putfield 52, 3, 10, 15, 15), (125, .aload_n 0, 1, 0, 0, 0), (126, .iconst 3, 1, 0, 0, 0), (127, .newarray .long, 2, 1, 3, 0), (129, .putfield 55, 3, 10, 16, 16), (132, .aload_n 0, 1, 0, 0, 0), (133, .iconst 3, 1, 0, 0, 0), (134, .newarray .int, 2, 0, 3, 0), (136, .putfield 59, 3, 10, 17, 17), (139, .aload_n 0, 1, 0, 0, 0), (140, .iconst 3, 1, 0, 0, 0), (141, .newarray .boolean, 2, 2, 3, 0), (143, .putfield 62, 3, 10, 18, 18), (146, .aload_n 0, 1, 0, 0, 0), (147, .iconst 4, 1, 0, 0, 0), (148, .newarray .int, 2, 0, 4, 0), (150, .putfield 66, 3, 10, 19, 19), (153, .aload_n 0, 1, 0, 0, 0), (154, .iconst 4, 1, 0, 0, 0), (155, .newarray .int, 2, 0, 4, 0), (157, .putfield 69, 3, 10, 20, 20), (160, .aload_n 0, 1, 0, 0, 0), (161, .iconst 4, 1, 0, 0, 0), (162, .newarray .long, 2, 1, 4, 0), (164, .putfield 72, 3, 10, 21, 21), (167, .aload_n 0, 1, 0, 0, 0), (168, .bipush 8, 2, 0, 0, 0), (170, .newarray .int, 2, 0, 8, 0), (172, .putfield 75, 3, 10, 23, 22), (175, .aload_n 0, 1, 0, 0, 0), (176, .bipush 8, 2, 0, 0, 0), (178, .newarray .int, 2, 0, 8, 0), (180, .putfield 78, 3, 10, 24, 23), (183, .aload_n 0, 1, 0, 0, 0), (184, .bipush 8, 2, 0, 0, 0), (186, .newarray .long, 2, 1, 8, 0), (188, .putfield 81, 3, 10, 25, 24), (191, .aload_n 0, 1, 0, 0, 0), (192, .iconst 2, 1, 0, 0, 0), (193, .newarray .int, 2, 0, 2, 0), (195, .putfield 84, 3, 10, 26, 25), (198, .aload_n 0, 1, 0, 0, 0), (199, .bipush 48, 2, 0, 0, 0), (201, .newarray .boolean, 2, 2, 48, 0), (203, .putfield 87, 3, 10, 27, 26), (206, .aload_n 0, 1, 0, 0, 0), (207, .bipush 48, 2, 0, 0, 0), (209, .newarray .int, 2, 0, 48, 0), (211, .putfield 90, 3, 10, 28, 27), (214, .aload_n 0, 1, 0, 0, 0), (215, .bipush 48, 2, 0, 0, 0), (217, .newarray .int, 2, 0, 48, 0), (219, .putfield 93, 3, 10, 29, 28), (222, .aload_n 0, 1, 0, 0, 0), (223, .bipush 48, 2, 0, 0, 0), (225, .newarray .int, 2, 0, 48, 0), (227, .putfield 96, 3, 10, 30, 29), (230, .aload_n 0, 1, 0, 0, 0), (231, .bipush 48, 2, 0, 0, 0), (233, .newarray .int, 2, 0, 48, 0), (235, .putfield 99, 3, 10, 31, 30), (238, .aload_n 0, 1, 0, 0, 0), (239, .bipush 48, 2, 0, 0, 0), (241, .newarray .int, 2, 0, 48, 0), (243, .putfield 102, 3, 10, 32, 31), (246, .aload_n 0, 1, 0, 0, 0), (247, .bipush 48, 2, 0, 0, 0), (249, .newarray .int, 2, 0, 48, 0), (251, .putfield 105, 3, 10, 33, 32), (254, .aload_n 0, 1, 0, 0, 0), (255, .bipush 48, 2, 0, 0, 0), (257, .newarray .int, 2, 0, 48, 0), (259, .putfield 108, 3, 10, 34, 33), (262, .aload_n 0, 1, 0, 0, 0), (263, .bipush 48, 2, 0, 0, 0), (265, .newarray .int, 2, 0, 48, 0), (267, .putfield 111, 3, 10, 35, 34), (270, .aload_n 0, 1, 0, 0, 0), (271, .bipush 48, 2, 0, 0, 0), (273, .newarray .int, 2, 0, 48, 0), (275, .putfield 114, 3, 10, 36, 35), (278, .aload_n 0, 1, 0, 0, 0), (279, .bipush 48, 2, 0, 0, 0), (281, .newarray .boolean, 2, 2, 48, 0), (283, .putfield 117, 3, 10, 37, 36), (286, .aload_n 0, 1, 0, 0, 0), (287, .bipush 12, 2, 0, 0, 0), (289, .newarray .boolean, 2, 2, 12, 0), (291, .putfield 120, 3, 10, 38, 37), (294, .aload_n 0, 1, 0, 0, 0), (295, .bipush 12, 2, 0, 0, 0), (297, .newarray .int, 2, 0, 12, 0), (299, .putfield 123, 3, 10, 39, 38), (302, .aload_n 0, 1, 0, 0, 0), (303, .bipush 12, 2, 0, 0, 0), (305, .newarray .int, 2, 0, 12, 0), (307, .putfield 126, 3, 10, 40, 39), (310, .aload_n 0, 1, 0, 0, 0), (311, .bipush 12, 2, 0, 0, 0), (313, .newarray .int, 2, 0, 12, 0), (315, .putfield 129, 3, 10, 41, 40), (318, .aload_n 0, 1, 0, 0, 0), (319, .bipush 12, 2, 0, 0, 0), (321, .newarray .int, 2, 0, 12, 0), (323, .putfield 132, 3, 10, 42, 41), (326, .aload_n 0, 1, 0, 0, 0), (327, .bipush 12, 2, 0, 0, 0), (329, .newarray .boolean, 2, 2, 12, 0), (331, .putfield 135, 3, 10, 43, 42), (334, .aload_n 0, 1, 0, 0, 0), (335, .bipush 49, 2, 0, 0, 0), (337, .newarray .int, 2, 0, 49, 0), (339, .putfield 138, 3, 10, 45, 43), (342, .aload_n 0, 1, 0, 0, 0), (343, .bipush 49, 2, 0, 0, 0), (345, .newarray .int, 2, 0, 49, 0), (347, .putfield 141, 3, 10, 46, 44), (350, .aload_n 0, 1, 0, 0, 0), (351, .bipush 49, 2, 0, 0, 0), (353, .newarray .int, 2, 0, 49, 0), (355, .putfield 144, 3, 10, 47, 45), (358, .aload_n 0, 1, 0, 0, 0), (359, .bipush 49, 2, 0, 0, 0), (361, .newarray .int, 2, 0, 49, 0), (363, .putfield 147, 3, 10, 48, 46), (366, .aload_n 0, 1, 0, 0, 0), (367, .bipush 49, 2, 0, 0, 0), (369, .newarray .int, 2, 0, 49, 0), (371, .putfield 150, 3, 10, 49, 47), (374, .aload_n 0, 1, 0, 0, 0), (375, .bipush 49, 2, 0, 0, 0), (377, .newarray .int, 2, 0, 49, 0), (379, .putfield 153, 3, 10, 50, 48), (382, .aload_n 0, 1, 0, 0, 0), (383, .bipush 49, 2, 0, 0, 0), (385, .newarray .int, 2, 0, 49, 0), (387, .putfield 156, 3, 10, 51, 49), (390, .aload_n 0, 1, 0, 0, 0), (391, .bipush 49, 2, 0, 0, 0), (393, .newarray .int, 2, 0, 49, 0), (395, .putfield 159, 3, 10, 52, 50), (398, .aload_n 0, 1, 0, 0, 0), (399, .bipush 49, 2, 0, 0, 0), (401, .newarray .int, 2, 0, 49, 0), (403, .putfield 162, 3, 10, 53, 51), (406, .aload_n 0, 1, 0, 0, 0), (407, .bipush 49, 2, 0, 0, 0), (409, .newarray .int, 2, 0, 49, 0), (411, .putfield 165, 3, 10, 54, 52), (414, .aload_n 0, 1, 0, 0, 0), (415, .bipush 49, 2, 0, 0, 0), (417, .newarray .int, 2, 0, 49, 0), (419, .putfield 168, 3, 10, 55, 53), (422, .aload_n 0, 1, 0, 0, 0), (423, .bipush 49, 2, 0, 0, 0), (425, .newarray .int, 2, 0, 49, 0), (427, .putfield 171, 3, 10, 56, 54), (430, .aload_n 0, 1, 0, 0, 0), (431, .bipush 49, 2, 0, 0, 0), (433, .newarray .int, 2, 0, 49, 0), (435, .putfield 174, 3, 10, 57, 55), (438, .aload_n 0, 1, 0, 0, 0), (439, .bipush 49, 2, 0, 0, 0), (441, .newarray .long, 2, 1, 49, 0), (443, .putfield 177, 3, 10, 58, 56), (446, .iconst 0, 1, 0, 0, 0), (447, .istore_n 1, 1, 0, 0, 0), (448, .iload_n 1, 1, 0, 0, 0), (449, .bipush 16, 2, 0, 0, 0), (451, .if_icmp .ge 16, 3, 0, 0, 0), (454, .aload_n 0, 1, 0, 0, 0), (455, .getfield 19, 3, 10, 4, 4), (458, .iload_n 1, 1, 0, 0, 0), (459, .iconst 1, 1, 0, 0, 0), (460, .iastore, 1, 0, 0, 0), (461, .iinc 1 1, 3, 0, 0, 0), (464, .goto (-16), 3, 0, 0, 0), (467, .iconst 0, 1, 0, 0, 0), (468, .istore_n 1, 1, 0, 0, 0), (469, .iload_n 1, 1, 0, 0, 0), (470, .bipush 6, 2, 0, 0, 0), (472, .if_icmp .ge 16, 3, 0, 0, 0), (475, .aload_n 0, 1, 0, 0, 0), (476, .getfield 43, 3, 10, 12, 12), (479, .iload_n 1, 1, 0, 0, 0), (480, .iconst (-1), 1, 0, 0, 0), (481, .iastore, 1, 0, 0, 0), (482, .iinc 1 1, 3, 0, 0, 0), (485, .goto (-16), 3, 0, 0, 0), (488, .iconst 0, 1, 0, 0, 0), (489, .istore_n 1, 1, 0, 0, 0), (490, .iload_n 1, 1, 0, 0, 0), (491, .iconst 3, 1, 0, 0, 0), (492, .if_icmp .ge 17, 3, 0, 0, 0), (495, .aload_n 0, 1, 0, 0, 0), (496, .getfield 59, 3, 10, 17, 17), (499, .iload_n 1, 1, 0, 0, 0), (500, .bipush 50, 2, 0, 0, 0), (502, .iastore, 1, 0, 0, 0), (503, .iinc 1 1, 3, 0, 0, 0), (506, .goto (-16), 3, 0, 0, 0), (509, .iconst 0, 1, 0, 0, 0), (510, .istore_n 1, 1, 0, 0, 0), (511, .iload_n 1, 1, 0, 0, 0), (512, .iconst 4, 1, 0, 0, 0), (513, .if_icmp .ge 16, 3, 0, 0, 0), (516, .aload_n 0, 1, 0, 0, 0), (517, .getfield 66, 3, 10, 19, 19), (520, .iload_n 1, 1, 0, 0, 0), (521, .iconst (-1), 1, 0, 0, 0), (522, .iastore, 1, 0, 0, 0), (523, .iinc 1 1, 3, 0, 0, 0), (526, .goto (-15), 3, 0, 0, 0), (529, .return_, 1, 0, 0, 0)]
def t_104 : i_T := (104, c_104, 2, none, 56, 1623)
def c_105 : List i_X := [(0, .aload_n 0, 1, 0, 0, 0), (1, .getfield 180, 3, 10, 59, 57), (4, .ireturn, 1, 0, 0, 0)]
def t_105 : i_T := (105, c_105, 1, (some .int), 0, 0)
def c_106 : List i_X := [(0, .iload_n 0, 1, 0, 0, 0), (1, .iload_n 1, 1, 0, 0, 0), (2, .if_icmp .lt 12, 3, 0, 0, 0), (5, .iload_n 0, 1, 0, 0, 0), (6, .iload_n 2, 1, 0, 0, 0), (7, .if_icmp .gt 7, 3, 0, 0, 0), (10, .iconst 1, 1, 0, 0, 0), (11, .goto 4, 3, 0, 0, 0), (14, .iconst 0, 1, 0, 0, 0), (15, .ireturn, 1, 0, 0, 0)]
def t_106 : i_T := (106, c_106, 3, (some .boolean), 0, 0)
def c_107 : List i_X := [(0, .iload_n 0, 1, 0, 0, 0), (1, .iconst 0, 1, 0, 0, 0), (2, .bipush 11, 2, 0, 0, 0), (4, .invokestatic 184, 3, 106, 4, 58), (7, .ireturn, 1, 0, 0, 0)]
def t_107 : i_T := (107, c_107, 1, (some .boolean), 0, 0)
def c_108 : List i_X := [(0, .iload_n 0, 1, 0, 0, 0), (1, .iconst 0, 1, 0, 0, 0), (2, .iconst 1, 1, 0, 0, 0), (3, .invokestatic 184, 3, 106, 4, 58), (6, .ireturn, 1, 0, 0, 0)]
def t_108 : i_T := (108, c_108, 1, (some .boolean), 0, 0)
def c_109 : List i_X := [(0, .iload_n 0, 1, 0, 0, 0), (1, .iconst 0, 1, 0, 0, 0), (2, .iconst 5, 1, 0, 0, 0), (3, .invokestatic 184, 3, 106, 4, 58), (6, .ireturn, 1, 0, 0, 0)]
def t_109 : i_T := (109, c_109, 1, (some .boolean), 0, 0)
def c_110 : List i_X := [(0, .iload_n 0, 1, 0, 0, 0), (1, .iconst 0, 1, 0, 0, 0), (2, .iconst 3, 1, 0, 0, 0), (3, .invokestatic 184, 3, 106, 4, 58), (6, .ireturn, 1, 0, 0, 0)]
def t_110 : i_T := (110, c_110, 1, (some .boolean), 0, 0)
def c_111 : List i_X := [(0, .aload_n 0, 1, 0, 0, 0), (1, .iconst 0, 1, 0, 0, 0), (2, .putfield 180, 3, 10, 59, 57), (5, .iload_n 3, 1, 0, 0, 0), (6, .iconst 0, 1, 0, 0, 0), (7, .sipush 999, 3, 0, 0, 0), (10, .invokestatic 184, 3, 106, 4, 58), (13, .ifCond .eq 22, 3, 0, 0, 0), (16, .iload_n 1, 1, 0, 0, 0), (17, .invokestatic 188, 3, 107, 2, 59), (20, .ifCond .eq 15, 3, 0, 0, 0), (23, .iload_n 2, 1, 0, 0, 0), (24, .invokestatic 188, 3, 107, 2, 59), (27, .ifCond .eq 8, 3, 0, 0, 0), (30, .iload_n 1, 1, 0, 0, 0), (31, .iload_n 2, 1, 0, 0, 0), (32, .if_icmp .ne 5, 3, 0, 0, 0), (35, .iconst 0, 1, 0, 0, 0), (36, .ireturn, 1, 0, 0, 0), (37, .bipush 12, 2, 0, 0, 0), (39, .iload_n 1, 1, 0, 0, 0), (40, .imul, 1, 0, 0, 0), (41, .iload_n 2, 1, 0, 0, 0), (42, .iadd, 1, 0, 0, 0), (43, .istore 4, 2, 0, 0, 0), (45, .aload_n 0, 1, 0, 0, 0), (46, .getfield 7, 3, 10, 0, 1), (49, .iload 4, 2, 0, 0, 0), (51, .iaload, 1, 0, 0, 0), (52, .ifCond .ne 18, 3, 0, 0, 0), (55, .iload_n 3, 1, 0, 0, 0), (56, .ifCond .le 14, 3, 0, 0, 0), (59, .aload_n 0, 1, 0, 0, 0), (60, .getfield 192, 3, 10, 1, 60), (63, .bipush 30, 2, 0, 0, 0), (65, .if_icmp .ne 5, 3, 0, 0, 0), (68, .iconst 0, 1, 0, 0, 0), (69, .ireturn, 1, 0, 0, 0), (70, .aload_n 0, 1, 0, 0, 0), (71, .getfield 7, 3, 10, 0, 1), (74, .iload 4, 2, 0, 0, 0), (76, .iaload, 1, 0, 0, 0), (77, .ifCond .le 13, 3, 0, 0, 0), (80, .aload_n 0, 1, 0, 0, 0), (81, .dup, 1, 0, 0, 0), (82, .getfield 192, 3, 10, 1, 60), (85, .iconst 1, 1, 0, 0, 0), (86, .isub, 1, 0, 0, 0), (87, .putfield 192, 3, 10, 1, 60), (90, .aload_n 0, 1, 0, 0, 0), (91, .getfield 7, 3, 10, 0, 1), (94, .iload 4, 2, 0, 0, 0), (96, .iload_n 3, 1, 0, 0, 0), (97, .iastore, 1, 0, 0, 0), (98, .iload_n 3, 1, 0, 0, 0), (99, .ifCond .le 13, 3, 0, 0, 0), (102, .aload_n 0, 1, 0, 0, 0), (103, .dup, 1, 0, 0, 0), (104, .getfield 192, 3, 10, 1, 60), (107, .iconst 1, 1, 0, 0, 0), (108, .iadd, 1, 0, 0, 0), (109, .putfield 192, 3, 10, 1, 60), (112, .iconst 1, 1, 0, 0, 0), (113, .ireturn, 1, 0, 0, 0)]
def t_111 : i_T := (111, c_111, 5, (some .boolean), 0, 0)
def c_112 : List i_X := [(0, .aload_n 0, 1, 0, 0, 0), (1, .iconst 0, 1, 0, 0, 0), (2, .putfield 180, 3, 10, 59, 57), (5, .iload_n 1, 1, 0, 0, 0), (6, .invokestatic 188, 3, 107, 2, 59), (9, .ifCond .eq 10, 3, 0, 0, 0), (12, .iload_n 2, 1, 0, 0, 0), (13, .invokestatic 195, 3, 110, 2, 61), (16, .ifCond .ne 5, 3, 0, 0, 0), (19, .iconst 0, 1, 0, 0, 0), (20, .ireturn, 1, 0, 0, 0), (21, .aload_n 0, 1, 0, 0, 0), (22, .getfield 13, 3, 10, 2, 2), (25, .iload_n 1, 1, 0, 0, 0), (26, .iload_n 2, 1, 0, 0, 0), (27, .iastore, 1, 0, 0, 0), (28, .iconst 1, 1, 0, 0, 0), (29, .ireturn, 1, 0, 0, 0)]
def t_112 : i_T := (112, c_112, 3, (some .boolean), 0, 0)
def c_113 : List i_X := [(0, .iconst 0, 1, 0, 0, 0), (1, .istore_n 3, 1, 0, 0, 0), (2, .iload_n 3, 1, 0, 0, 0), (3, .bipush 12, 2, 0, 0, 0), (5, .if_icmp .ge 26, 3, 0, 0, 0), (8, .aload_n 0, 1, 0, 0, 0), (9, .getfield 16, 3, 10, 3, 3), (12, .iload_n 3, 1, 0, 0, 0), (13, .iload_n 3, 1, 0, 0, 0), (14, .iload_n 1, 1, 0, 0, 0), (15, .if_icmp .ne 7, 3, 0, 0, 0), (18, .iconst 0, 1, 0, 0, 0), (19, .goto 5, 3, 0, 0, 0), (22, .ldc 198, 2, 1000000, 0, 62), (24, .iastore, 1, 0, 0, 0), (25, .iinc 3 1, 3, 0, 0, 0), (28, .goto (-26), 3, 0, 0, 0), (31, .iconst 0, 1, 0, 0, 0), (32, .istore_n 3, 1, 0, 0, 0), (33, .iload_n 3, 1, 0, 0, 0), (34, .bipush 12, 2, 0, 0, 0), (36, .if_icmp .ge 83, 3, 0, 0, 0), (39, .iconst 0, 1, 0, 0, 0), (40, .istore 4, 2, 0, 0, 0), (42, .iload 4, 2, 0, 0, 0), (44, .sipush 144, 3, 0, 0, 0), (47, .if_icmp .ge 66, 3, 0, 0, 0), (50, .aload_n 0, 1, 0, 0, 0), (51, .getfield 16, 3, 10, 3, 3), (54, .iload 4, 2, 0, 0, 0), (56, .bipush 12, 2, 0, 0, 0), (58, .idiv, 1, 0, 0, 0), (59, .iaload, 1, 0, 0, 0), (60, .aload_n 0, 1, 0, 0, 0), (61, .getfield 7, 3, 10, 0, 1), (64, .iload 4, 2, 0, 0, 0), (66, .iaload, 1, 0, 0, 0), (67, .iadd, 1, 0, 0, 0), (68, .istore 5, 2, 0, 0, 0), (70, .aload_n 0, 1, 0, 0, 0), (71, .getfield 7, 3, 10, 0, 1), (74, .iload 4, 2, 0, 0, 0), (76, .iaload, 1, 0, 0, 0), (77, .ifCond .le 30, 3, 0, 0, 0), (80, .iload 5, 2, 0, 0, 0), (82, .aload_n 0, 1, 0, 0, 0), (83, .getfield 16, 3, 10, 3, 3), (86, .iload 4, 2, 0, 0, 0), (88, .bipush 12, 2, 0, 0, 0), (90, .irem, 1, 0, 0, 0), (91, .iaload, 1, 0, 0, 0), (92, .if_icmp .ge 15, 3, 0, 0, 0), (95, .aload_n 0, 1, 0, 0, 0), (96, .getfield 16, 3, 10, 3, 3), (99, .iload 4, 2, 0, 0, 0), (101, .bipush 12, 2, 0, 0, 0), (103, .irem, 1, 0, 0, 0), (104, .iload 5, 2, 0, 0, 0), (106, .iastore, 1, 0, 0, 0), (107, .iinc 4 1, 3, 0, 0, 0), (110, .goto (-68), 3, 0, 0, 0), (113, .iinc 3 1, 3, 0, 0, 0), (116, .goto (-83), 3, 0, 0, 0), (119, .aload_n 0, 1, 0, 0, 0), (120, .getfield 16, 3, 10, 3, 3), (123, .iload_n 2, 1, 0, 0, 0), (124, .iaload, 1, 0, 0, 0), (125, .ldc 198, 2, 1000000, 0, 62), (127, .if_icmp .ne 7, 3, 0, 0, 0), (130, .iconst (-1), 1, 0, 0, 0), (131, .goto 9, 3, 0, 0, 0), (134, .aload_n 0, 1, 0, 0, 0), (135, .getfield 16, 3, 10, 3, 3), (138, .iload_n 2, 1, 0, 0, 0), (139, .iaload, 1, 0, 0, 0), (140, .ireturn, 1, 0, 0, 0)]
def t_113 : i_T := (113, c_113, 6, (some .int), 0, 0)
def c_114 : List i_X := [(0, .aload_n 0, 1, 0, 0, 0), (1, .iconst 0, 1, 0, 0, 0), (2, .putfield 180, 3, 10, 59, 57), (5, .iload 4, 2, 0, 0, 0), (7, .ifCond .ne 27, 3, 0, 0, 0), (10, .iload_n 2, 1, 0, 0, 0), (11, .iconst 0, 1, 0, 0, 0), (12, .bipush 15, 2, 0, 0, 0), (14, .invokestatic 184, 3, 106, 4, 58), (17, .ifCond .eq 17, 3, 0, 0, 0), (20, .iload_n 3, 1, 0, 0, 0), (21, .iconst 0, 1, 0, 0, 0), (22, .bipush 15, 2, 0, 0, 0), (24, .invokestatic 184, 3, 106, 4, 58), (27, .ifCond .eq 7, 3, 0, 0, 0), (30, .iconst 1, 1, 0, 0, 0), (31, .goto 4, 3, 0, 0, 0), (34, .iconst 0, 1, 0, 0, 0), (35, .istore 5, 2, 0, 0, 0), (37, .iload_n 1, 1, 0, 0, 0), (38, .iconst 0, 1, 0, 0, 0), (39, .bipush 15, 2, 0, 0, 0), (41, .invokestatic 184, 3, 106, 4, 58), (44, .ifCond .eq 18, 3, 0, 0, 0), (47, .iload 5, 2, 0, 0, 0), (49, .ifCond .ne 15, 3, 0, 0, 0), (52, .iload 4, 2, 0, 0, 0), (54, .iconst 1, 1, 0, 0, 0), (55, .iconst 5, 1, 0, 0, 0), (56, .invokestatic 184, 3, 106, 4, 58), (59, .ifCond .ne 5, 3, 0, 0, 0), (62, .iconst 0, 1, 0, 0, 0), (63, .ireturn, 1, 0, 0, 0), (64, .aload_n 0, 1, 0, 0, 0), (65, .getfield 19, 3, 10, 4, 4), (68, .iload_n 1, 1, 0, 0, 0), (69, .iload 4, 2, 0, 0, 0), (71, .iastore, 1, 0, 0, 0), (72, .aload_n 0, 1, 0, 0, 0), (73, .getfield 22, 3, 10, 5, 5), (76, .iload_n 1, 1, 0, 0, 0), (77, .iload_n 2, 1, 0, 0, 0), (78, .iastore, 1, 0, 0, 0), (79, .aload_n 0, 1, 0, 0, 0), (80, .getfield 25, 3, 10, 6, 6), (83, .iload_n 1, 1, 0, 0, 0), (84, .iload_n 3, 1, 0, 0, 0), (85, .iastore, 1, 0, 0, 0), (86, .iconst 1, 1, 0, 0, 0), (87, .ireturn, 1, 0, 0, 0)]
def t_114 : i_T := (114, c_114, 6, (some .boolean), 0, 0)
def c_115 : List i_X := [(0, .aload_n 0, 1, 0, 0, 0), (1, .iconst 0, 1, 0, 0, 0), (2, .putfield 180, 3, 10, 59, 57), (5, .iload_n 1, 1, 0, 0, 0), (6, .iconst 0, 1, 0, 0, 0), (7, .bipush 15, 2, 0, 0, 0), (9, .invokestatic 184, 3, 106, 4, 58), (12, .ifCond .ne 5, 3, 0, 0, 0), (15, .iconst (-1), 1, 0, 0, 0), (16, .ireturn, 1, 0, 0, 0), (17, .iconst 0, 1, 0, 0, 0), (18, .istore_n 2, 1, 0, 0, 0), (19, .iload_n 2, 1, 0, 0, 0), (20, .bipush 16, 2, 0, 0, 0), (22, .if_icmp .ge 16, 3, 0, 0, 0), (25, .aload_n 0, 1, 0, 0, 0), (26, .getfield 28, 3, 10, 7, 7), (29, .iload_n 2, 1, 0, 0, 0), (30, .iconst 0, 1, 0, 0, 0), (31, .iastore, 1, 0, 0, 0), (32, .iinc 2 1, 3, 0, 0, 0), (35, .goto (-16), 3, 0, 0, 0), (38, .iconst 0, 1, 0, 0, 0), (39, .istore_n 2, 1, 0, 0, 0), (40, .iload_n 2, 1, 0, 0, 0), (41, .bipush 16, 2, 0, 0, 0), (43, .if_icmp .gt 123, 3, 0, 0, 0), (46, .iconst 0, 1, 0, 0, 0), (47, .istore_n 3, 1, 0, 0, 0), (48, .iload_n 3, 1, 0, 0, 0), (49, .bipush 16, 2, 0, 0, 0), (51, .if_icmp .ge 83, 3, 0, 0, 0), (54, .iconst 0, 1, 0, 0, 0), (55, .istore 4, 2, 0, 0, 0), (57, .aload_n 0, 1, 0, 0, 0), (58, .getfield 19, 3, 10, 4, 4), (61, .iload_n 3, 1, 0, 0, 0), (62, .iaload, 1, 0, 0, 0), (63, .ifCond .ne 57, 3, 0, 0, 0), (66, .iconst 1, 1, 0, 0, 0), (67, .aload_n 0, 1, 0, 0, 0), (68, .getfield 28, 3, 10, 7, 7), (71, .aload_n 0, 1, 0, 0, 0), (72, .getfield 22, 3, 10, 5, 5), (75, .iload_n 3, 1, 0, 0, 0), (76, .iaload, 1, 0, 0, 0), (77, .iaload, 1, 0, 0, 0), (78, .aload_n 0, 1, 0, 0, 0), (79, .getfield 28, 3, 10, 7, 7), (82, .aload_n 0, 1, 0, 0, 0), (83, .getfield 25, 3, 10, 6, 6), (86, .iload_n 3, 1, 0, 0, 0), (87, .iaload, 1, 0, 0, 0), (88, .iaload, 1, 0, 0, 0), (89, .if_icmp .le 17, 3, 0, 0, 0), (92, .aload_n 0, 1, 0, 0, 0), (93, .getfield 28, 3, 10, 7, 7), (96, .aload_n 0, 1, 0, 0, 0), (97, .getfield 22, 3, 10, 5, 5), (100, .iload_n 3, 1, 0, 0, 0), (101, .iaload, 1, 0, 0, 0), (102, .iaload, 1, 0, 0, 0), (103, .goto 14, 3, 0, 0, 0), (106, .aload_n 0, 1, 0, 0, 0), (107, .getfield 28, 3, 10, 7, 7), (110, .aload_n 0, 1, 0, 0, 0), (111, .getfield 25, 3, 10, 6, 6), (114, .iload_n 3, 1, 0, 0, 0), (115, .iaload, 1, 0, 0, 0), (116, .iaload, 1, 0, 0, 0), (117, .iadd, 1, 0, 0, 0), (118, .istore 4, 2, 0, 0, 0), (120, .aload_n 0, 1, 0, 0, 0), (121, .getfield 31, 3, 10, 8, 8), (124, .iload_n 3, 1, 0, 0, 0), (125, .iload 4, 2, 0, 0, 0), (127, .iastore, 1, 0, 0, 0), (128, .iinc 3 1, 3, 0, 0, 0), (131, .goto (-83), 3, 0, 0, 0), (134, .iconst 0, 1, 0, 0, 0), (135, .istore_n 3, 1, 0, 0, 0), (136, .iload_n 3, 1, 0, 0, 0), (137, .bipush 16, 2, 0, 0, 0), (139, .if_icmp .ge 21, 3, 0, 0, 0), (142, .aload_n 0, 1, 0, 0, 0), (143, .getfield 28, 3, 10, 7, 7), (146, .iload_n 3, 1, 0, 0, 0), (147, .aload_n 0, 1, 0, 0, 0), (148, .getfield 31, 3, 10, 8, 8), (151, .iload_n 3, 1, 0, 0, 0), (152, .iaload, 1, 0, 0, 0), (153, .iastore, 1, 0, 0, 0), (154, .iinc 3 1, 3, 0, 0, 0), (157, .goto (-21), 3, 0, 0, 0), (160, .iinc 2 1, 3, 0, 0, 0), (163, .goto (-123), 3, 0, 0, 0), (166, .aload_n 0, 1, 0, 0, 0), (167, .getfield 28, 3, 10, 7, 7), (170, .iload_n 1, 1, 0, 0, 0), (171, .iaload, 1, 0, 0, 0), (172, .bipush 16, 2, 0, 0, 0), (174, .if_icmp .le 7, 3, 0, 0, 0), (177, .iconst (-1), 1, 0, 0, 0), (178, .goto 9, 3, 0, 0, 0), (181, .aload_n 0, 1, 0, 0, 0), (182, .getfield 28, 3, 10, 7, 7), (185, .iload_n 1, 1, 0, 0, 0), (186, .iaload, 1, 0, 0, 0), (187, .ireturn, 1, 0, 0, 0)]
def t_115 : i_T := (115, c_115, 5, (some .int), 0, 0)
def c_116 : List i_X := [(0, .aload_n 0, 1, 0, 0, 0), (1, .getfield 138, 3, 10, 45, 43), (4, .iload_n 2, 1, 0, 0, 0), (5, .aload_n 0, 1, 0, 0, 0), (6, .getfield 138, 3, 10, 45, 43), (9, .iload_n 1, 1, 0, 0, 0), (10, .iaload, 1, 0, 0, 0), (11, .iastore, 1, 0, 0, 0), (12, .aload_n 0, 1, 0, 0, 0), (13, .getfield 141, 3, 10, 46, 44), (16, .iload_n 2, 1, 0, 0, 0), (17, .aload_n 0, 1, 0, 0, 0), (18, .getfield 141, 3, 10, 46, 44), (21, .iload_n 1, 1, 0, 0, 0), (22, .iaload, 1, 0, 0, 0), (23, .iastore, 1, 0, 0, 0), (24, .aload_n 0, 1, 0, 0, 0), (25, .getfield 144, 3, 10, 47, 45), (28, .iload_n 2, 1, 0, 0, 0), (29, .aload_n 0, 1, 0, 0, 0), (30, .getfield 144, 3, 10, 47, 45), (33, .iload_n 1, 1, 0, 0, 0), (34, .iaload, 1, 0, 0, 0), (35, .iastore, 1, 0, 0, 0), (36, .aload_n 0, 1, 0, 0, 0), (37, .getfield 147, 3, 10, 48, 46), (40, .iload_n 2, 1, 0, 0, 0), (41, .aload_n 0, 1, 0, 0, 0), (42, .getfield 147, 3, 10, 48, 46), (45, .iload_n 1, 1, 0, 0, 0), (46, .iaload, 1, 0, 0, 0), (47, .iastore, 1, 0, 0, 0), (48, .aload_n 0, 1, 0, 0, 0), (49, .getfield 150, 3, 10, 49, 47), (52, .iload_n 2, 1, 0, 0, 0), (53, .aload_n 0, 1, 0, 0, 0), (54, .getfield 150, 3, 10, 49, 47), (57, .iload_n 1, 1, 0, 0, 0), (58, .iaload, 1, 0, 0, 0), (59, .iastore, 1, 0, 0, 0), (60, .aload_n 0, 1, 0, 0, 0), (61, .getfield 153, 3, 10, 50, 48), (64, .iload_n 2, 1, 0, 0, 0), (65, .aload_n 0, 1, 0, 0, 0), (66, .getfield 153, 3, 10, 50, 48), (69, .iload_n 1, 1, 0, 0, 0), (70, .iaload, 1, 0, 0, 0), (71, .iastore, 1, 0, 0, 0), (72, .aload_n 0, 1, 0, 0, 0), (73, .getfield 156, 3, 10, 51, 49), (76, .iload_n 2, 1, 0, 0, 0), (77, .aload_n 0, 1, 0, 0, 0), (78, .getfield 156, 3, 10, 51, 49), (81, .iload_n 1, 1, 0, 0, 0), (82, .iaload, 1, 0, 0, 0), (83, .iastore, 1, 0, 0, 0), (84, .aload_n 0, 1, 0, 0, 0), (85, .getfield 159, 3, 10, 52, 50), (88, .iload_n 2, 1, 0, 0, 0), (89, .aload_n 0, 1, 0, 0, 0), (90, .getfield 159, 3, 10, 52, 50), (93, .iload_n 1, 1, 0, 0, 0), (94, .iaload, 1, 0, 0, 0), (95, .iastore, 1, 0, 0, 0), (96, .aload_n 0, 1, 0, 0, 0), (97, .getfield 162, 3, 10, 53, 51), (100, .iload_n 2, 1, 0, 0, 0), (101, .aload_n 0, 1, 0, 0, 0), (102, .getfield 162, 3, 10, 53, 51), (105, .iload_n 1, 1, 0, 0, 0), (106, .iaload, 1, 0, 0, 0), (107, .iastore, 1, 0, 0, 0), (108, .aload_n 0, 1, 0, 0, 0), (109, .getfield 165, 3, 10, 54, 52), (112, .iload_n 2, 1, 0, 0, 0), (113, .aload_n 0, 1, 0, 0, 0), (114, .getfield 165, 3, 10, 54, 52), (117, .iload_n 1, 1, 0, 0, 0), (118, .iaload, 1, 0, 0, 0), (119, .iastore, 1, 0, 0, 0), (120, .aload_n 0, 1, 0, 0, 0), (121, .getfield 168, 3, 10, 55, 53), (124, .iload_n 2, 1, 0, 0, 0), (125, .aload_n 0, 1, 0, 0, 0), (126, .getfield 168, 3, 10, 55, 53), (129, .iload_n 1, 1, 0, 0, 0), (130, .iaload, 1, 0, 0, 0), (131, .iastore, 1, 0, 0, 0), (132, .aload_n 0, 1, 0, 0, 0), (133, .getfield 171, 3, 10, 56, 54), (136, .iload_n 2, 1, 0, 0, 0), (137, .aload_n 0, 1, 0, 0, 0), (138, .getfield 171, 3, 10, 56, 54), (141, .iload_n 1, 1, 0, 0, 0), (142, .iaload, 1, 0, 0, 0), (143, .iastore, 1, 0, 0, 0), (144, .aload_n 0, 1, 0, 0, 0), (145, .getfield 174, 3, 10, 57, 55), (148, .iload_n 2, 1, 0, 0, 0), (149, .aload_n 0, 1, 0, 0, 0), (150, .getfield 174, 3, 10, 57, 55), (153, .iload_n 1, 1, 0, 0, 0), (154, .iaload, 1, 0, 0, 0), (155, .iastore, 1, 0, 0, 0), (156, .aload_n 0, 1, 0, 0, 0), (157, .getfield 177, 3, 10, 58, 56), (160, .iload_n 2, 1, 0, 0, 0), (161, .aload_n 0, 1, 0, 0, 0), (162, .getfield 177, 3, 10, 58, 56), (165, .iload_n 1, 1, 0, 0, 0), (166, .laload, 1, 0, 0, 0), (167, .lastore, 1, 0, 0, 0), (168, .return_, 1, 0, 0, 0)]
def t_116 : i_T := (116, c_116, 3, none, 0, 0)
def c_117 : List i_X := [(0, .aload_n 0, 1, 0, 0, 0), (1, .getfield 199, 3, 10, 44, 63), (4, .bipush 48, 2, 0, 0, 0), (6, .if_icmp .ne 5, 3, 0, 0, 0), (9, .iconst (-1), 1, 0, 0, 0), (10, .ireturn, 1, 0, 0, 0), (11, .aload_n 0, 1, 0, 0, 0), (12, .getfield 199, 3, 10, 44, 63), (15, .istore 6, 2, 0, 0, 0), (17, .aload_n 0, 1, 0, 0, 0), (18, .dup, 1, 0, 0, 0), (19, .getfield 199, 3, 10, 44, 63), (22, .iconst 1, 1, 0, 0, 0), (23, .iadd, 1, 0, 0, 0), (24, .putfield 199, 3, 10, 44, 63), (27, .aload_n 0, 1, 0, 0, 0), (28, .getfield 138, 3, 10, 45, 43), (31, .iload 6, 2, 0, 0, 0), (33, .iload_n 1, 1, 0, 0, 0), (34, .iastore, 1, 0, 0, 0), (35, .aload_n 0, 1, 0, 0, 0), (36, .getfield 141, 3, 10, 46, 44), (39, .iload 6, 2, 0, 0, 0), (41, .iload_n 2, 1, 0, 0, 0), (42, .iastore, 1, 0, 0, 0), (43, .aload_n 0, 1, 0, 0, 0), (44, .getfield 144, 3, 10, 47, 45), (47, .iload 6, 2, 0, 0, 0), (49, .iload_n 3, 1, 0, 0, 0), (50, .iastore, 1, 0, 0, 0), (51, .aload_n 0, 1, 0, 0, 0), (52, .getfield 147, 3, 10, 48, 46), (55, .iload 6, 2, 0, 0, 0), (57, .iload 4, 2, 0, 0, 0), (59, .iastore, 1, 0, 0, 0), (60, .aload_n 0, 1, 0, 0, 0), (61, .getfield 150, 3, 10, 49, 47), (64, .iload 6, 2, 0, 0, 0), (66, .iload 5, 2, 0, 0, 0), (68, .iastore, 1, 0, 0, 0), (69, .iload 6, 2, 0, 0, 0), (71, .ireturn, 1, 0, 0, 0)]
def t_117 : i_T := (117, c_117, 7, (some .int), 0, 0)
def c_118 : List i_X := [(0, .bipush 16, 2, 0, 0, 0), (2, .iload_n 2, 1, 0, 0, 0), (3, .imul, 1, 0, 0, 0), (4, .iload 4, 2, 0, 0, 0), (6, .iadd, 1, 0, 0, 0), (7, .istore 5, 2, 0, 0, 0), (9, .aload_n 0, 1, 0, 0, 0), (10, .iload_n 1, 1, 0, 0, 0), (11, .iload_n 2, 1, 0, 0, 0), (12, .iload_n 3, 1, 0, 0, 0), (13, .iload 4, 2, 0, 0, 0), (15, .aload_n 0, 1, 0, 0, 0), (16, .getfield 111, 3, 10, 35, 34), (19, .iload 5, 2, 0, 0, 0), (21, .iaload, 1, 0, 0, 0), (22, .invokevirtual 202, 3, 117, 5, 64), (25, .istore 6, 2, 0, 0, 0), (27, .iload 6, 2, 0, 0, 0), (29, .iconst (-1), 1, 0, 0, 0), (30, .if_icmp .ne 4, 3, 0, 0, 0), (33, .return_, 1, 0, 0, 0), (34, .aload_n 0, 1, 0, 0, 0), (35, .getfield 153, 3, 10, 50, 48), (38, .iload 6, 2, 0, 0, 0), (40, .aload_n 0, 1, 0, 0, 0), (41, .getfield 114, 3, 10, 36, 35), (44, .iload 5, 2, 0, 0, 0), (46, .iaload, 1, 0, 0, 0), (47, .iastore, 1, 0, 0, 0), (48, .aload_n 0, 1, 0, 0, 0), (49, .getfield 156, 3, 10, 51, 49), (52, .iload 6, 2, 0, 0, 0), (54, .aload_n 0, 1, 0, 0, 0), (55, .getfield 90, 3, 10, 28, 27), (58, .iload 5, 2, 0, 0, 0), (60, .iaload, 1, 0, 0, 0), (61, .iastore, 1, 0, 0, 0), (62, .aload_n 0, 1, 0, 0, 0), (63, .getfield 159, 3, 10, 52, 50), (66, .iload 6, 2, 0, 0, 0), (68, .aload_n 0, 1, 0, 0, 0), (69, .getfield 93, 3, 10, 29, 28), (72, .iload 5, 2, 0, 0, 0), (74, .iaload, 1, 0, 0, 0), (75, .iastore, 1, 0, 0, 0), (76, .aload_n 0, 1, 0, 0, 0), (77, .getfield 162, 3, 10, 53, 51), (80, .iload 6, 2, 0, 0, 0), (82, .aload_n 0, 1, 0, 0, 0), (83, .getfield 96, 3, 10, 30, 29), (86, .iload 5, 2, 0, 0, 0), (88, .iaload, 1, 0, 0, 0), (89, .iastore, 1, 0, 0, 0), (90, .aload_n 0, 1, 0, 0, 0), (91, .getfield 165, 3, 10, 54, 52), (94, .iload 6, 2, 0, 0, 0), (96, .aload_n 0, 1, 0, 0, 0), (97, .getfield 99, 3, 10, 31, 30), (100, .iload 5, 2, 0, 0, 0), (102, .iaload, 1, 0, 0, 0), (103, .iastore, 1, 0, 0, 0), (104, .aload_n 0, 1, 0, 0, 0), (105, .getfield 168, 3, 10, 55, 53), (108, .iload 6, 2, 0, 0, 0), (110, .aload_n 0, 1, 0, 0, 0), (111, .getfield 102, 3, 10, 32, 31), (114, .iload 5, 2, 0, 0, 0), (116, .iaload, 1, 0, 0, 0), (117, .iastore, 1, 0, 0, 0), (118, .aload_n 0, 1, 0, 0, 0), (119, .getfield 171, 3, 10, 56, 54), (122, .iload 6, 2, 0, 0, 0), (124, .aload_n 0, 1, 0, 0, 0), (125, .getfield 105, 3, 10, 33, 32), (128, .iload 5, 2, 0, 0, 0), (130, .iaload, 1, 0, 0, 0), (131, .iastore, 1, 0, 0, 0), (132, .aload_n 0, 1, 0, 0, 0), (133, .getfield 174, 3, 10, 57, 55), (136, .iload 6, 2, 0, 0, 0), (138, .aload_n 0, 1, 0, 0, 0), (139, .getfield 108, 3, 10, 34, 33), (142, .iload 5, 2, 0, 0, 0), (144, .iaload, 1, 0, 0, 0), (145, .iastore, 1, 0, 0, 0), (146, .return_, 1, 0, 0, 0)]
def t_118 : i_T := (118, c_118, 7, none, 0, 0)
def c_119 : List i_X := [(0, .bipush 16, 2, 0, 0, 0), (2, .iload_n 1, 1, 0, 0, 0), (3, .imul, 1, 0, 0, 0), (4, .aload_n 0, 1, 0, 0, 0), (5, .getfield 147, 3, 10, 48, 46), (8, .bipush 48, 2, 0, 0, 0), (10, .iaload, 1, 0, 0, 0), (11, .iadd, 1, 0, 0, 0), (12, .istore_n 2, 1, 0, 0, 0), (13, .aload_n 0, 1, 0, 0, 0), (14, .getfield 87, 3, 10, 27, 26), (17, .iload_n 2, 1, 0, 0, 0), (18, .baload, 1, 0, 0, 0), (19, .ifCond .eq 51, 3, 0, 0, 0), (22, .aload_n 0, 1, 0, 0, 0), (23, .getfield 150, 3, 10, 49, 47), (26, .bipush 48, 2, 0, 0, 0), (28, .iaload, 1, 0, 0, 0), (29, .aload_n 0, 1, 0, 0, 0), (30, .getfield 111, 3, 10, 35, 34), (33, .iload_n 2, 1, 0, 0, 0), (34, .iaload, 1, 0, 0, 0), (35, .if_icmp .gt 35, 3, 0, 0, 0), (38, .aload_n 0, 1, 0, 0, 0), (39, .getfield 150, 3, 10, 49, 47), (42, .bipush 48, 2, 0, 0, 0), (44, .iaload, 1, 0, 0, 0), (45, .aload_n 0, 1, 0, 0, 0), (46, .getfield 111, 3, 10, 35, 34), (49, .iload_n 2, 1, 0, 0, 0), (50, .iaload, 1, 0, 0, 0), (51, .if_icmp .ne 23, 3, 0, 0, 0), (54, .aload_n 0, 1, 0, 0, 0), (55, .getfield 153, 3, 10, 50, 48), (58, .bipush 48, 2, 0, 0, 0), (60, .iaload, 1, 0, 0, 0), (61, .aload_n 0, 1, 0, 0, 0), (62, .getfield 114, 3, 10, 36, 35), (65, .iload_n 2, 1, 0, 0, 0), (66, .iaload, 1, 0, 0, 0), (67, .if_icmp .le 7, 3, 0, 0, 0), (70, .iconst 1, 1, 0, 0, 0), (71, .goto 4, 3, 0, 0, 0), (74, .iconst 0, 1, 0, 0, 0), (75, .istore_n 3, 1, 0, 0, 0), (76, .iload_n 3, 1, 0, 0, 0), (77, .ifCond .ne 4, 3, 0, 0, 0), (80, .return_, 1, 0, 0, 0), (81, .aload_n 0, 1, 0, 0, 0), (82, .getfield 87, 3, 10, 27, 26), (85, .iload_n 2, 1, 0, 0, 0), (86, .iconst 1, 1, 0, 0, 0), (87, .bastore, 1, 0, 0, 0), (88, .aload_n 0, 1, 0, 0, 0), (89, .getfield 90, 3, 10, 28, 27), (92, .iload_n 2, 1, 0, 0, 0), (93, .aload_n 0, 1, 0, 0, 0), (94, .getfield 156, 3, 10, 51, 49), (97, .bipush 48, 2, 0, 0, 0), (99, .iaload, 1, 0, 0, 0), (100, .iastore, 1, 0, 0, 0), (101, .aload_n 0, 1, 0, 0, 0), (102, .getfield 93, 3, 10, 29, 28), (105, .iload_n 2, 1, 0, 0, 0), (106, .aload_n 0, 1, 0, 0, 0), (107, .getfield 159, 3, 10, 52, 50), (110, .bipush 48, 2, 0, 0, 0), (112, .iaload, 1, 0, 0, 0), (113, .iastore, 1, 0, 0, 0), (114, .aload_n 0, 1, 0, 0, 0), (115, .getfield 96, 3, 10, 30, 29), (118, .iload_n 2, 1, 0, 0, 0), (119, .aload_n 0, 1, 0, 0, 0), (120, .getfield 162, 3, 10, 53, 51), (123, .bipush 48, 2, 0, 0, 0), (125, .iaload, 1, 0, 0, 0), (126, .iastore, 1, 0, 0, 0), (127, .aload_n 0, 1, 0, 0, 0), (128, .getfield 99, 3, 10, 31, 30), (131, .iload_n 2, 1, 0, 0, 0), (132, .aload_n 0, 1, 0, 0, 0), (133, .getfield 165, 3, 10, 54, 52), (136, .bipush 48, 2, 0, 0, 0), (138, .iaload, 1, 0, 0, 0), (139, .iastore, 1, 0, 0, 0), (140, .aload_n 0, 1, 0, 0, 0), (141, .getfield 102, 3, 10, 32, 31), (144, .iload_n 2, 1, 0, 0, 0), (145, .aload_n 0, 1, 0, 0, 0), (146, .getfield 168, 3, 10, 55, 53), (149, .bipush 48, 2, 0, 0, 0), (151, .iaload, 1, 0, 0, 0), (152, .iastore, 1, 0, 0, 0), (153, .aload_n 0, 1, 0, 0, 0), (154, .getfield 105, 3, 10, 33, 32), (157, .iload_n 2, 1, 0, 0, 0), (158, .aload_n 0, 1, 0, 0, 0), (159, .getfield 171, 3, 10, 56, 54), (162, .bipush 48, 2, 0, 0, 0), (164, .iaload, 1, 0, 0, 0), (165, .iastore, 1, 0, 0, 0), (166, .aload_n 0, 1, 0, 0, 0), (167, .getfield 108, 3, 10, 34, 33), (170, .iload_n 2, 1, 0, 0, 0), (171, .aload_n 0, 1, 0, 0, 0), (172, .getfield 174, 3, 10, 57, 55), (175, .bipush 48, 2, 0, 0, 0), (177, .iaload, 1, 0, 0, 0), (178, .iastore, 1, 0, 0, 0), (179, .aload_n 0, 1, 0, 0, 0), (180, .getfield 111, 3, 10, 35, 34), (183, .iload_n 2, 1, 0, 0, 0), (184, .aload_n 0, 1, 0, 0, 0), (185, .getfield 150, 3, 10, 49, 47), (188, .bipush 48, 2, 0, 0, 0), (190, .iaload, 1, 0, 0, 0), (191, .iastore, 1, 0, 0, 0), (192, .aload_n 0, 1, 0, 0, 0), (193, .getfield 114, 3, 10, 36, 35), (196, .iload_n 2, 1, 0, 0, 0), (197, .aload_n 0, 1, 0, 0, 0), (198, .getfield 153, 3, 10, 50, 48), (201, .bipush 48, 2, 0, 0, 0), (203, .iaload, 1, 0, 0, 0), (204, .iastore, 1, 0, 0, 0), (205, .aload_n 0, 1, 0, 0, 0), (206, .getfield 117, 3, 10, 37, 36), (209, .iload_n 2, 1, 0, 0, 0), (210, .iconst 0, 1, 0, 0, 0), (211, .bastore, 1, 0, 0, 0), (212, .return_, 1, 0, 0, 0)]
def t_119 : i_T := (119, c_119, 4, none, 0, 0)
def c_120 : List i_X := [(0, .aload_n 0, 1, 0, 0, 0), (1, .iconst 3, 1, 0, 0, 0), (2, .iload_n 1, 1, 0, 0, 0), (3, .aload_n 0, 1, 0, 0, 0), (4, .getfield 141, 3, 10, 46, 44), (7, .bipush 48, 2, 0, 0, 0), (9, .iaload, 1, 0, 0, 0), (10, .aload_n 0, 1, 0, 0, 0), (11, .getfield 147, 3, 10, 48, 46), (14, .bipush 48, 2, 0, 0, 0), (16, .iaload, 1, 0, 0, 0), (17, .aload_n 0, 1, 0, 0, 0), (18, .getfield 150, 3, 10, 49, 47), (21, .bipush 48, 2, 0, 0, 0), (23, .iaload, 1, 0, 0, 0), (24, .invokevirtual 202, 3, 117, 5, 64), (27, .istore_n 2, 1, 0, 0, 0), (28, .iload_n 2, 1, 0, 0, 0), (29, .iconst (-1), 1, 0, 0, 0), (30, .if_icmp .eq 16, 3, 0, 0, 0), (33, .aload_n 0, 1, 0, 0, 0), (34, .getfield 153, 3, 10, 50, 48), (37, .iload_n 2, 1, 0, 0, 0), (38, .aload_n 0, 1, 0, 0, 0), (39, .getfield 153, 3, 10, 50, 48), (42, .bipush 48, 2, 0, 0, 0), (44, .iaload, 1, 0, 0, 0), (45, .iastore, 1, 0, 0, 0), (46, .return_, 1, 0, 0, 0)]
def t_120 : i_T := (120, c_120, 3, none, 0, 0)
def c_121 : List i_X := [(0, .aload_n 0, 1, 0, 0, 0), (1, .bipush 6, 2, 0, 0, 0), (3, .iconst 3, 1, 0, 0, 0), (4, .iload_n 1, 1, 0, 0, 0), (5, .iadd, 1, 0, 0, 0), (6, .iload_n 2, 1, 0, 0, 0), (7, .iload_n 1, 1, 0, 0, 0), (8, .aload_n 0, 1, 0, 0, 0), (9, .getfield 49, 3, 10, 14, 14), (12, .iload_n 1, 1, 0, 0, 0), (13, .iaload, 1, 0, 0, 0), (14, .invokevirtual 202, 3, 117, 5, 64), (17, .istore_n 3, 1, 0, 0, 0), (18, .iload_n 3, 1, 0, 0, 0), (19, .iconst (-1), 1, 0, 0, 0), (20, .if_icmp .ne 4, 3, 0, 0, 0), (23, .return_, 1, 0, 0, 0), (24, .aload_n 0, 1, 0, 0, 0), (25, .getfield 168, 3, 10, 55, 53), (28, .iload_n 3, 1, 0, 0, 0), (29, .aload_n 0, 1, 0, 0, 0), (30, .getfield 40, 3, 10, 11, 11), (33, .iload_n 1, 1, 0, 0, 0), (34, .iaload, 1, 0, 0, 0), (35, .iastore, 1, 0, 0, 0), (36, .aload_n 0, 1, 0, 0, 0), (37, .getfield 156, 3, 10, 51, 49), (40, .iload_n 3, 1, 0, 0, 0), (41, .aload_n 0, 1, 0, 0, 0), (42, .getfield 34, 3, 10, 9, 9), (45, .iload_n 1, 1, 0, 0, 0), (46, .iaload, 1, 0, 0, 0), (47, .iastore, 1, 0, 0, 0), (48, .aload_n 0, 1, 0, 0, 0), (49, .getfield 171, 3, 10, 56, 54), (52, .iload_n 3, 1, 0, 0, 0), (53, .aload_n 0, 1, 0, 0, 0), (54, .getfield 43, 3, 10, 12, 12), (57, .iload_n 1, 1, 0, 0, 0), (58, .iaload, 1, 0, 0, 0), (59, .iastore, 1, 0, 0, 0), (60, .return_, 1, 0, 0, 0)]
def t_121 : i_T := (121, c_121, 4, none, 0, 0)
def c_122 : List i_X := [(0, .aload_n 0, 1, 0, 0, 0), (1, .getfield 49, 3, 10, 14, 14), (4, .iload_n 1, 1, 0, 0, 0), (5, .dup2, 1, 0, 0, 0), (6, .iaload, 1, 0, 0, 0), (7, .iconst 1, 1, 0, 0, 0), (8, .iadd, 1, 0, 0, 0), (9, .iastore, 1, 0, 0, 0), (10, .aload_n 0, 1, 0, 0, 0), (11, .iload_n 1, 1, 0, 0, 0), (12, .iconst 0, 1, 0, 0, 0), (13, .invokevirtual 206, 3, 121, 2, 65), (16, .aload_n 0, 1, 0, 0, 0), (17, .iload_n 1, 1, 0, 0, 0), (18, .iconst 1, 1, 0, 0, 0), (19, .invokevirtual 206, 3, 121, 2, 65), (22, .return_, 1, 0, 0, 0)]
def t_122 : i_T := (122, c_122, 2, none, 0, 0)
def c_123 : List i_X := [(0, .aload_n 0, 1, 0, 0, 0), (1, .getfield 147, 3, 10, 48, 46), (4, .bipush 48, 2, 0, 0, 0), (6, .iaload, 1, 0, 0, 0), (7, .istore_n 1, 1, 0, 0, 0), (8, .aload_n 0, 1, 0, 0, 0), (9, .getfield 141, 3, 10, 46, 44), (12, .bipush 48, 2, 0, 0, 0), (14, .iaload, 1, 0, 0, 0), (15, .istore_n 2, 1, 0, 0, 0), (16, .aload_n 0, 1, 0, 0, 0), (17, .getfield 66, 3, 10, 19, 19), (20, .iload_n 1, 1, 0, 0, 0), (21, .iaload, 1, 0, 0, 0), (22, .iconst (-1), 1, 0, 0, 0), (23, .if_icmp .eq 34, 3, 0, 0, 0), (26, .aload_n 0, 1, 0, 0, 0), (27, .getfield 66, 3, 10, 19, 19), (30, .iload_n 1, 1, 0, 0, 0), (31, .iaload, 1, 0, 0, 0), (32, .iload_n 2, 1, 0, 0, 0), (33, .if_icmp .eq 24, 3, 0, 0, 0), (36, .aload_n 0, 1, 0, 0, 0), (37, .getfield 55, 3, 10, 16, 16), (40, .iconst 2, 1, 0, 0, 0), (41, .laload, 1, 0, 0, 0), (42, .aload_n 0, 1, 0, 0, 0), (43, .getfield 72, 3, 10, 21, 21), (46, .iload_n 1, 1, 0, 0, 0), (47, .laload, 1, 0, 0, 0), (48, .lsub, 1, 0, 0, 0), (49, .ldc2_w 210, 3, 2100, 0, 66), (52, .lcmp, 1, 0, 0, 0), (53, .ifCond .ge 4, 3, 0, 0, 0), (56, .return_, 1, 0, 0, 0), (57, .aload_n 0, 1, 0, 0, 0), (58, .dup, 1, 0, 0, 0), (59, .getfield 212, 3, 10, 22, 67), (62, .iconst 1, 1, 0, 0, 0), (63, .iadd, 1, 0, 0, 0), (64, .putfield 212, 3, 10, 22, 67), (67, .aload_n 0, 1, 0, 0, 0), (68, .getfield 66, 3, 10, 19, 19), (71, .iload_n 1, 1, 0, 0, 0), (72, .iload_n 2, 1, 0, 0, 0), (73, .iastore, 1, 0, 0, 0), (74, .aload_n 0, 1, 0, 0, 0), (75, .getfield 69, 3, 10, 20, 20), (78, .iload_n 1, 1, 0, 0, 0), (79, .aload_n 0, 1, 0, 0, 0), (80, .getfield 212, 3, 10, 22, 67), (83, .iastore, 1, 0, 0, 0), (84, .aload_n 0, 1, 0, 0, 0), (85, .getfield 72, 3, 10, 21, 21), (88, .iload_n 1, 1, 0, 0, 0), (89, .aload_n 0, 1, 0, 0, 0), (90, .getfield 55, 3, 10, 16, 16), (93, .iconst 2, 1, 0, 0, 0), (94, .laload, 1, 0, 0, 0), (95, .lastore, 1, 0, 0, 0), (96, .aload_n 0, 1, 0, 0, 0), (97, .iconst 1, 1, 0, 0, 0), (98, .iconst 2, 1, 0, 0, 0), (99, .iload_n 2, 1, 0, 0, 0), (100, .iload_n 1, 1, 0, 0, 0), (101, .aload_n 0, 1, 0, 0, 0), (102, .getfield 212, 3, 10, 22, 67), (105, .invokevirtual 202, 3, 117, 5, 64), (108, .istore_n 3, 1, 0, 0, 0), (109, .iload_n 3, 1, 0, 0, 0), (110, .iconst (-1), 1, 0, 0, 0), (111, .if_icmp .eq 16, 3, 0, 0, 0), (114, .aload_n 0, 1, 0, 0, 0), (115, .getfield 177, 3, 10, 58, 56), (118, .iload_n 3, 1, 0, 0, 0), (119, .aload_n 0, 1, 0, 0, 0), (120, .getfield 177, 3, 10, 58, 56), (123, .bipush 48, 2, 0, 0, 0), (125, .laload, 1, 0, 0, 0), (126, .lastore, 1, 0, 0, 0), (127, .iconst 0, 1, 0, 0, 0), (128, .istore 4, 2, 0, 0, 0), (130, .iload 4, 2, 0, 0, 0), (132, .bipush 16, 2, 0, 0, 0), (134, .if_icmp .ge 51, 3, 0, 0, 0), (137, .bipush 32, 2, 0, 0, 0), (139, .iload 4, 2, 0, 0, 0), (141, .iadd, 1, 0, 0, 0), (142, .istore 5, 2, 0, 0, 0), (144, .aload_n 0, 1, 0, 0, 0), (145, .getfield 87, 3, 10, 27, 26), (148, .iload 5, 2, 0, 0, 0), (150, .baload, 1, 0, 0, 0), (151, .ifCond .eq 28, 3, 0, 0, 0), (154, .aload_n 0, 1, 0, 0, 0), (155, .getfield 13, 3, 10, 2, 2), (158, .aload_n 0, 1, 0, 0, 0), (159, .getfield 90, 3, 10, 28, 27), (162, .iload 5, 2, 0, 0, 0), (164, .iaload, 1, 0, 0, 0), (165, .iaload, 1, 0, 0, 0), (166, .iload_n 1, 1, 0, 0, 0), (167, .if_icmp .ne 12, 3, 0, 0, 0), (170, .aload_n 0, 1, 0, 0, 0), (171, .iconst 2, 1, 0, 0, 0), (172, .iconst 2, 1, 0, 0, 0), (173, .iload_n 2, 1, 0, 0, 0), (174, .iload 4, 2, 0, 0, 0), (176, .invokevirtual 215, 3, 118, 4, 68), (179, .iinc 4 1, 3, 0, 0, 0), (182, .goto (-52), 3, 0, 0, 0), (185, .return_, 1, 0, 0, 0)]
def t_123 : i_T := (123, c_123, 6, none, 0, 0)
def c_124 : List i_X := [(0, .iconst 4, 1, 0, 0, 0), (1, .iload_n 1, 1, 0, 0, 0), (2, .imul, 1, 0, 0, 0), (3, .aload_n 0, 1, 0, 0, 0), (4, .getfield 147, 3, 10, 48, 46), (7, .bipush 48, 2, 0, 0, 0), (9, .iaload, 1, 0, 0, 0), (10, .iadd, 1, 0, 0, 0), (11, .istore_n 2, 1, 0, 0, 0), (12, .aload_n 0, 1, 0, 0, 0), (13, .getfield 150, 3, 10, 49, 47), (16, .bipush 48, 2, 0, 0, 0), (18, .iaload, 1, 0, 0, 0), (19, .aload_n 0, 1, 0, 0, 0), (20, .getfield 78, 3, 10, 24, 23), (23, .iload_n 2, 1, 0, 0, 0), (24, .iaload, 1, 0, 0, 0), (25, .if_icmp .gt 4, 3, 0, 0, 0), (28, .return_, 1, 0, 0, 0), (29, .aload_n 0, 1, 0, 0, 0), (30, .getfield 78, 3, 10, 24, 23), (33, .iload_n 2, 1, 0, 0, 0), (34, .aload_n 0, 1, 0, 0, 0), (35, .getfield 150, 3, 10, 49, 47), (38, .bipush 48, 2, 0, 0, 0), (40, .iaload, 1, 0, 0, 0), (41, .iastore, 1, 0, 0, 0), (42, .aload_n 0, 1, 0, 0, 0), (43, .getfield 75, 3, 10, 23, 22), (46, .iload_n 2, 1, 0, 0, 0), (47, .aload_n 0, 1, 0, 0, 0), (48, .getfield 150, 3, 10, 49, 47), (51, .bipush 48, 2, 0, 0, 0), (53, .iaload, 1, 0, 0, 0), (54, .iastore, 1, 0, 0, 0), (55, .aload_n 0, 1, 0, 0, 0), (56, .getfield 81, 3, 10, 25, 24), (59, .iload_n 2, 1, 0, 0, 0), (60, .aload_n 0, 1, 0, 0, 0), (61, .getfield 177, 3, 10, 58, 56), (64, .bipush 48, 2, 0, 0, 0), (66, .laload, 1, 0, 0, 0), (67, .lastore, 1, 0, 0, 0), (68, .return_, 1, 0, 0, 0)]
def t_124 : i_T := (124, c_124, 3, none, 0, 0)
def c_125 : List i_X := [(0, .bipush 16, 2, 0, 0, 0), (2, .iload_n 1, 1, 0, 0, 0), (3, .imul, 1, 0, 0, 0), (4, .aload_n 0, 1, 0, 0, 0), (5, .getfield 147, 3, 10, 48, 46), (8, .bipush 48, 2, 0, 0, 0), (10, .iaload, 1, 0, 0, 0), (11, .iadd, 1, 0, 0, 0), (12, .istore_n 2, 1, 0, 0, 0), (13, .aload_n 0, 1, 0, 0, 0), (14, .getfield 87, 3, 10, 27, 26), (17, .iload_n 2, 1, 0, 0, 0), (18, .baload, 1, 0, 0, 0), (19, .ifCond .eq 42, 3, 0, 0, 0), (22, .aload_n 0, 1, 0, 0, 0), (23, .getfield 111, 3, 10, 35, 34), (26, .iload_n 2, 1, 0, 0, 0), (27, .iaload, 1, 0, 0, 0), (28, .aload_n 0, 1, 0, 0, 0), (29, .getfield 150, 3, 10, 49, 47), (32, .bipush 48, 2, 0, 0, 0), (34, .iaload, 1, 0, 0, 0), (35, .if_icmp .ne 26, 3, 0, 0, 0), (38, .aload_n 0, 1, 0, 0, 0), (39, .getfield 114, 3, 10, 36, 35), (42, .iload_n 2, 1, 0, 0, 0), (43, .iaload, 1, 0, 0, 0), (44, .aload_n 0, 1, 0, 0, 0), (45, .getfield 153, 3, 10, 50, 48), (48, .bipush 48, 2, 0, 0, 0), (50, .iaload, 1, 0, 0, 0), (51, .if_icmp .ne 10, 3, 0, 0, 0), (54, .aload_n 0, 1, 0, 0, 0), (55, .getfield 117, 3, 10, 37, 36), (58, .iload_n 2, 1, 0, 0, 0), (59, .iconst 1, 1, 0, 0, 0), (60, .bastore, 1, 0, 0, 0), (61, .return_, 1, 0, 0, 0)]
def t_125 : i_T := (125, c_125, 3, none, 0, 0)
def c_126 : List i_X := [(0, .aload_n 0, 1, 0, 0, 0), (1, .getfield 40, 3, 10, 11, 11), (4, .iload_n 1, 1, 0, 0, 0), (5, .iaload, 1, 0, 0, 0), (6, .ifCond .ne 65, 3, 0, 0, 0), (9, .aload_n 0, 1, 0, 0, 0), (10, .getfield 150, 3, 10, 49, 47), (13, .bipush 48, 2, 0, 0, 0), (15, .iaload, 1, 0, 0, 0), (16, .aload_n 0, 1, 0, 0, 0), (17, .getfield 52, 3, 10, 15, 15), (20, .iload_n 1, 1, 0, 0, 0), (21, .iaload, 1, 0, 0, 0), (22, .if_icmp .lt 49, 3, 0, 0, 0), (25, .aload_n 0, 1, 0, 0, 0), (26, .getfield 40, 3, 10, 11, 11), (29, .iload_n 1, 1, 0, 0, 0), (30, .iconst 1, 1, 0, 0, 0), (31, .iastore, 1, 0, 0, 0), (32, .aload_n 0, 1, 0, 0, 0), (33, .getfield 43, 3, 10, 12, 12), (36, .iload_n 1, 1, 0, 0, 0), (37, .aload_n 0, 1, 0, 0, 0), (38, .getfield 147, 3, 10, 48, 46), (41, .bipush 48, 2, 0, 0, 0), (43, .iaload, 1, 0, 0, 0), (44, .iastore, 1, 0, 0, 0), (45, .aload_n 0, 1, 0, 0, 0), (46, .getfield 46, 3, 10, 13, 13), (49, .iload_n 1, 1, 0, 0, 0), (50, .aload_n 0, 1, 0, 0, 0), (51, .getfield 156, 3, 10, 51, 49), (54, .bipush 48, 2, 0, 0, 0), (56, .iaload, 1, 0, 0, 0), (57, .iastore, 1, 0, 0, 0), (58, .aload_n 0, 1, 0, 0, 0), (59, .getfield 52, 3, 10, 15, 15), (62, .iload_n 1, 1, 0, 0, 0), (63, .aload_n 0, 1, 0, 0, 0), (64, .getfield 150, 3, 10, 49, 47), (67, .bipush 48, 2, 0, 0, 0), (69, .iaload, 1, 0, 0, 0), (70, .iastore, 1, 0, 0, 0), (71, .aload_n 0, 1, 0, 0, 0), (72, .iload_n 1, 1, 0, 0, 0), (73, .invokevirtual 219, 3, 122, 1, 69), (76, .return_, 1, 0, 0, 0)]
def t_126 : i_T := (126, c_126, 2, none, 0, 0)
def c_127 : List i_X := [(0, .bipush 6, 2, 0, 0, 0), (2, .iload_n 1, 1, 0, 0, 0), (3, .imul, 1, 0, 0, 0), (4, .aload_n 0, 1, 0, 0, 0), (5, .getfield 147, 3, 10, 48, 46), (8, .bipush 48, 2, 0, 0, 0), (10, .iaload, 1, 0, 0, 0), (11, .iadd, 1, 0, 0, 0), (12, .istore_n 2, 1, 0, 0, 0), (13, .aload_n 0, 1, 0, 0, 0), (14, .getfield 120, 3, 10, 38, 37), (17, .iload_n 2, 1, 0, 0, 0), (18, .baload, 1, 0, 0, 0), (19, .ifCond .eq 20, 3, 0, 0, 0), (22, .aload_n 0, 1, 0, 0, 0), (23, .getfield 150, 3, 10, 49, 47), (26, .bipush 48, 2, 0, 0, 0), (28, .iaload, 1, 0, 0, 0), (29, .aload_n 0, 1, 0, 0, 0), (30, .getfield 132, 3, 10, 42, 41), (33, .iload_n 2, 1, 0, 0, 0), (34, .iaload, 1, 0, 0, 0), (35, .if_icmp .gt 4, 3, 0, 0, 0), (38, .return_, 1, 0, 0, 0), (39, .aload_n 0, 1, 0, 0, 0), (40, .getfield 120, 3, 10, 38, 37), (43, .iload_n 2, 1, 0, 0, 0), (44, .iconst 1, 1, 0, 0, 0), (45, .bastore, 1, 0, 0, 0), (46, .aload_n 0, 1, 0, 0, 0), (47, .getfield 132, 3, 10, 42, 41), (50, .iload_n 2, 1, 0, 0, 0), (51, .aload_n 0, 1, 0, 0, 0), (52, .getfield 150, 3, 10, 49, 47), (55, .bipush 48, 2, 0, 0, 0), (57, .iaload, 1, 0, 0, 0), (58, .iastore, 1, 0, 0, 0), (59, .aload_n 0, 1, 0, 0, 0), (60, .getfield 123, 3, 10, 39, 38), (63, .iload_n 2, 1, 0, 0, 0), (64, .aload_n 0, 1, 0, 0, 0), (65, .getfield 168, 3, 10, 55, 53), (68, .bipush 48, 2, 0, 0, 0), (70, .iaload, 1, 0, 0, 0), (71, .iastore, 1, 0, 0, 0), (72, .aload_n 0, 1, 0, 0, 0), (73, .getfield 126, 3, 10, 40, 39), (76, .iload_n 2, 1, 0, 0, 0), (77, .aload_n 0, 1, 0, 0, 0), (78, .getfield 156, 3, 10, 51, 49), (81, .bipush 48, 2, 0, 0, 0), (83, .iaload, 1, 0, 0, 0), (84, .iastore, 1, 0, 0, 0), (85, .aload_n 0, 1, 0, 0, 0), (86, .getfield 129, 3, 10, 41, 40), (89, .iload_n 2, 1, 0, 0, 0), (90, .aload_n 0, 1, 0, 0, 0), (91, .getfield 171, 3, 10, 56, 54), (94, .bipush 48, 2, 0, 0, 0), (96, .iaload, 1, 0, 0, 0), (97, .iastore, 1, 0, 0, 0), (98, .aload_n 0, 1, 0, 0, 0), (99, .getfield 135, 3, 10, 43, 42), (102, .iload_n 2, 1, 0, 0, 0), (103, .iconst 0, 1, 0, 0, 0), (104, .bastore, 1, 0, 0, 0), (105, .return_, 1, 0, 0, 0)]
def t_127 : i_T := (127, c_127, 3, none, 0, 0)
def c_128 : List i_X := [(0, .iload_n 1, 1, 0, 0, 0), (1, .iconst 2, 1, 0, 0, 0), (2, .if_icmp .ge 13, 3, 0, 0, 0), (5, .aload_n 0, 1, 0, 0, 0), (6, .getfield 62, 3, 10, 18, 18), (9, .iload_n 1, 1, 0, 0, 0), (10, .baload, 1, 0, 0, 0), (11, .ifCond .eq 4, 3, 0, 0, 0), (14, .return_, 1, 0, 0, 0), (15, .aload_n 0, 1, 0, 0, 0), (16, .getfield 138, 3, 10, 45, 43), (19, .bipush 48, 2, 0, 0, 0), (21, .iaload, 1, 0, 0, 0), (22, .tableswitch 120 0 6 #[42, 49, 57, 81, 89, 102, 112], 42, 0, 0, 0), (64, .aload_n 0, 1, 0, 0, 0), (65, .invokevirtual 223, 3, 123, 0, 70), (68, .goto 116, 3, 0, 0, 0), (71, .aload_n 0, 1, 0, 0, 0), (72, .iload_n 1, 1, 0, 0, 0), (73, .invokevirtual 226, 3, 124, 1, 71), (76, .goto 108, 3, 0, 0, 0), (79, .aload_n 0, 1, 0, 0, 0), (80, .iload_n 1, 1, 0, 0, 0), (81, .invokevirtual 229, 3, 119, 1, 72), (84, .aload_n 0, 1, 0, 0, 0), (85, .getfield 141, 3, 10, 46, 44), (88, .bipush 48, 2, 0, 0, 0), (90, .iaload, 1, 0, 0, 0), (91, .iconst 2, 1, 0, 0, 0), (92, .if_icmp .ge 92, 3, 0, 0, 0), (95, .aload_n 0, 1, 0, 0, 0), (96, .iload_n 1, 1, 0, 0, 0), (97, .invokevirtual 232, 3, 120, 1, 73), (100, .goto 84, 3, 0, 0, 0), (103, .aload_n 0, 1, 0, 0, 0), (104, .iload_n 1, 1, 0, 0, 0), (105, .invokevirtual 235, 3, 125, 1, 74), (108, .goto 76, 3, 0, 0, 0), (111, .aload_n 0, 1, 0, 0, 0), (112, .iconst 2, 1, 0, 0, 0), (113, .invokevirtual 229, 3, 119, 1, 72), (116, .aload_n 0, 1, 0, 0, 0), (117, .iconst 2, 1, 0, 0, 0), (118, .invokevirtual 232, 3, 120, 1, 73), (121, .goto 63, 3, 0, 0, 0), (124, .aload_n 0, 1, 0, 0, 0), (125, .iload_n 1, 1, 0, 0, 0), (126, .iconst 3, 1, 0, 0, 0), (127, .isub, 1, 0, 0, 0), (128, .invokevirtual 238, 3, 126, 1, 75), (131, .goto 53, 3, 0, 0, 0), (134, .aload_n 0, 1, 0, 0, 0), (135, .iload_n 1, 1, 0, 0, 0), (136, .invokevirtual 241, 3, 127, 1, 76), (139, .goto 45, 3, 0, 0, 0), (142, .iconst 0, 1, 0, 0, 0), (143, .istore_n 2, 1, 0, 0, 0), (144, .iload_n 2, 1, 0, 0, 0), (145, .bipush 16, 2, 0, 0, 0), (147, .if_icmp .ge 37, 3, 0, 0, 0), (150, .aload_n 0, 1, 0, 0, 0), (151, .getfield 87, 3, 10, 27, 26), (154, .bipush 16, 2, 0, 0, 0), (156, .iload_n 1, 1, 0, 0, 0), (157, .imul, 1, 0, 0, 0), (158, .iload_n 2, 1, 0, 0, 0), (159, .iadd, 1, 0, 0, 0), (160, .baload, 1, 0, 0, 0), (161, .ifCond .eq 17, 3, 0, 0, 0), (164, .aload_n 0, 1, 0, 0, 0), (165, .iconst 2, 1, 0, 0, 0), (166, .iload_n 1, 1, 0, 0, 0), (167, .aload_n 0, 1, 0, 0, 0), (168, .getfield 141, 3, 10, 46, 44), (171, .bipush 48, 2, 0, 0, 0), (173, .iaload, 1, 0, 0, 0), (174, .iload_n 2, 1, 0, 0, 0), (175, .invokevirtual 215, 3, 118, 4, 68), (178, .iinc 2 1, 3, 0, 0, 0), (181, .goto (-37), 3, 0, 0, 0), (184, .return_, 1, 0, 0, 0)]
def t_128 : i_T := (128, c_128, 3, none, 0, 0)
def c_129 : List i_X := [(0, .iload_n 1, 1, 0, 0, 0), (1, .ifCond .lt 11, 3, 0, 0, 0), (4, .iload_n 1, 1, 0, 0, 0), (5, .aload_n 0, 1, 0, 0, 0), (6, .getfield 199, 3, 10, 44, 63), (9, .if_icmp .lt 5, 3, 0, 0, 0), (12, .iconst 0, 1, 0, 0, 0), (13, .ireturn, 1, 0, 0, 0), (14, .aload_n 0, 1, 0, 0, 0), (15, .iload_n 1, 1, 0, 0, 0), (16, .bipush 48, 2, 0, 0, 0), (18, .invokevirtual 244, 3, 116, 2, 77), (21, .aload_n 0, 1, 0, 0, 0), (22, .dup, 1, 0, 0, 0), (23, .getfield 199, 3, 10, 44, 63), (26, .iconst 1, 1, 0, 0, 0), (27, .isub, 1, 0, 0, 0), (28, .putfield 199, 3, 10, 44, 63), (31, .iload_n 1, 1, 0, 0, 0), (32, .istore_n 2, 1, 0, 0, 0), (33, .iload_n 2, 1, 0, 0, 0), (34, .aload_n 0, 1, 0, 0, 0), (35, .getfield 199, 3, 10, 44, 63), (38, .if_icmp .ge 17, 3, 0, 0, 0), (41, .aload_n 0, 1, 0, 0, 0), (42, .iload_n 2, 1, 0, 0, 0), (43, .iconst 1, 1, 0, 0, 0), (44, .iadd, 1, 0, 0, 0), (45, .iload_n 2, 1, 0, 0, 0), (46, .invokevirtual 244, 3, 116, 2, 77), (49, .iinc 2 1, 3, 0, 0, 0), (52, .goto (-19), 3, 0, 0, 0), (55, .iconst 1, 1, 0, 0, 0), (56, .ireturn, 1, 0, 0, 0)]
def t_129 : i_T := (129, c_129, 3, (some .boolean), 0, 0)
def c_130 : List i_X := [(0, .aload_n 0, 1, 0, 0, 0), (1, .iconst 0, 1, 0, 0, 0), (2, .putfield 180, 3, 10, 59, 57), (5, .aload_n 0, 1, 0, 0, 0), (6, .iload_n 1, 1, 0, 0, 0), (7, .invokevirtual 247, 3, 129, 1, 78), (10, .ifCond .ne 5, 3, 0, 0, 0), (13, .iconst 0, 1, 0, 0, 0), (14, .ireturn, 1, 0, 0, 0), (15, .aload_n 0, 1, 0, 0, 0), (16, .aload_n 0, 1, 0, 0, 0), (17, .getfield 144, 3, 10, 47, 45), (20, .bipush 48, 2, 0, 0, 0), (22, .iaload, 1, 0, 0, 0), (23, .invokevirtual 250, 3, 128, 1, 79), (26, .iconst 1, 1, 0, 0, 0), (27, .ireturn, 1, 0, 0, 0)]
def t_130 : i_T := (130, c_130, 2, (some .boolean), 0, 0)
def c_131 : List i_X := [(0, .aload_n 0, 1, 0, 0, 0), (1, .iconst 0, 1, 0, 0, 0), (2, .putfield 180, 3, 10, 59, 57), (5, .aload_n 0, 1, 0, 0, 0), (6, .iload_n 1, 1, 0, 0, 0), (7, .invokevirtual 247, 3, 129, 1, 78), (10, .ireturn, 1, 0, 0, 0)]
def t_131 : i_T := (131, c_131, 2, (some .boolean), 0, 0)
def c_132 : List i_X := [(0, .aload_n 0, 1, 0, 0, 0), (1, .iconst 0, 1, 0, 0, 0), (2, .putfield 180, 3, 10, 59, 57), (5, .iload_n 1, 1, 0, 0, 0), (6, .ifCond .lt 20, 3, 0, 0, 0), (9, .iload_n 1, 1, 0, 0, 0), (10, .aload_n 0, 1, 0, 0, 0), (11, .getfield 199, 3, 10, 44, 63), (14, .if_icmp .ge 12, 3, 0, 0, 0), (17, .aload_n 0, 1, 0, 0, 0), (18, .getfield 199, 3, 10, 44, 63), (21, .bipush 48, 2, 0, 0, 0), (23, .if_icmp .ne 5, 3, 0, 0, 0), (26, .iconst 0, 1, 0, 0, 0), (27, .ireturn, 1, 0, 0, 0), (28, .aload_n 0, 1, 0, 0, 0), (29, .iload_n 1, 1, 0, 0, 0), (30, .aload_n 0, 1, 0, 0, 0), (31, .getfield 199, 3, 10, 44, 63), (34, .invokevirtual 244, 3, 116, 2, 77), (37, .aload_n 0, 1, 0, 0, 0), (38, .dup, 1, 0, 0, 0), (39, .getfield 199, 3, 10, 44, 63), (42, .iconst 1, 1, 0, 0, 0), (43, .iadd, 1, 0, 0, 0), (44, .putfield 199, 3, 10, 44, 63), (47, .iconst 1, 1, 0, 0, 0), (48, .ireturn, 1, 0, 0, 0)]
def t_132 : i_T := (132, c_132, 2, (some .boolean), 0, 0)
def c_133 : List i_X := [(0, .aload_n 0, 1, 0, 0, 0), (1, .iconst 0, 1, 0, 0, 0), (2, .putfield 180, 3, 10, 59, 57), (5, .aload_n 0, 1, 0, 0, 0), (6, .getfield 199, 3, 10, 44, 63), (9, .ireturn, 1, 0, 0, 0)]
def t_133 : i_T := (133, c_133, 1, (some .int), 0, 0)
def c_134 : List i_X := [(0, .aload_n 0, 1, 0, 0, 0), (1, .iconst 0, 1, 0, 0, 0), (2, .putfield 180, 3, 10, 59, 57), (5, .iload_n 1, 1, 0, 0, 0), (6, .ifCond .lt 11, 3, 0, 0, 0), (9, .iload_n 1, 1, 0, 0, 0), (10, .aload_n 0, 1, 0, 0, 0), (11, .getfield 199, 3, 10, 44, 63), (14, .if_icmp .lt 5, 3, 0, 0, 0), (17, .iconst (-1), 1, 0, 0, 0), (18, .ireturn, 1, 0, 0, 0), (19, .iload_n 2, 1, 0, 0, 0), (20, .ifCond .ne 12, 3, 0, 0, 0), (23, .aload_n 0, 1, 0, 0, 0), (24, .getfield 138, 3, 10, 45, 43), (27, .iload_n 1, 1, 0, 0, 0), (28, .iaload, 1, 0, 0, 0), (29, .goto 60, 3, 0, 0, 0), (32, .iload_n 2, 1, 0, 0, 0), (33, .iconst 1, 1, 0, 0, 0), (34, .if_icmp .ne 12, 3, 0, 0, 0), (37, .aload_n 0, 1, 0, 0, 0), (38, .getfield 141, 3, 10, 46, 44), (41, .iload_n 1, 1, 0, 0, 0), (42, .iaload, 1, 0, 0, 0), (43, .goto 46, 3, 0, 0, 0), (46, .iload_n 2, 1, 0, 0, 0), (47, .iconst 2, 1, 0, 0, 0), (48, .if_icmp .ne 12, 3, 0, 0, 0), (51, .aload_n 0, 1, 0, 0, 0), (52, .getfield 144, 3, 10, 47, 45), (55, .iload_n 1, 1, 0, 0, 0), (56, .iaload, 1, 0, 0, 0), (57, .goto 32, 3, 0, 0, 0), (60, .iload_n 2, 1, 0, 0, 0), (61, .iconst 3, 1, 0, 0, 0), (62, .if_icmp .ne 12, 3, 0, 0, 0), (65, .aload_n 0, 1, 0, 0, 0), (66, .getfield 147, 3, 10, 48, 46), (69, .iload_n 1, 1, 0, 0, 0), (70, .iaload, 1, 0, 0, 0), (71, .goto 18, 3, 0, 0, 0), (74, .iload_n 2, 1, 0, 0, 0), (75, .iconst 4, 1, 0, 0, 0), (76, .if_icmp .ne 12, 3, 0, 0, 0), (79, .aload_n 0, 1, 0, 0, 0), (80, .getfield 150, 3, 10, 49, 47), (83, .iload_n 1, 1, 0, 0, 0), (84, .iaload, 1, 0, 0, 0), (85, .goto 4, 3, 0, 0, 0), (88, .iconst (-1), 1, 0, 0, 0), (89, .ireturn, 1, 0, 0, 0)]
def t_134 : i_T := (134, c_134, 3, (some .int), 0, 0)
def c_135 : List i_X := [(0, .aload_n 0, 1, 0, 0, 0), (1, .iconst 0, 1, 0, 0, 0), (2, .putfield 180, 3, 10, 59, 57), (5, .iload_n 1, 1, 0, 0, 0), (6, .invokestatic 253, 3, 109, 2, 80), (9, .ifCond .eq 38, 3, 0, 0, 0), (12, .iload_n 2, 1, 0, 0, 0), (13, .invokestatic 188, 3, 107, 2, 59), (16, .ifCond .eq 31, 3, 0, 0, 0), (19, .iload_n 3, 1, 0, 0, 0), (20, .iconst 0, 1, 0, 0, 0), (21, .iconst 2, 1, 0, 0, 0), (22, .invokestatic 184, 3, 106, 4, 58), (25, .ifCond .eq 22, 3, 0, 0, 0), (28, .aload_n 0, 1, 0, 0, 0), (29, .getfield 40, 3, 10, 11, 11), (32, .iload_n 1, 1, 0, 0, 0), (33, .iaload, 1, 0, 0, 0), (34, .ifCond .eq 15, 3, 0, 0, 0), (37, .aload_n 0, 1, 0, 0, 0), (38, .getfield 40, 3, 10, 11, 11), (41, .iload_n 1, 1, 0, 0, 0), (42, .iaload, 1, 0, 0, 0), (43, .iconst 3, 1, 0, 0, 0), (44, .if_icmp .eq 5, 3, 0, 0, 0), (47, .iconst 0, 1, 0, 0, 0), (48, .ireturn, 1, 0, 0, 0), (49, .aload_n 0, 1, 0, 0, 0), (50, .getfield 34, 3, 10, 9, 9), (53, .iload_n 1, 1, 0, 0, 0), (54, .iload_n 2, 1, 0, 0, 0), (55, .iastore, 1, 0, 0, 0), (56, .aload_n 0, 1, 0, 0, 0), (57, .getfield 37, 3, 10, 10, 10), (60, .iload_n 1, 1, 0, 0, 0), (61, .iload_n 3, 1, 0, 0, 0), (62, .iastore, 1, 0, 0, 0), (63, .iconst 1, 1, 0, 0, 0), (64, .ireturn, 1, 0, 0, 0)]
def t_135 : i_T := (135, c_135, 4, (some .boolean), 0, 0)
def c_136 : List i_X := [(0, .aload_n 0, 1, 0, 0, 0), (1, .iconst 0, 1, 0, 0, 0), (2, .putfield 180, 3, 10, 59, 57), (5, .iload_n 1, 1, 0, 0, 0), (6, .invokestatic 253, 3, 109, 2, 80), (9, .ifCond .eq 12, 3, 0, 0, 0), (12, .iload_n 2, 1, 0, 0, 0), (13, .iconst 0, 1, 0, 0, 0), (14, .iconst 3, 1, 0, 0, 0), (15, .invokestatic 184, 3, 106, 4, 58), (18, .ifCond .ne 5, 3, 0, 0, 0), (21, .iconst 0, 1, 0, 0, 0), (22, .ireturn, 1, 0, 0, 0), (23, .aload_n 0, 1, 0, 0, 0), (24, .getfield 40, 3, 10, 11, 11), (27, .iload_n 1, 1, 0, 0, 0), (28, .iaload, 1, 0, 0, 0), (29, .istore_n 3, 1, 0, 0, 0), (30, .iload_n 2, 1, 0, 0, 0), (31, .iload_n 3, 1, 0, 0, 0), (32, .if_icmp .eq 40, 3, 0, 0, 0), (35, .iload_n 3, 1, 0, 0, 0), (36, .ifCond .ne 8, 3, 0, 0, 0), (39, .iload_n 2, 1, 0, 0, 0), (40, .iconst 3, 1, 0, 0, 0), (41, .if_icmp .eq 31, 3, 0, 0, 0), (44, .iload_n 3, 1, 0, 0, 0), (45, .iconst 3, 1, 0, 0, 0), (46, .if_icmp .ne 7, 3, 0, 0, 0), (49, .iload_n 2, 1, 0, 0, 0), (50, .ifCond .eq 22, 3, 0, 0, 0), (53, .iload_n 3, 1, 0, 0, 0), (54, .iconst 1, 1, 0, 0, 0), (55, .if_icmp .ne 8, 3, 0, 0, 0), (58, .iload_n 2, 1, 0, 0, 0), (59, .iconst 2, 1, 0, 0, 0), (60, .if_icmp .eq 12, 3, 0, 0, 0), (63, .iload_n 3, 1, 0, 0, 0), (64, .iconst 2, 1, 0, 0, 0), (65, .if_icmp .ne 11, 3, 0, 0, 0), (68, .iload_n 2, 1, 0, 0, 0), (69, .ifCond .ne 7, 3, 0, 0, 0), (72, .iconst 1, 1, 0, 0, 0), (73, .goto 4, 3, 0, 0, 0), (76, .iconst 0, 1, 0, 0, 0), (77, .istore 4, 2, 0, 0, 0), (79, .iload 4, 2, 0, 0, 0), (81, .ifCond .ne 5, 3, 0, 0, 0), (84, .iconst 0, 1, 0, 0, 0), (85, .ireturn, 1, 0, 0, 0), (86, .iload_n 3, 1, 0, 0, 0), (87, .iconst 1, 1, 0, 0, 0), (88, .if_icmp .ne 20, 3, 0, 0, 0), (91, .iload_n 2, 1, 0, 0, 0), (92, .iconst 2, 1, 0, 0, 0), (93, .if_icmp .ne 15, 3, 0, 0, 0), (96, .aload_n 0, 1, 0, 0, 0), (97, .getfield 34, 3, 10, 9, 9), (100, .iload_n 1, 1, 0, 0, 0), (101, .aload_n 0, 1, 0, 0, 0), (102, .getfield 46, 3, 10, 13, 13), (105, .iload_n 1, 1, 0, 0, 0), (106, .iaload, 1, 0, 0, 0), (107, .iastore, 1, 0, 0, 0), (108, .iload_n 3, 1, 0, 0, 0), (109, .iconst 2, 1, 0, 0, 0), (110, .if_icmp .ne 14, 3, 0, 0, 0), (113, .iload_n 2, 1, 0, 0, 0), (114, .ifCond .ne 10, 3, 0, 0, 0), (117, .aload_n 0, 1, 0, 0, 0), (118, .getfield 43, 3, 10, 12, 12), (121, .iload_n 1, 1, 0, 0, 0), (122, .iconst (-1), 1, 0, 0, 0), (123, .iastore, 1, 0, 0, 0), (124, .aload_n 0, 1, 0, 0, 0), (125, .getfield 40, 3, 10, 11, 11), (128, .iload_n 1, 1, 0, 0, 0), (129, .iload_n 2, 1, 0, 0, 0), (130, .iastore, 1, 0, 0, 0), (131, .aload_n 0, 1, 0, 0, 0), (132, .iload_n 1, 1, 0, 0, 0), (133, .invokevirtual 219, 3, 122, 1, 69), (136, .iconst 1, 1, 0, 0, 0), (137, .ireturn, 1, 0, 0, 0)]
def t_136 : i_T := (136, c_136, 5, (some .boolean), 0, 0)
def c_137 : List i_X := [(0, .aload_n 0, 1, 0, 0, 0), (1, .iconst 0, 1, 0, 0, 0), (2, .putfield 180, 3, 10, 59, 57), (5, .iload_n 1, 1, 0, 0, 0), (6, .invokestatic 256, 3, 108, 2, 81), (9, .ifCond .eq 14, 3, 0, 0, 0), (12, .iload_n 2, 1, 0, 0, 0), (13, .bipush 49, 2, 0, 0, 0), (15, .bipush 51, 2, 0, 0, 0), (17, .invokestatic 184, 3, 106, 4, 58), (20, .ifCond .ne 5, 3, 0, 0, 0), (23, .iconst 0, 1, 0, 0, 0), (24, .ireturn, 1, 0, 0, 0), (25, .aload_n 0, 1, 0, 0, 0), (26, .getfield 59, 3, 10, 17, 17), (29, .iload_n 1, 1, 0, 0, 0), (30, .iload_n 2, 1, 0, 0, 0), (31, .iastore, 1, 0, 0, 0), (32, .iconst 1, 1, 0, 0, 0), (33, .ireturn, 1, 0, 0, 0)]
def t_137 : i_T := (137, c_137, 3, (some .boolean), 0, 0)
def c_138 : List i_X := [(0, .aload_n 0, 1, 0, 0, 0), (1, .iload_n 1, 1, 0, 0, 0), (2, .iconst 0, 1, 0, 0, 0), (3, .sipush 1000, 3, 0, 0, 0), (6, .invokestatic 184, 3, 106, 4, 58), (9, .ifCond .eq 7, 3, 0, 0, 0), (12, .iconst 0, 1, 0, 0, 0), (13, .goto 4, 3, 0, 0, 0), (16, .iconst 1, 1, 0, 0, 0), (17, .putfield 180, 3, 10, 59, 57), (20, .aload_n 0, 1, 0, 0, 0), (21, .getfield 180, 3, 10, 59, 57), (24, .ifCond .eq 5, 3, 0, 0, 0), (27, .lconst 0, 1, 0, 0, 0), (28, .lreturn, 1, 0, 0, 0), (29, .iconst 0, 1, 0, 0, 0), (30, .istore_n 2, 1, 0, 0, 0), (31, .iload_n 2, 1, 0, 0, 0), (32, .iconst 3, 1, 0, 0, 0), (33, .if_icmp .ge 28, 3, 0, 0, 0), (36, .aload_n 0, 1, 0, 0, 0), (37, .getfield 55, 3, 10, 16, 16), (40, .iload_n 2, 1, 0, 0, 0), (41, .dup2, 1, 0, 0, 0), (42, .laload, 1, 0, 0, 0), (43, .iload_n 1, 1, 0, 0, 0), (44, .i2l, 1, 0, 0, 0), (45, .aload_n 0, 1, 0, 0, 0), (46, .getfield 59, 3, 10, 17, 17), (49, .iload_n 2, 1, 0, 0, 0), (50, .iaload, 1, 0, 0, 0), (51, .i2l, 1, 0, 0, 0), (52, .lmul, 1, 0, 0, 0), (53, .ladd, 1, 0, 0, 0), (54, .lastore, 1, 0, 0, 0), (55, .iinc 2 1, 3, 0, 0, 0), (58, .goto (-27), 3, 0, 0, 0), (61, .aload_n 0, 1, 0, 0, 0), (62, .getfield 55, 3, 10, 16, 16), (65, .iconst 2, 1, 0, 0, 0), (66, .laload, 1, 0, 0, 0), (67, .lreturn, 1, 0, 0, 0)]
def t_138 : i_T := (138, c_138, 3, (some .long), 0, 0)
def c_139 : List i_X := [(0, .aload_n 0, 1, 0, 0, 0), (1, .iload_n 1, 1, 0, 0, 0), (2, .invokestatic 256, 3, 108, 2, 81), (5, .ifCond .eq 10, 3, 0, 0, 0), (8, .iload_n 2, 1, 0, 0, 0), (9, .invokestatic 195, 3, 110, 2, 61), (12, .ifCond .ne 7, 3, 0, 0, 0), (15, .iconst 1, 1, 0, 0, 0), (16, .goto 17, 3, 0, 0, 0), (19, .aload_n 0, 1, 0, 0, 0), (20, .getfield 62, 3, 10, 18, 18), (23, .iload_n 1, 1, 0, 0, 0), (24, .baload, 1, 0, 0, 0), (25, .ifCond .eq 7, 3, 0, 0, 0), (28, .iconst 2, 1, 0, 0, 0), (29, .goto 4, 3, 0, 0, 0), (32, .iconst 0, 1, 0, 0, 0), (33, .putfield 180, 3, 10, 59, 57), (36, .aload_n 0, 1, 0, 0, 0), (37, .getfield 180, 3, 10, 59, 57), (40, .ifCond .eq 4, 3, 0, 0, 0), (43, .return_, 1, 0, 0, 0), (44, .aload_n 0, 1, 0, 0, 0), (45, .iconst 0, 1, 0, 0, 0), (46, .iload_n 1, 1, 0, 0, 0), (47, .iconst 2, 1, 0, 0, 0), (48, .iload_n 2, 1, 0, 0, 0), (49, .iconst 0, 1, 0, 0, 0), (50, .invokevirtual 202, 3, 117, 5, 64), (53, .istore_n 3, 1, 0, 0, 0), (54, .iload_n 3, 1, 0, 0, 0), (55, .iconst (-1), 1, 0, 0, 0), (56, .if_icmp .eq 15, 3, 0, 0, 0), (59, .aload_n 0, 1, 0, 0, 0), (60, .getfield 177, 3, 10, 58, 56), (63, .iload_n 3, 1, 0, 0, 0), (64, .aload_n 0, 1, 0, 0, 0), (65, .getfield 55, 3, 10, 16, 16), (68, .iload_n 1, 1, 0, 0, 0), (69, .laload, 1, 0, 0, 0), (70, .lastore, 1, 0, 0, 0), (71, .return_, 1, 0, 0, 0)]
def t_139 : i_T := (139, c_139, 4, none, 0, 0)
def c_140 : List i_X := [(0, .iconst 4, 1, 0, 0, 0), (1, .iload_n 1, 1, 0, 0, 0), (2, .imul, 1, 0, 0, 0), (3, .iload_n 2, 1, 0, 0, 0), (4, .iadd, 1, 0, 0, 0), (5, .istore_n 3, 1, 0, 0, 0), (6, .aload_n 0, 1, 0, 0, 0), (7, .getfield 62, 3, 10, 18, 18), (10, .iload_n 1, 1, 0, 0, 0), (11, .baload, 1, 0, 0, 0), (12, .ifCond .ne 41, 3, 0, 0, 0), (15, .aload_n 0, 1, 0, 0, 0), (16, .getfield 75, 3, 10, 23, 22), (19, .iload_n 3, 1, 0, 0, 0), (20, .iaload, 1, 0, 0, 0), (21, .ifCond .le 32, 3, 0, 0, 0), (24, .aload_n 0, 1, 0, 0, 0), (25, .getfield 55, 3, 10, 16, 16), (28, .iload_n 1, 1, 0, 0, 0), (29, .laload, 1, 0, 0, 0), (30, .aload_n 0, 1, 0, 0, 0), (31, .getfield 81, 3, 10, 25, 24), (34, .iload_n 3, 1, 0, 0, 0), (35, .laload, 1, 0, 0, 0), (36, .lsub, 1, 0, 0, 0), (37, .ldc2_w 259, 3, 2000, 0, 82), (40, .lcmp, 1, 0, 0, 0), (41, .ifCond .ge 12, 3, 0, 0, 0), (44, .aload_n 0, 1, 0, 0, 0), (45, .getfield 75, 3, 10, 23, 22), (48, .iload_n 3, 1, 0, 0, 0), (49, .iaload, 1, 0, 0, 0), (50, .goto 4, 3, 0, 0, 0), (53, .iconst 0, 1, 0, 0, 0), (54, .ireturn, 1, 0, 0, 0)]
def t_140 : i_T := (140, c_140, 4, (some .int), 0, 0)
def c_141 : List i_X := [(0, .aload_n 0, 1, 0, 0, 0), (1, .iconst 0, 1, 0, 0, 0), (2, .putfield 180, 3, 10, 59, 57), (5, .iload_n 1, 1, 0, 0, 0), (6, .invokestatic 256, 3, 108, 2, 81), (9, .ifCond .eq 19, 3, 0, 0, 0), (12, .iload_n 2, 1, 0, 0, 0), (13, .invokestatic 195, 3, 110, 2, 61), (16, .ifCond .eq 12, 3, 0, 0, 0), (19, .aload_n 0, 1, 0, 0, 0), (20, .iload_n 1, 1, 0, 0, 0), (21, .iload_n 2, 1, 0, 0, 0), (22, .invokevirtual 261, 3, 140, 2, 83), (25, .goto 4, 3, 0, 0, 0), (28, .iconst 0, 1, 0, 0, 0), (29, .ireturn, 1, 0, 0, 0)]
def t_141 : i_T := (141, c_141, 3, (some .int), 0, 0)
def c_142 : List i_X := [(0, .aload_n 0, 1, 0, 0, 0), (1, .iload_n 1, 1, 0, 0, 0), (2, .aload_n 0, 1, 0, 0, 0), (3, .getfield 13, 3, 10, 2, 2), (6, .aload_n 0, 1, 0, 0, 0), (7, .getfield 90, 3, 10, 28, 27), (10, .bipush 16, 2, 0, 0, 0), (12, .iload_n 1, 1, 0, 0, 0), (13, .imul, 1, 0, 0, 0), (14, .iload_n 2, 1, 0, 0, 0), (15, .iadd, 1, 0, 0, 0), (16, .iaload, 1, 0, 0, 0), (17, .iaload, 1, 0, 0, 0), (18, .invokevirtual 261, 3, 140, 2, 83), (21, .ireturn, 1, 0, 0, 0)]
def t_142 : i_T := (142, c_142, 3, (some .int), 0, 0)
def c_143 : List i_X := [(0, .iload_n 1, 1, 0, 0, 0), (1, .invokestatic 256, 3, 108, 2, 81), (4, .ifCond .eq 31, 3, 0, 0, 0), (7, .iload_n 2, 1, 0, 0, 0), (8, .iconst 0, 1, 0, 0, 0), (9, .bipush 15, 2, 0, 0, 0), (11, .invokestatic 184, 3, 106, 4, 58), (14, .ifCond .eq 21, 3, 0, 0, 0), (17, .aload_n 0, 1, 0, 0, 0), (18, .getfield 87, 3, 10, 27, 26), (21, .bipush 16, 2, 0, 0, 0), (23, .iload_n 1, 1, 0, 0, 0), (24, .imul, 1, 0, 0, 0), (25, .iload_n 2, 1, 0, 0, 0), (26, .iadd, 1, 0, 0, 0), (27, .baload, 1, 0, 0, 0), (28, .ifCond .eq 7, 3, 0, 0, 0), (31, .iconst 1, 1, 0, 0, 0), (32, .goto 4, 3, 0, 0, 0), (35, .iconst 0, 1, 0, 0, 0), (36, .ireturn, 1, 0, 0, 0)]
def t_143 : i_T := (143, c_143, 3, (some .boolean), 0, 0)
def c_144 : List i_X := [(0, .bipush 16, 2, 0, 0, 0), (2, .iload_n 1, 1, 0, 0, 0), (3, .imul, 1, 0, 0, 0), (4, .iload_n 2, 1, 0, 0, 0), (5, .iadd, 1, 0, 0, 0), (6, .istore_n 3, 1, 0, 0, 0), (7, .aload_n 0, 1, 0, 0, 0), (8, .iload_n 1, 1, 0, 0, 0), (9, .iload_n 2, 1, 0, 0, 0), (10, .invokevirtual 265, 3, 142, 2, 84), (13, .istore 4, 2, 0, 0, 0), (15, .aload_n 0, 1, 0, 0, 0), (16, .getfield 114, 3, 10, 36, 35), (19, .iload_n 3, 1, 0, 0, 0), (20, .aload_n 0, 1, 0, 0, 0), (21, .getfield 111, 3, 10, 35, 34), (24, .iload_n 3, 1, 0, 0, 0), (25, .iaload, 1, 0, 0, 0), (26, .iload 4, 2, 0, 0, 0), (28, .if_icmp .ne 14, 3, 0, 0, 0), (31, .aload_n 0, 1, 0, 0, 0), (32, .getfield 114, 3, 10, 36, 35), (35, .iload_n 3, 1, 0, 0, 0), (36, .iaload, 1, 0, 0, 0), (37, .iconst 1, 1, 0, 0, 0), (38, .iadd, 1, 0, 0, 0), (39, .goto 4, 3, 0, 0, 0), (42, .iconst 1, 1, 0, 0, 0), (43, .iastore, 1, 0, 0, 0), (44, .aload_n 0, 1, 0, 0, 0), (45, .getfield 111, 3, 10, 35, 34), (48, .iload_n 3, 1, 0, 0, 0), (49, .iload 4, 2, 0, 0, 0), (51, .iastore, 1, 0, 0, 0), (52, .aload_n 0, 1, 0, 0, 0), (53, .getfield 117, 3, 10, 37, 36), (56, .iload_n 3, 1, 0, 0, 0), (57, .iconst 0, 1, 0, 0, 0), (58, .bastore, 1, 0, 0, 0), (59, .aload_n 0, 1, 0, 0, 0), (60, .iconst 2, 1, 0, 0, 0), (61, .iload_n 1, 1, 0, 0, 0), (62, .iconst 1, 1, 0, 0, 0), (63, .iload_n 1, 1, 0, 0, 0), (64, .isub, 1, 0, 0, 0), (65, .iload_n 2, 1, 0, 0, 0), (66, .invokevirtual 215, 3, 118, 4, 68), (69, .return_, 1, 0, 0, 0)]
def t_144 : i_T := (144, c_144, 5, none, 0, 0)
def c_145 : List i_X := [(0, .iconst 0, 1, 0, 0, 0), (1, .istore 4, 2, 0, 0, 0), (3, .iload 4, 2, 0, 0, 0), (5, .bipush 16, 2, 0, 0, 0), (7, .if_icmp .ge 80, 3, 0, 0, 0), (10, .bipush 16, 2, 0, 0, 0), (12, .iload_n 1, 1, 0, 0, 0), (13, .imul, 1, 0, 0, 0), (14, .iload 4, 2, 0, 0, 0), (16, .iadd, 1, 0, 0, 0), (17, .istore 5, 2, 0, 0, 0), (19, .aload_n 0, 1, 0, 0, 0), (20, .getfield 87, 3, 10, 27, 26), (23, .iload 5, 2, 0, 0, 0), (25, .baload, 1, 0, 0, 0), (26, .ifCond .eq 55, 3, 0, 0, 0), (29, .aload_n 0, 1, 0, 0, 0), (30, .getfield 102, 3, 10, 32, 31), (33, .iload 5, 2, 0, 0, 0), (35, .iaload, 1, 0, 0, 0), (36, .iconst 2, 1, 0, 0, 0), (37, .if_icmp .eq 44, 3, 0, 0, 0), (40, .aload_n 0, 1, 0, 0, 0), (41, .getfield 93, 3, 10, 29, 28), (44, .iload 5, 2, 0, 0, 0), (46, .iaload, 1, 0, 0, 0), (47, .iload_n 3, 1, 0, 0, 0), (48, .if_icmp .ne 33, 3, 0, 0, 0), (51, .aload_n 0, 1, 0, 0, 0), (52, .aload_n 0, 1, 0, 0, 0), (53, .getfield 90, 3, 10, 28, 27), (56, .iload 5, 2, 0, 0, 0), (58, .iaload, 1, 0, 0, 0), (59, .iload_n 2, 1, 0, 0, 0), (60, .invokevirtual 268, 3, 113, 2, 85), (63, .istore 6, 2, 0, 0, 0), (65, .iload 6, 2, 0, 0, 0), (67, .iconst (-1), 1, 0, 0, 0), (68, .if_icmp .eq 13, 3, 0, 0, 0), (71, .iload 6, 2, 0, 0, 0), (73, .bipush 60, 2, 0, 0, 0), (75, .if_icmp .gt 6, 3, 0, 0, 0), (78, .iload 4, 2, 0, 0, 0), (80, .ireturn, 1, 0, 0, 0), (81, .iinc 4 1, 3, 0, 0, 0), (84, .goto (-81), 3, 0, 0, 0), (87, .iconst (-1), 1, 0, 0, 0), (88, .ireturn, 1, 0, 0, 0)]
def t_145 : i_T := (145, c_145, 7, (some .int), 0, 0)
def c_146 : List i_X := [(0, .aload_n 0, 1, 0, 0, 0), (1, .iload_n 1, 1, 0, 0, 0), (2, .invokestatic 256, 3, 108, 2, 81), (5, .ifCond .eq 10, 3, 0, 0, 0), (8, .iload_n 2, 1, 0, 0, 0), (9, .invokestatic 188, 3, 107, 2, 59), (12, .ifCond .ne 7, 3, 0, 0, 0), (15, .iconst 1, 1, 0, 0, 0), (16, .goto 33, 3, 0, 0, 0), (19, .aload_n 0, 1, 0, 0, 0), (20, .iload_n 1, 1, 0, 0, 0), (21, .aload_n 0, 1, 0, 0, 0), (22, .getfield 13, 3, 10, 2, 2), (25, .iload_n 2, 1, 0, 0, 0), (26, .iaload, 1, 0, 0, 0), (27, .invokevirtual 261, 3, 140, 2, 83), (30, .ifCond .eq 14, 3, 0, 0, 0), (33, .aload_n 0, 1, 0, 0, 0), (34, .getfield 84, 3, 10, 26, 25), (37, .iload_n 1, 1, 0, 0, 0), (38, .iaload, 1, 0, 0, 0), (39, .bipush 8, 2, 0, 0, 0), (41, .if_icmp .ne 7, 3, 0, 0, 0), (44, .iconst 2, 1, 0, 0, 0), (45, .goto 4, 3, 0, 0, 0), (48, .iconst 0, 1, 0, 0, 0), (49, .putfield 180, 3, 10, 59, 57), (52, .aload_n 0, 1, 0, 0, 0), (53, .getfield 180, 3, 10, 59, 57), (56, .ifCond .eq 5, 3, 0, 0, 0), (59, .iconst 0, 1, 0, 0, 0), (60, .ireturn, 1, 0, 0, 0), (61, .aload_n 0, 1, 0, 0, 0), (62, .iload_n 1, 1, 0, 0, 0), (63, .iload_n 2, 1, 0, 0, 0), (64, .iload_n 3, 1, 0, 0, 0), (65, .invokevirtual 271, 3, 145, 3, 86), (68, .istore 4, 2, 0, 0, 0), (70, .iload 4, 2, 0, 0, 0), (72, .iconst (-1), 1, 0, 0, 0), (73, .if_icmp .eq 42, 3, 0, 0, 0), (76, .aload_n 0, 1, 0, 0, 0), (77, .iload_n 1, 1, 0, 0, 0), (78, .iload 4, 2, 0, 0, 0), (80, .invokevirtual 265, 3, 142, 2, 84), (83, .ifCond .le 26, 3, 0, 0, 0), (86, .aload_n 0, 1, 0, 0, 0), (87, .getfield 108, 3, 10, 34, 33), (90, .bipush 16, 2, 0, 0, 0), (92, .iload_n 1, 1, 0, 0, 0), (93, .imul, 1, 0, 0, 0), (94, .iload 4, 2, 0, 0, 0), (96, .iadd, 1, 0, 0, 0), (97, .dup2, 1, 0, 0, 0), (98, .iaload, 1, 0, 0, 0), (99, .iconst 1, 1, 0, 0, 0), (100, .iadd, 1, 0, 0, 0), (101, .iastore, 1, 0, 0, 0), (102, .aload_n 0, 1, 0, 0, 0), (103, .iload_n 1, 1, 0, 0, 0), (104, .iload 4, 2, 0, 0, 0), (106, .invokevirtual 275, 3, 144, 2, 87), (109, .bipush 100, 2, 0, 0, 0), (111, .iload 4, 2, 0, 0, 0), (113, .iadd, 1, 0, 0, 0), (114, .ireturn, 1, 0, 0, 0), (115, .bipush 8, 2, 0, 0, 0), (117, .iload_n 1, 1, 0, 0, 0), (118, .imul, 1, 0, 0, 0), (119, .aload_n 0, 1, 0, 0, 0), (120, .getfield 84, 3, 10, 26, 25), (123, .iload_n 1, 1, 0, 0, 0), (124, .iaload, 1, 0, 0, 0), (125, .iadd, 1, 0, 0, 0), (126, .istore 5, 2, 0, 0, 0), (128, .bipush 16, 2, 0, 0, 0), (130, .iload_n 1, 1, 0, 0, 0), (131, .imul, 1, 0, 0, 0), (132, .iload 5, 2, 0, 0, 0), (134, .iadd, 1, 0, 0, 0), (135, .istore 6, 2, 0, 0, 0), (137, .aload_n 0, 1, 0, 0, 0), (138, .getfield 84, 3, 10, 26, 25), (141, .iload_n 1, 1, 0, 0, 0), (142, .dup2, 1, 0, 0, 0), (143, .iaload, 1, 0, 0, 0), (144, .iconst 1, 1, 0, 0, 0), (145, .iadd, 1, 0, 0, 0), (146, .iastore, 1, 0, 0, 0), (147, .aload_n 0, 1, 0, 0, 0), (148, .getfield 87, 3, 10, 27, 26), (151, .iload 6, 2, 0, 0, 0), (153, .iconst 1, 1, 0, 0, 0), (154, .bastore, 1, 0, 0, 0), (155, .aload_n 0, 1, 0, 0, 0), (156, .getfield 90, 3, 10, 28, 27), (159, .iload 6, 2, 0, 0, 0), (161, .iload_n 2, 1, 0, 0, 0), (162, .iastore, 1, 0, 0, 0), (163, .aload_n 0, 1, 0, 0, 0), (164, .getfield 93, 3, 10, 29, 28), (167, .iload 6, 2, 0, 0, 0), (169, .iload_n 3, 1, 0, 0, 0), (170, .iastore, 1, 0, 0, 0), (171, .aload_n 0, 1, 0, 0, 0), (172, .getfield 96, 3, 10, 30, 29), (175, .iload 6, 2, 0, 0, 0), (177, .iconst 0, 1, 0, 0, 0), (178, .iastore, 1, 0, 0, 0), (179, .aload_n 0, 1, 0, 0, 0), (180, .getfield 99, 3, 10, 31, 30), (183, .iload 6, 2, 0, 0, 0), (185, .aload_n 0, 1, 0, 0, 0), (186, .getfield 19, 3, 10, 4, 4), (189, .iconst 0, 1, 0, 0, 0), (190, .iaload, 1, 0, 0, 0), (191, .iastore, 1, 0, 0, 0), (192, .aload_n 0, 1, 0, 0, 0), (193, .getfield 102, 3, 10, 32, 31), (196, .iload 6, 2, 0, 0, 0), (198, .iconst 0, 1, 0, 0, 0), (199, .iastore, 1, 0, 0, 0), (200, .aload_n 0, 1, 0, 0, 0), (201, .getfield 105, 3, 10, 33, 32), (204, .iload 6, 2, 0, 0, 0), (206, .iconst (-1), 1, 0, 0, 0), (207, .iastore, 1, 0, 0, 0), (208, .aload_n 0, 1, 0, 0, 0), (209, .getfield 108, 3, 10, 34, 33), (212, .iload 6, 2, 0, 0, 0), (214, .iconst 0, 1, 0, 0, 0), (215, .iastore, 1, 0, 0, 0), (216, .aload_n 0, 1, 0, 0, 0), (217, .getfield 111, 3, 10, 35, 34), (220, .iload 6, 2, 0, 0, 0), (222, .iconst 0, 1, 0, 0, 0), (223, .iastore, 1, 0, 0, 0), (224, .aload_n 0, 1, 0, 0, 0), (225, .getfield 114, 3, 10, 36, 35), (228, .iload 6, 2, 0, 0, 0), (230, .iconst 0, 1, 0, 0, 0), (231, .iastore, 1, 0, 0, 0), (232, .aload_n 0, 1, 0, 0, 0), (233, .iload_n 1, 1, 0, 0, 0), (234, .iload 5, 2, 0, 0, 0), (236, .invokevirtual 275, 3, 144, 2, 87), (239, .iload 5, 2, 0, 0, 0), (241, .ireturn, 1, 0, 0, 0)]
def t_146 : i_T := (146, c_146, 7, (some .int), 0, 0)
def c_147 : List i_X := [(0, .bipush 16, 2, 0, 0, 0), (2, .iload_n 1, 1, 0, 0, 0), (3, .imul, 1, 0, 0, 0), (4, .iload_n 2, 1, 0, 0, 0), (5, .iadd, 1, 0, 0, 0), (6, .istore 4, 2, 0, 0, 0), (8, .aload_n 0, 1, 0, 0, 0), (9, .aload_n 0, 1, 0, 0, 0), (10, .iload_n 1, 1, 0, 0, 0), (11, .iload_n 2, 1, 0, 0, 0), (12, .invokevirtual 278, 3, 143, 2, 88), (15, .ifCond .ne 7, 3, 0, 0, 0), (18, .iconst 1, 1, 0, 0, 0), (19, .goto 38, 3, 0, 0, 0), (22, .aload_n 0, 1, 0, 0, 0), (23, .iload_n 1, 1, 0, 0, 0), (24, .iload_n 2, 1, 0, 0, 0), (25, .invokevirtual 265, 3, 142, 2, 84), (28, .ifCond .eq 24, 3, 0, 0, 0), (31, .aload_n 0, 1, 0, 0, 0), (32, .getfield 102, 3, 10, 32, 31), (35, .iload 4, 2, 0, 0, 0), (37, .iaload, 1, 0, 0, 0), (38, .iconst 2, 1, 0, 0, 0), (39, .if_icmp .eq 13, 3, 0, 0, 0), (42, .aload_n 0, 1, 0, 0, 0), (43, .getfield 99, 3, 10, 31, 30), (46, .iload 4, 2, 0, 0, 0), (48, .iaload, 1, 0, 0, 0), (49, .ifCond .le 7, 3, 0, 0, 0), (52, .iconst 2, 1, 0, 0, 0), (53, .goto 4, 3, 0, 0, 0), (56, .iconst 0, 1, 0, 0, 0), (57, .putfield 180, 3, 10, 59, 57), (60, .aload_n 0, 1, 0, 0, 0), (61, .getfield 180, 3, 10, 59, 57), (64, .ifCond .eq 5, 3, 0, 0, 0), (67, .iconst 0, 1, 0, 0, 0), (68, .ireturn, 1, 0, 0, 0), (69, .aload_n 0, 1, 0, 0, 0), (70, .getfield 19, 3, 10, 4, 4), (73, .aload_n 0, 1, 0, 0, 0), (74, .getfield 96, 3, 10, 30, 29), (77, .iload 4, 2, 0, 0, 0), (79, .iaload, 1, 0, 0, 0), (80, .iaload, 1, 0, 0, 0), (81, .ifCond .ne 41, 3, 0, 0, 0), (84, .aload_n 0, 1, 0, 0, 0), (85, .getfield 96, 3, 10, 30, 29), (88, .iload 4, 2, 0, 0, 0), (90, .iload_n 3, 1, 0, 0, 0), (91, .ifCond .eq 18, 3, 0, 0, 0), (94, .aload_n 0, 1, 0, 0, 0), (95, .getfield 22, 3, 10, 5, 5), (98, .aload_n 0, 1, 0, 0, 0), (99, .getfield 96, 3, 10, 30, 29), (102, .iload 4, 2, 0, 0, 0), (104, .iaload, 1, 0, 0, 0), (105, .iaload, 1, 0, 0, 0), (106, .goto 15, 3, 0, 0, 0), (109, .aload_n 0, 1, 0, 0, 0), (110, .getfield 25, 3, 10, 6, 6), (113, .aload_n 0, 1, 0, 0, 0), (114, .getfield 96, 3, 10, 30, 29), (117, .iload 4, 2, 0, 0, 0), (119, .iaload, 1, 0, 0, 0), (120, .iaload, 1, 0, 0, 0), (121, .iastore, 1, 0, 0, 0), (122, .aload_n 0, 1, 0, 0, 0), (123, .getfield 99, 3, 10, 31, 30), (126, .iload 4, 2, 0, 0, 0), (128, .aload_n 0, 1, 0, 0, 0), (129, .getfield 19, 3, 10, 4, 4), (132, .aload_n 0, 1, 0, 0, 0), (133, .getfield 96, 3, 10, 30, 29), (136, .iload 4, 2, 0, 0, 0), (138, .iaload, 1, 0, 0, 0), (139, .iaload, 1, 0, 0, 0), (140, .iastore, 1, 0, 0, 0), (141, .aload_n 0, 1, 0, 0, 0), (142, .iload_n 1, 1, 0, 0, 0), (143, .iload_n 2, 1, 0, 0, 0), (144, .invokevirtual 275, 3, 144, 2, 87), (147, .aload_n 0, 1, 0, 0, 0), (148, .getfield 99, 3, 10, 31, 30), (151, .iload 4, 2, 0, 0, 0), (153, .iaload, 1, 0, 0, 0), (154, .ireturn, 1, 0, 0, 0)]
def t_147 : i_T := (147, c_147, 5, (some .int), 0, 0)
def c_148 : List i_X := [(0, .bipush 6, 2, 0, 0, 0), (2, .iload_n 1, 1, 0, 0, 0), (3, .imul, 1, 0, 0, 0), (4, .iload_n 2, 1, 0, 0, 0), (5, .iadd, 1, 0, 0, 0), (6, .istore_n 3, 1, 0, 0, 0), (7, .aload_n 0, 1, 0, 0, 0), (8, .getfield 120, 3, 10, 38, 37), (11, .iload_n 3, 1, 0, 0, 0), (12, .baload, 1, 0, 0, 0), (13, .ifCond .eq 25, 3, 0, 0, 0), (16, .aload_n 0, 1, 0, 0, 0), (17, .getfield 123, 3, 10, 39, 38), (20, .iload_n 3, 1, 0, 0, 0), (21, .iaload, 1, 0, 0, 0), (22, .ifCond .ne 16, 3, 0, 0, 0), (25, .aload_n 0, 1, 0, 0, 0), (26, .getfield 135, 3, 10, 43, 42), (29, .iload_n 3, 1, 0, 0, 0), (30, .baload, 1, 0, 0, 0), (31, .ifCond .ne 7, 3, 0, 0, 0), (34, .iconst 1, 1, 0, 0, 0), (35, .goto 4, 3, 0, 0, 0), (38, .iconst 0, 1, 0, 0, 0), (39, .ireturn, 1, 0, 0, 0)]
def t_148 : i_T := (148, c_148, 4, (some .boolean), 0, 0)
def c_149 : List i_X := [(0, .iconst 0, 1, 0, 0, 0), (1, .istore_n 3, 1, 0, 0, 0), (2, .iload_n 3, 1, 0, 0, 0), (3, .bipush 6, 2, 0, 0, 0), (5, .if_icmp .ge 62, 3, 0, 0, 0), (8, .bipush 6, 2, 0, 0, 0), (10, .iload_n 1, 1, 0, 0, 0), (11, .imul, 1, 0, 0, 0), (12, .iload_n 3, 1, 0, 0, 0), (13, .iadd, 1, 0, 0, 0), (14, .istore 4, 2, 0, 0, 0), (16, .aload_n 0, 1, 0, 0, 0), (17, .getfield 120, 3, 10, 38, 37), (20, .iload 4, 2, 0, 0, 0), (22, .baload, 1, 0, 0, 0), (23, .ifCond .eq 38, 3, 0, 0, 0), (26, .aload_n 0, 1, 0, 0, 0), (27, .getfield 129, 3, 10, 41, 40), (30, .iload 4, 2, 0, 0, 0), (32, .iaload, 1, 0, 0, 0), (33, .iload_n 2, 1, 0, 0, 0), (34, .if_icmp .ne 27, 3, 0, 0, 0), (37, .aload_n 0, 1, 0, 0, 0), (38, .getfield 123, 3, 10, 39, 38), (41, .iload 4, 2, 0, 0, 0), (43, .iaload, 1, 0, 0, 0), (44, .iconst 1, 1, 0, 0, 0), (45, .if_icmp .eq 14, 3, 0, 0, 0), (48, .aload_n 0, 1, 0, 0, 0), (49, .getfield 123, 3, 10, 39, 38), (52, .iload 4, 2, 0, 0, 0), (54, .iaload, 1, 0, 0, 0), (55, .iconst 2, 1, 0, 0, 0), (56, .if_icmp .ne 5, 3, 0, 0, 0), (59, .iconst 1, 1, 0, 0, 0), (60, .ireturn, 1, 0, 0, 0), (61, .iinc 3 1, 3, 0, 0, 0), (64, .goto (-62), 3, 0, 0, 0), (67, .iconst 0, 1, 0, 0, 0), (68, .ireturn, 1, 0, 0, 0)]
def t_149 : i_T := (149, c_149, 5, (some .boolean), 0, 0)
def c_150 : List i_X := [(0, .iconst 0, 1, 0, 0, 0), (1, .istore 5, 2, 0, 0, 0), (3, .iload 5, 2, 0, 0, 0), (5, .bipush 6, 2, 0, 0, 0), (7, .if_icmp .ge 96, 3, 0, 0, 0), (10, .aload_n 0, 1, 0, 0, 0), (11, .iload_n 1, 1, 0, 0, 0), (12, .iload 5, 2, 0, 0, 0), (14, .iload_n 2, 1, 0, 0, 0), (15, .iload_n 3, 1, 0, 0, 0), (16, .invokevirtual 282, 3, 151, 4, 89), (19, .istore 6, 2, 0, 0, 0), (21, .iconst 0, 1, 0, 0, 0), (22, .istore 7, 2, 0, 0, 0), (24, .iconst 0, 1, 0, 0, 0), (25, .istore 8, 2, 0, 0, 0), (27, .iload 8, 2, 0, 0, 0), (29, .bipush 6, 2, 0, 0, 0), (31, .if_icmp .ge 50, 3, 0, 0, 0), (34, .aload_n 0, 1, 0, 0, 0), (35, .iload_n 1, 1, 0, 0, 0), (36, .iload 8, 2, 0, 0, 0), (38, .iload_n 2, 1, 0, 0, 0), (39, .iload_n 3, 1, 0, 0, 0), (40, .invokevirtual 282, 3, 151, 4, 89), (43, .istore 9, 2, 0, 0, 0), (45, .iload 9, 2, 0, 0, 0), (47, .iconst (-1), 1, 0, 0, 0), (48, .if_icmp .eq 27, 3, 0, 0, 0), (51, .iload 9, 2, 0, 0, 0), (53, .iload 6, 2, 0, 0, 0), (55, .if_icmp .lt 17, 3, 0, 0, 0), (58, .iload 9, 2, 0, 0, 0), (60, .iload 6, 2, 0, 0, 0), (62, .if_icmp .ne 13, 3, 0, 0, 0), (65, .iload 8, 2, 0, 0, 0), (67, .iload 5, 2, 0, 0, 0), (69, .if_icmp .ge 6, 3, 0, 0, 0), (72, .iinc 7 1, 3, 0, 0, 0), (75, .iinc 8 1, 3, 0, 0, 0), (78, .goto (-51), 3, 0, 0, 0), (81, .iload 6, 2, 0, 0, 0), (83, .iconst (-1), 1, 0, 0, 0), (84, .if_icmp .eq 13, 3, 0, 0, 0), (87, .iload 7, 2, 0, 0, 0), (89, .iload 4, 2, 0, 0, 0), (91, .if_icmp .ne 6, 3, 0, 0, 0), (94, .iload 5, 2, 0, 0, 0), (96, .ireturn, 1, 0, 0, 0), (97, .iinc 5 1, 3, 0, 0, 0), (100, .goto (-97), 3, 0, 0, 0), (103, .iconst (-1), 1, 0, 0, 0), (104, .ireturn, 1, 0, 0, 0)]
def t_150 : i_T := (150, c_150, 10, (some .int), 0, 0)
def c_151 : List i_X := [(0, .aload_n 0, 1, 0, 0, 0), (1, .iload_n 1, 1, 0, 0, 0), (2, .iload_n 2, 1, 0, 0, 0), (3, .invokevirtual 286, 3, 148, 2, 90), (6, .ifCond .eq 33, 3, 0, 0, 0), (9, .aload_n 0, 1, 0, 0, 0), (10, .getfield 37, 3, 10, 10, 10), (13, .iload_n 2, 1, 0, 0, 0), (14, .iaload, 1, 0, 0, 0), (15, .iload_n 3, 1, 0, 0, 0), (16, .if_icmp .lt 23, 3, 0, 0, 0), (19, .aload_n 0, 1, 0, 0, 0), (20, .aload_n 0, 1, 0, 0, 0), (21, .getfield 126, 3, 10, 40, 39), (24, .bipush 6, 2, 0, 0, 0), (26, .iload_n 1, 1, 0, 0, 0), (27, .imul, 1, 0, 0, 0), (28, .iload_n 2, 1, 0, 0, 0), (29, .iadd, 1, 0, 0, 0), (30, .iaload, 1, 0, 0, 0), (31, .iload 4, 2, 0, 0, 0), (33, .invokevirtual 268, 3, 113, 2, 85), (36, .goto 4, 3, 0, 0, 0), (39, .iconst (-1), 1, 0, 0, 0), (40, .ireturn, 1, 0, 0, 0)]
def t_151 : i_T := (151, c_151, 5, (some .int), 0, 0)
def c_152 : List i_X := [(0, .bipush 16, 2, 0, 0, 0), (2, .iload_n 1, 1, 0, 0, 0), (3, .imul, 1, 0, 0, 0), (4, .iload_n 2, 1, 0, 0, 0), (5, .iadd, 1, 0, 0, 0), (6, .istore_n 3, 1, 0, 0, 0), (7, .aload_n 0, 1, 0, 0, 0), (8, .aload_n 0, 1, 0, 0, 0), (9, .iload_n 1, 1, 0, 0, 0), (10, .iload_n 2, 1, 0, 0, 0), (11, .invokevirtual 278, 3, 143, 2, 88), (14, .ifCond .ne 7, 3, 0, 0, 0), (17, .iconst 1, 1, 0, 0, 0), (18, .goto 36, 3, 0, 0, 0), (21, .aload_n 0, 1, 0, 0, 0), (22, .iload_n 1, 1, 0, 0, 0), (23, .iload_n 2, 1, 0, 0, 0), (24, .invokevirtual 265, 3, 142, 2, 84), (27, .ifCond .eq 22, 3, 0, 0, 0), (30, .aload_n 0, 1, 0, 0, 0), (31, .getfield 102, 3, 10, 32, 31), (34, .iload_n 3, 1, 0, 0, 0), (35, .iaload, 1, 0, 0, 0), (36, .iconst 2, 1, 0, 0, 0), (37, .if_icmp .eq 12, 3, 0, 0, 0), (40, .aload_n 0, 1, 0, 0, 0), (41, .iload_n 1, 1, 0, 0, 0), (42, .iload_n 2, 1, 0, 0, 0), (43, .invokevirtual 289, 3, 149, 2, 91), (46, .ifCond .eq 7, 3, 0, 0, 0), (49, .iconst 2, 1, 0, 0, 0), (50, .goto 4, 3, 0, 0, 0), (53, .iconst 0, 1, 0, 0, 0), (54, .putfield 180, 3, 10, 59, 57), (57, .aload_n 0, 1, 0, 0, 0), (58, .getfield 180, 3, 10, 59, 57), (61, .ifCond .eq 5, 3, 0, 0, 0), (64, .iconst 0, 1, 0, 0, 0), (65, .ireturn, 1, 0, 0, 0), (66, .aload_n 0, 1, 0, 0, 0), (67, .getfield 99, 3, 10, 31, 30), (70, .iload_n 3, 1, 0, 0, 0), (71, .iaload, 1, 0, 0, 0), (72, .ifCond .ne 7, 3, 0, 0, 0), (75, .iconst 5, 1, 0, 0, 0), (76, .goto 9, 3, 0, 0, 0), (79, .aload_n 0, 1, 0, 0, 0), (80, .getfield 99, 3, 10, 31, 30), (83, .iload_n 3, 1, 0, 0, 0), (84, .iaload, 1, 0, 0, 0), (85, .istore 4, 2, 0, 0, 0), (87, .aload_n 0, 1, 0, 0, 0), (88, .iload_n 1, 1, 0, 0, 0), (89, .iload 4, 2, 0, 0, 0), (91, .iconst 1, 1, 0, 0, 0), (92, .isub, 1, 0, 0, 0), (93, .iconst 2, 1, 0, 0, 0), (94, .idiv, 1, 0, 0, 0), (95, .aload_n 0, 1, 0, 0, 0), (96, .getfield 90, 3, 10, 28, 27), (99, .iload_n 3, 1, 0, 0, 0), (100, .iaload, 1, 0, 0, 0), (101, .iconst 0, 1, 0, 0, 0), (102, .invokevirtual 292, 3, 150, 4, 92), (105, .istore 5, 2, 0, 0, 0), (107, .iload 5, 2, 0, 0, 0), (109, .iconst (-1), 1, 0, 0, 0), (110, .if_icmp .ne 5, 3, 0, 0, 0), (113, .iconst (-1), 1, 0, 0, 0), (114, .ireturn, 1, 0, 0, 0), (115, .aload_n 0, 1, 0, 0, 0), (116, .iconst 5, 1, 0, 0, 0), (117, .iload_n 1, 1, 0, 0, 0), (118, .iconst 3, 1, 0, 0, 0), (119, .iload 5, 2, 0, 0, 0), (121, .iadd, 1, 0, 0, 0), (122, .iload_n 2, 1, 0, 0, 0), (123, .aload_n 0, 1, 0, 0, 0), (124, .iload_n 1, 1, 0, 0, 0), (125, .iload_n 2, 1, 0, 0, 0), (126, .invokevirtual 265, 3, 142, 2, 84), (129, .invokevirtual 202, 3, 117, 5, 64), (132, .istore 6, 2, 0, 0, 0), (134, .iload 6, 2, 0, 0, 0), (136, .iconst (-1), 1, 0, 0, 0), (137, .if_icmp .eq 16, 3, 0, 0, 0), (140, .aload_n 0, 1, 0, 0, 0), (141, .getfield 156, 3, 10, 51, 49), (144, .iload 6, 2, 0, 0, 0), (146, .aload_n 0, 1, 0, 0, 0), (147, .getfield 90, 3, 10, 28, 27), (150, .iload_n 3, 1, 0, 0, 0), (151, .iaload, 1, 0, 0, 0), (152, .iastore, 1, 0, 0, 0), (153, .aload_n 0, 1, 0, 0, 0), (154, .getfield 135, 3, 10, 43, 42), (157, .bipush 6, 2, 0, 0, 0), (159, .iload_n 1, 1, 0, 0, 0), (160, .imul, 1, 0, 0, 0), (161, .iload 5, 2, 0, 0, 0), (163, .iadd, 1, 0, 0, 0), (164, .iconst 1, 1, 0, 0, 0), (165, .bastore, 1, 0, 0, 0), (166, .aload_n 0, 1, 0, 0, 0), (167, .getfield 102, 3, 10, 32, 31), (170, .iload_n 3, 1, 0, 0, 0), (171, .iconst 1, 1, 0, 0, 0), (172, .iastore, 1, 0, 0, 0), (173, .aload_n 0, 1, 0, 0, 0), (174, .getfield 105, 3, 10, 33, 32), (177, .iload_n 3, 1, 0, 0, 0), (178, .iload 5, 2, 0, 0, 0), (180, .iastore, 1, 0, 0, 0), (181, .aload_n 0, 1, 0, 0, 0), (182, .iload_n 1, 1, 0, 0, 0), (183, .iload_n 2, 1, 0, 0, 0), (184, .invokevirtual 275, 3, 144, 2, 87), (187, .iload 5, 2, 0, 0, 0), (189, .ireturn, 1, 0, 0, 0)]
def t_152 : i_T := (152, c_152, 7, (some .int), 0, 0)
def c_153 : List i_X := [(0, .aload_n 0, 1, 0, 0, 0), (1, .aload_n 0, 1, 0, 0, 0), (2, .iload_n 1, 1, 0, 0, 0), (3, .iload_n 2, 1, 0, 0, 0), (4, .invokevirtual 278, 3, 143, 2, 88), (7, .ifCond .ne 7, 3, 0, 0, 0), (10, .iconst 1, 1, 0, 0, 0), (11, .goto 32, 3, 0, 0, 0), (14, .aload_n 0, 1, 0, 0, 0), (15, .iload_n 1, 1, 0, 0, 0), (16, .iload_n 2, 1, 0, 0, 0), (17, .invokevirtual 265, 3, 142, 2, 84), (20, .ifCond .eq 18, 3, 0, 0, 0), (23, .aload_n 0, 1, 0, 0, 0), (24, .getfield 102, 3, 10, 32, 31), (27, .bipush 16, 2, 0, 0, 0), (29, .iload_n 1, 1, 0, 0, 0), (30, .imul, 1, 0, 0, 0), (31, .iload_n 2, 1, 0, 0, 0), (32, .iadd, 1, 0, 0, 0), (33, .iaload, 1, 0, 0, 0), (34, .iconst 2, 1, 0, 0, 0), (35, .if_icmp .ne 7, 3, 0, 0, 0), (38, .iconst 2, 1, 0, 0, 0), (39, .goto 4, 3, 0, 0, 0), (42, .iconst 0, 1, 0, 0, 0), (43, .putfield 180, 3, 10, 59, 57), (46, .aload_n 0, 1, 0, 0, 0), (47, .getfield 180, 3, 10, 59, 57), (50, .ifCond .eq 4, 3, 0, 0, 0), (53, .return_, 1, 0, 0, 0), (54, .aload_n 0, 1, 0, 0, 0), (55, .getfield 102, 3, 10, 32, 31), (58, .bipush 16, 2, 0, 0, 0), (60, .iload_n 1, 1, 0, 0, 0), (61, .imul, 1, 0, 0, 0), (62, .iload_n 2, 1, 0, 0, 0), (63, .iadd, 1, 0, 0, 0), (64, .iconst 2, 1, 0, 0, 0), (65, .iastore, 1, 0, 0, 0), (66, .aload_n 0, 1, 0, 0, 0), (67, .iload_n 1, 1, 0, 0, 0), (68, .iload_n 2, 1, 0, 0, 0), (69, .invokevirtual 275, 3, 144, 2, 87), (72, .return_, 1, 0, 0, 0)]
def t_153 : i_T := (153, c_153, 3, none, 0, 0)
def c_154 : List i_X := [(0, .aload_n 0, 1, 0, 0, 0), (1, .aload_n 0, 1, 0, 0, 0), (2, .iload_n 1, 1, 0, 0, 0), (3, .iload_n 2, 1, 0, 0, 0), (4, .invokevirtual 278, 3, 143, 2, 88), (7, .ifCond .ne 7, 3, 0, 0, 0), (10, .iconst 1, 1, 0, 0, 0), (11, .goto 17, 3, 0, 0, 0), (14, .aload_n 0, 1, 0, 0, 0), (15, .getfield 62, 3, 10, 18, 18), (18, .iload_n 1, 1, 0, 0, 0), (19, .baload, 1, 0, 0, 0), (20, .ifCond .eq 7, 3, 0, 0, 0), (23, .iconst 2, 1, 0, 0, 0), (24, .goto 4, 3, 0, 0, 0), (27, .iconst 0, 1, 0, 0, 0), (28, .putfield 180, 3, 10, 59, 57), (31, .aload_n 0, 1, 0, 0, 0), (32, .getfield 180, 3, 10, 59, 57), (35, .ifCond .ne 11, 3, 0, 0, 0), (38, .aload_n 0, 1, 0, 0, 0), (39, .iconst 4, 1, 0, 0, 0), (40, .iload_n 1, 1, 0, 0, 0), (41, .iconst 2, 1, 0, 0, 0), (42, .iload_n 2, 1, 0, 0, 0), (43, .invokevirtual 215, 3, 118, 4, 68), (46, .return_, 1, 0, 0, 0)]
def t_154 : i_T := (154, c_154, 3, none, 0, 0)
def c_155 : List i_X := [(0, .aload_n 0, 1, 0, 0, 0), (1, .iconst 0, 1, 0, 0, 0), (2, .putfield 180, 3, 10, 59, 57), (5, .iload_n 1, 1, 0, 0, 0), (6, .invokestatic 256, 3, 108, 2, 81), (9, .ifCond .eq 12, 3, 0, 0, 0), (12, .aload_n 0, 1, 0, 0, 0), (13, .getfield 62, 3, 10, 18, 18), (16, .iload_n 1, 1, 0, 0, 0), (17, .baload, 1, 0, 0, 0), (18, .ifCond .eq 5, 3, 0, 0, 0), (21, .iconst 0, 1, 0, 0, 0), (22, .ireturn, 1, 0, 0, 0), (23, .aload_n 0, 1, 0, 0, 0), (24, .getfield 62, 3, 10, 18, 18), (27, .iload_n 1, 1, 0, 0, 0), (28, .iconst 1, 1, 0, 0, 0), (29, .bastore, 1, 0, 0, 0), (30, .iconst 0, 1, 0, 0, 0), (31, .istore_n 2, 1, 0, 0, 0), (32, .iload_n 2, 1, 0, 0, 0), (33, .bipush 16, 2, 0, 0, 0), (35, .if_icmp .ge 21, 3, 0, 0, 0), (38, .aload_n 0, 1, 0, 0, 0), (39, .getfield 117, 3, 10, 37, 36), (42, .bipush 16, 2, 0, 0, 0), (44, .iload_n 1, 1, 0, 0, 0), (45, .imul, 1, 0, 0, 0), (46, .iload_n 2, 1, 0, 0, 0), (47, .iadd, 1, 0, 0, 0), (48, .iconst 0, 1, 0, 0, 0), (49, .bastore, 1, 0, 0, 0), (50, .iinc 2 1, 3, 0, 0, 0), (53, .goto (-21), 3, 0, 0, 0), (56, .iconst 0, 1, 0, 0, 0), (57, .istore_n 2, 1, 0, 0, 0), (58, .iload_n 2, 1, 0, 0, 0), (59, .iconst 4, 1, 0, 0, 0), (60, .if_icmp .ge 20, 3, 0, 0, 0), (63, .aload_n 0, 1, 0, 0, 0), (64, .getfield 75, 3, 10, 23, 22), (67, .iconst 4, 1, 0, 0, 0), (68, .iload_n 1, 1, 0, 0, 0), (69, .imul, 1, 0, 0, 0), (70, .iload_n 2, 1, 0, 0, 0), (71, .iadd, 1, 0, 0, 0), (72, .iconst 0, 1, 0, 0, 0), (73, .iastore, 1, 0, 0, 0), (74, .iinc 2 1, 3, 0, 0, 0), (77, .goto (-19), 3, 0, 0, 0), (80, .iconst 0, 1, 0, 0, 0), (81, .istore_n 2, 1, 0, 0, 0), (82, .iload_n 2, 1, 0, 0, 0), (83, .bipush 6, 2, 0, 0, 0), (85, .if_icmp .ge 33, 3, 0, 0, 0), (88, .aload_n 0, 1, 0, 0, 0), (89, .getfield 120, 3, 10, 38, 37), (92, .bipush 6, 2, 0, 0, 0), (94, .iload_n 1, 1, 0, 0, 0), (95, .imul, 1, 0, 0, 0), (96, .iload_n 2, 1, 0, 0, 0), (97, .iadd, 1, 0, 0, 0), (98, .iconst 0, 1, 0, 0, 0), (99, .bastore, 1, 0, 0, 0), (100, .aload_n 0, 1, 0, 0, 0), (101, .getfield 135, 3, 10, 43, 42), (104, .bipush 6, 2, 0, 0, 0), (106, .iload_n 1, 1, 0, 0, 0), (107, .imul, 1, 0, 0, 0), (108, .iload_n 2, 1, 0, 0, 0), (109, .iadd, 1, 0, 0, 0), (110, .iconst 0, 1, 0, 0, 0), (111, .bastore, 1, 0, 0, 0), (112, .iinc 2 1, 3, 0, 0, 0), (115, .goto (-33), 3, 0, 0, 0), (118, .iconst 1, 1, 0, 0, 0), (119, .ireturn, 1, 0, 0, 0)]
def t_155 : i_T := (155, c_155, 3, (some .boolean), 0, 0)
def c_156 : List i_X := [(0, .aload_n 0, 1, 0, 0, 0), (1, .iconst 0, 1, 0, 0, 0), (2, .putfield 180, 3, 10, 59, 57), (5, .iload_n 1, 1, 0, 0, 0), (6, .invokestatic 256, 3, 108, 2, 81), (9, .ifCond .eq 12, 3, 0, 0, 0), (12, .aload_n 0, 1, 0, 0, 0), (13, .getfield 62, 3, 10, 18, 18), (16, .iload_n 1, 1, 0, 0, 0), (17, .baload, 1, 0, 0, 0), (18, .ifCond .ne 5, 3, 0, 0, 0), (21, .iconst 0, 1, 0, 0, 0), (22, .ireturn, 1, 0, 0, 0), (23, .aload_n 0, 1, 0, 0, 0), (24, .getfield 62, 3, 10, 18, 18), (27, .iload_n 1, 1, 0, 0, 0), (28, .iconst 0, 1, 0, 0, 0), (29, .bastore, 1, 0, 0, 0), (30, .aload_n 0, 1, 0, 0, 0), (31, .bipush 7, 2, 0, 0, 0), (33, .iload_n 1, 1, 0, 0, 0), (34, .iconst 1, 1, 0, 0, 0), (35, .iload_n 1, 1, 0, 0, 0), (36, .isub, 1, 0, 0, 0), (37, .iconst (-1), 1, 0, 0, 0), (38, .iconst 0, 1, 0, 0, 0), (39, .invokevirtual 202, 3, 117, 5, 64), (42, .pop, 1, 0, 0, 0), (43, .iconst 1, 1, 0, 0, 0), (44, .ireturn, 1, 0, 0, 0)]
def t_156 : i_T := (156, c_156, 2, (some .boolean), 0, 0)
def c_157 : List i_X := [(0, .aload_n 0, 1, 0, 0, 0), (1, .iconst 0, 1, 0, 0, 0), (2, .putfield 180, 3, 10, 59, 57), (5, .iload_n 1, 1, 0, 0, 0), (6, .invokestatic 253, 3, 109, 2, 80), (9, .ifCond .eq 24, 3, 0, 0, 0), (12, .iload_n 2, 1, 0, 0, 0), (13, .invokestatic 188, 3, 107, 2, 59), (16, .ifCond .eq 17, 3, 0, 0, 0), (19, .aload_n 0, 1, 0, 0, 0), (20, .aload_n 0, 1, 0, 0, 0), (21, .getfield 34, 3, 10, 9, 9), (24, .iload_n 1, 1, 0, 0, 0), (25, .iaload, 1, 0, 0, 0), (26, .iload_n 2, 1, 0, 0, 0), (27, .invokevirtual 268, 3, 113, 2, 85), (30, .goto 4, 3, 0, 0, 0), (33, .iconst (-1), 1, 0, 0, 0), (34, .ireturn, 1, 0, 0, 0)]
def t_157 : i_T := (157, c_157, 3, (some .int), 0, 0)
def c_158 : List i_X := [(0, .aload_n 0, 1, 0, 0, 0), (1, .iconst 0, 1, 0, 0, 0), (2, .putfield 180, 3, 10, 59, 57), (5, .iload_n 1, 1, 0, 0, 0), (6, .invokestatic 256, 3, 108, 2, 81), (9, .ifCond .eq 22, 3, 0, 0, 0), (12, .iload_n 3, 1, 0, 0, 0), (13, .invokestatic 188, 3, 107, 2, 59), (16, .ifCond .eq 15, 3, 0, 0, 0), (19, .aload_n 0, 1, 0, 0, 0), (20, .iload_n 1, 1, 0, 0, 0), (21, .iload_n 2, 1, 0, 0, 0), (22, .iload_n 3, 1, 0, 0, 0), (23, .iload 4, 2, 0, 0, 0), (25, .invokevirtual 292, 3, 150, 4, 92), (28, .goto 4, 3, 0, 0, 0), (31, .iconst (-1), 1, 0, 0, 0), (32, .ireturn, 1, 0, 0, 0)]
def t_158 : i_T := (158, c_158, 5, (some .int), 0, 0)
def c_159 : List i_X := [(0, .aload_n 0, 1, 0, 0, 0), (1, .iconst 0, 1, 0, 0, 0), (2, .putfield 180, 3, 10, 59, 57), (5, .iload_n 1, 1, 0, 0, 0), (6, .invokestatic 253, 3, 109, 2, 80), (9, .ifCond .ne 5, 3, 0, 0, 0), (12, .iconst (-1), 1, 0, 0, 0), (13, .ireturn, 1, 0, 0, 0), (14, .iload_n 2, 1, 0, 0, 0), (15, .tableswitch 79 0 5 #[37, 44, 51, 58, 65, 72], 37, 0, 0, 0), (52, .aload_n 0, 1, 0, 0, 0), (53, .getfield 40, 3, 10, 11, 11), (56, .iload_n 1, 1, 0, 0, 0), (57, .iaload, 1, 0, 0, 0), (58, .ireturn, 1, 0, 0, 0), (59, .aload_n 0, 1, 0, 0, 0), (60, .getfield 34, 3, 10, 9, 9), (63, .iload_n 1, 1, 0, 0, 0), (64, .iaload, 1, 0, 0, 0), (65, .ireturn, 1, 0, 0, 0), (66, .aload_n 0, 1, 0, 0, 0), (67, .getfield 43, 3, 10, 12, 12), (70, .iload_n 1, 1, 0, 0, 0), (71, .iaload, 1, 0, 0, 0), (72, .ireturn, 1, 0, 0, 0), (73, .aload_n 0, 1, 0, 0, 0), (74, .getfield 52, 3, 10, 15, 15), (77, .iload_n 1, 1, 0, 0, 0), (78, .iaload, 1, 0, 0, 0), (79, .ireturn, 1, 0, 0, 0), (80, .aload_n 0, 1, 0, 0, 0), (81, .getfield 49, 3, 10, 14, 14), (84, .iload_n 1, 1, 0, 0, 0), (85, .iaload, 1, 0, 0, 0), (86, .ireturn, 1, 0, 0, 0), (87, .aload_n 0, 1, 0, 0, 0), (88, .getfield 37, 3, 10, 10, 10), (91, .iload_n 1, 1, 0, 0, 0), (92, .iaload, 1, 0, 0, 0), (93, .ireturn, 1, 0, 0, 0), (94, .iconst (-1), 1, 0, 0, 0), (95, .ireturn, 1, 0, 0, 0)]
def t_159 : i_T := (159, c_159, 3, (some .int), 0, 0)
def c_160 : List i_X := [(0, .aload_n 0, 1, 0, 0, 0), (1, .iconst 0, 1, 0, 0, 0), (2, .putfield 180, 3, 10, 59, 57), (5, .iload_n 1, 1, 0, 0, 0), (6, .invokestatic 256, 3, 108, 2, 81), (9, .ifCond .eq 10, 3, 0, 0, 0), (12, .iload_n 2, 1, 0, 0, 0), (13, .invokestatic 253, 3, 109, 2, 80), (16, .ifCond .ne 5, 3, 0, 0, 0), (19, .iconst (-1), 1, 0, 0, 0), (20, .ireturn, 1, 0, 0, 0), (21, .bipush 6, 2, 0, 0, 0), (23, .iload_n 1, 1, 0, 0, 0), (24, .imul, 1, 0, 0, 0), (25, .iload_n 2, 1, 0, 0, 0), (26, .iadd, 1, 0, 0, 0), (27, .istore 4, 2, 0, 0, 0), (29, .aload_n 0, 1, 0, 0, 0), (30, .getfield 120, 3, 10, 38, 37), (33, .iload 4, 2, 0, 0, 0), (35, .baload, 1, 0, 0, 0), (36, .ifCond .ne 5, 3, 0, 0, 0), (39, .iconst (-1), 1, 0, 0, 0), (40, .ireturn, 1, 0, 0, 0), (41, .iload_n 3, 1, 0, 0, 0), (42, .tableswitch 92 0 4 #[34, 42, 50, 58, 66], 34, 0, 0, 0), (76, .aload_n 0, 1, 0, 0, 0), (77, .getfield 123, 3, 10, 39, 38), (80, .iload 4, 2, 0, 0, 0), (82, .iaload, 1, 0, 0, 0), (83, .ireturn, 1, 0, 0, 0), (84, .aload_n 0, 1, 0, 0, 0), (85, .getfield 126, 3, 10, 40, 39), (88, .iload 4, 2, 0, 0, 0), (90, .iaload, 1, 0, 0, 0), (91, .ireturn, 1, 0, 0, 0), (92, .aload_n 0, 1, 0, 0, 0), (93, .getfield 129, 3, 10, 41, 40), (96, .iload 4, 2, 0, 0, 0), (98, .iaload, 1, 0, 0, 0), (99, .ireturn, 1, 0, 0, 0), (100, .aload_n 0, 1, 0, 0, 0), (101, .getfield 132, 3, 10, 42, 41), (104, .iload 4, 2, 0, 0, 0), (106, .iaload, 1, 0, 0, 0), (107, .ireturn, 1, 0, 0, 0), (108, .aload_n 0, 1, 0, 0, 0), (109, .getfield 135, 3, 10, 43, 42), (112, .iload 4, 2, 0, 0, 0), (114, .baload, 1, 0, 0, 0), (115, .ifCond .ne 13, 3, 0, 0, 0), (118, .aload_n 0, 1, 0, 0, 0), (119, .getfield 123, 3, 10, 39, 38), (122, .iload 4, 2, 0, 0, 0), (124, .iaload, 1, 0, 0, 0), (125, .ifCond .eq 7, 3, 0, 0, 0), (128, .iconst 1, 1, 0, 0, 0), (129, .goto 4, 3, 0, 0, 0), (132, .iconst 0, 1, 0, 0, 0), (133, .ireturn, 1, 0, 0, 0), (134, .iconst (-1), 1, 0, 0, 0), (135, .ireturn, 1, 0, 0, 0)]
def t_160 : i_T := (160, c_160, 5, (some .int), 0, 0)
def c_161 : List i_X := [(0, .aload_n 0, 1, 0, 0, 0), (1, .iconst 0, 1, 0, 0, 0), (2, .putfield 180, 3, 10, 59, 57), (5, .iload_n 1, 1, 0, 0, 0), (6, .iconst 0, 1, 0, 0, 0), (7, .iconst 2, 1, 0, 0, 0), (8, .invokestatic 184, 3, 106, 4, 58), (11, .ifCond .eq 13, 3, 0, 0, 0), (14, .iload_n 2, 1, 0, 0, 0), (15, .iconst 0, 1, 0, 0, 0), (16, .bipush 15, 2, 0, 0, 0), (18, .invokestatic 184, 3, 106, 4, 58), (21, .ifCond .ne 5, 3, 0, 0, 0), (24, .iconst (-1), 1, 0, 0, 0), (25, .ireturn, 1, 0, 0, 0), (26, .bipush 16, 2, 0, 0, 0), (28, .iload_n 1, 1, 0, 0, 0), (29, .imul, 1, 0, 0, 0), (30, .iload_n 2, 1, 0, 0, 0), (31, .iadd, 1, 0, 0, 0), (32, .istore 4, 2, 0, 0, 0), (34, .aload_n 0, 1, 0, 0, 0), (35, .getfield 87, 3, 10, 27, 26), (38, .iload 4, 2, 0, 0, 0), (40, .baload, 1, 0, 0, 0), (41, .ifCond .ne 5, 3, 0, 0, 0), (44, .iconst (-1), 1, 0, 0, 0), (45, .ireturn, 1, 0, 0, 0), (46, .iload_n 3, 1, 0, 0, 0), (47, .tableswitch 129 0 8 #[49, 57, 65, 73, 81, 89, 97, 105, 113], 49, 0, 0, 0), (96, .aload_n 0, 1, 0, 0, 0), (97, .getfield 90, 3, 10, 28, 27), (100, .iload 4, 2, 0, 0, 0), (102, .iaload, 1, 0, 0, 0), (103, .ireturn, 1, 0, 0, 0), (104, .aload_n 0, 1, 0, 0, 0), (105, .getfield 96, 3, 10, 30, 29), (108, .iload 4, 2, 0, 0, 0), (110, .iaload, 1, 0, 0, 0), (111, .ireturn, 1, 0, 0, 0), (112, .aload_n 0, 1, 0, 0, 0), (113, .getfield 99, 3, 10, 31, 30), (116, .iload 4, 2, 0, 0, 0), (118, .iaload, 1, 0, 0, 0), (119, .ireturn, 1, 0, 0, 0), (120, .aload_n 0, 1, 0, 0, 0), (121, .getfield 102, 3, 10, 32, 31), (124, .iload 4, 2, 0, 0, 0), (126, .iaload, 1, 0, 0, 0), (127, .ireturn, 1, 0, 0, 0), (128, .aload_n 0, 1, 0, 0, 0), (129, .getfield 105, 3, 10, 33, 32), (132, .iload 4, 2, 0, 0, 0), (134, .iaload, 1, 0, 0, 0), (135, .ireturn, 1, 0, 0, 0), (136, .aload_n 0, 1, 0, 0, 0), (137, .getfield 108, 3, 10, 34, 33), (140, .iload 4, 2, 0, 0, 0), (142, .iaload, 1, 0, 0, 0), (143, .ireturn, 1, 0, 0, 0), (144, .aload_n 0, 1, 0, 0, 0), (145, .getfield 111, 3, 10, 35, 34), (148, .iload 4, 2, 0, 0, 0), (150, .iaload, 1, 0, 0, 0), (151, .ireturn, 1, 0, 0, 0), (152, .aload_n 0, 1, 0, 0, 0), (153, .getfield 114, 3, 10, 36, 35), (156, .iload 4, 2, 0, 0, 0), (158, .iaload, 1, 0, 0, 0), (159, .ireturn, 1, 0, 0, 0), (160, .aload_n 0, 1, 0, 0, 0), (161, .getfield 117, 3, 10, 37, 36), (164, .iload 4, 2, 0, 0, 0), (166, .baload, 1, 0, 0, 0), (167, .ifCond .eq 7, 3, 0, 0, 0), (170, .iconst 1, 1, 0, 0, 0), (171, .goto 4, 3, 0, 0, 0), (174, .iconst 0, 1, 0, 0, 0), (175, .ireturn, 1, 0, 0, 0), (176, .iconst (-1), 1, 0, 0, 0), (177, .ireturn, 1, 0, 0, 0)]
def t_161 : i_T := (161, c_161, 5, (some .int), 0, 0)
def c_162 : List i_X := [(0, .aload_n 2, 1, 0, 0, 0), (1, .iconst 0, 1, 0, 0, 0), (2, .aload_n 0, 1, 0, 0, 0), (3, .iload_n 1, 1, 0, 0, 0), (4, .invokevirtual 7, 3, 8, 1, 0), (7, .lastore, 1, 0, 0, 0), (8, .goto 6, 3, 0, 0, 0), (11, .astore_n 3, 1, 0, 0, 0), (12, .iconst 1, 1, 0, 0, 0), (13, .ireturn, 1, 0, 0, 0), (14, .iconst 0, 1, 0, 0, 0), (15, .ireturn, 1, 0, 0, 0)]
def t_162 : i_T := (162, c_162, 4, (some .int), 1, 6)
def c_163 : List i_X := [(0, .aload_n 0, 1, 0, 0, 0), (1, .iload_n 1, 1, 0, 0, 0), (2, .iload_n 2, 1, 0, 0, 0), (3, .invokevirtual 15, 3, 9, 2, 1), (6, .goto 9, 3, 0, 0, 0), (9, .astore_n 3, 1, 0, 0, 0), (10, .iconst 1, 1, 0, 0, 0), (11, .ireturn, 1, 0, 0, 0), (12, .astore_n 3, 1, 0, 0, 0), (13, .iconst 2, 1, 0, 0, 0), (14, .ireturn, 1, 0, 0, 0), (15, .iconst 0, 1, 0, 0, 0), (16, .ireturn, 1, 0, 0, 0)]
def t_163 : i_T := (163, c_163, 4, (some .int), 1, 6)
def c_164 : List i_X := [(0, .aload 4, 2, 0, 0, 0), (2, .iconst 0, 1, 0, 0, 0), (3, .aload_n 0, 1, 0, 0, 0), (4, .iload_n 1, 1, 0, 0, 0), (5, .iload_n 2, 1, 0, 0, 0), (6, .iload_n 3, 1, 0, 0, 0), (7, .invokevirtual 21, 3, 11, 3, 2), (10, .i2l, 1, 0, 0, 0), (11, .lastore, 1, 0, 0, 0), (12, .goto 11, 3, 0, 0, 0), (15, .astore 5, 2, 0, 0, 0), (17, .iconst 1, 1, 0, 0, 0), (18, .ireturn, 1, 0, 0, 0), (19, .astore 5, 2, 0, 0, 0), (21, .iconst 2, 1, 0, 0, 0), (22, .ireturn, 1, 0, 0, 0), (23, .iconst 0, 1, 0, 0, 0), (24, .ireturn, 1, 0, 0, 0)]
def t_164 : i_T := (164, c_164, 6, (some .int), 1, 6)
def c_165 : List i_X := [(0, .aload 4, 2, 0, 0, 0), (2, .iconst 0, 1, 0, 0, 0), (3, .aload_n 0, 1, 0, 0, 0), (4, .iload_n 1, 1, 0, 0, 0), (5, .iload_n 2, 1, 0, 0, 0), (6, .iload_n 3, 1, 0, 0, 0), (7, .invokevirtual 25, 3, 12, 3, 3), (10, .i2l, 1, 0, 0, 0), (11, .lastore, 1, 0, 0, 0), (12, .goto 11, 3, 0, 0, 0), (15, .astore 5, 2, 0, 0, 0), (17, .iconst 1, 1, 0, 0, 0), (18, .ireturn, 1, 0, 0, 0), (19, .astore 5, 2, 0, 0, 0), (21, .iconst 2, 1, 0, 0, 0), (22, .ireturn, 1, 0, 0, 0), (23, .iconst 0, 1, 0, 0, 0), (24, .ireturn, 1, 0, 0, 0)]
def t_165 : i_T := (165, c_165, 6, (some .int), 2, 12)
def c_166 : List i_X := [(0, .aload_n 3, 1, 0, 0, 0), (1, .iconst 0, 1, 0, 0, 0), (2, .aload_n 0, 1, 0, 0, 0), (3, .iload_n 1, 1, 0, 0, 0), (4, .iload_n 2, 1, 0, 0, 0), (5, .invokevirtual 29, 3, 13, 2, 4), (8, .i2l, 1, 0, 0, 0), (9, .lastore, 1, 0, 0, 0), (10, .goto 11, 3, 0, 0, 0), (13, .astore 4, 2, 0, 0, 0), (15, .iconst 1, 1, 0, 0, 0), (16, .ireturn, 1, 0, 0, 0), (17, .astore 4, 2, 0, 0, 0), (19, .iconst 2, 1, 0, 0, 0), (20, .ireturn, 1, 0, 0, 0), (21, .iconst 0, 1, 0, 0, 0), (22, .ireturn, 1, 0, 0, 0)]
def t_166 : i_T := (166, c_166, 5, (some .int), 2, 12)
def c_167 : List i_X := [(0, .aload_n 0, 1, 0, 0, 0), (1, .iload_n 1, 1, 0, 0, 0), (2, .iload_n 2, 1, 0, 0, 0), (3, .invokevirtual 33, 3, 14, 2, 5), (6, .goto 9, 3, 0, 0, 0), (9, .astore_n 3, 1, 0, 0, 0), (10, .iconst 1, 1, 0, 0, 0), (11, .ireturn, 1, 0, 0, 0), (12, .astore_n 3, 1, 0, 0, 0), (13, .iconst 2, 1, 0, 0, 0), (14, .ireturn, 1, 0, 0, 0), (15, .iconst 0, 1, 0, 0, 0), (16, .ireturn, 1, 0, 0, 0)]
def t_167 : i_T := (167, c_167, 4, (some .int), 1, 6)
def c_168 : List i_X := [(0, .aload_n 0, 1, 0, 0, 0), (1, .iload_n 1, 1, 0, 0, 0), (2, .iload_n 2, 1, 0, 0, 0), (3, .invokevirtual 36, 3, 15, 2, 6), (6, .goto 9, 3, 0, 0, 0), (9, .astore_n 3, 1, 0, 0, 0), (10, .iconst 1, 1, 0, 0, 0), (11, .ireturn, 1, 0, 0, 0), (12, .astore_n 3, 1, 0, 0, 0), (13, .iconst 2, 1, 0, 0, 0), (14, .ireturn, 1, 0, 0, 0), (15, .iconst 0, 1, 0, 0, 0), (16, .ireturn, 1, 0, 0, 0)]
def t_168 : i_T := (168, c_168, 4, (some .int), 1, 6)
def c_169 : List i_X := [(0, .new 8, 3, 5, 0, 7), (3, .dup, 1, 0, 0, 0), (4, .invokespecial 39, 3, 0, 1, 8), (7, .astore_n 1, 1, 0, 0, 0), (8, .new 40, 3, 10, 0, 9), (11, .dup, 1, 0, 0, 0), (12, .invokespecial 42, 3, 104, 1, 10), (15, .astore_n 2, 1, 0, 0, 0), (16, .iconst 1, 1, 0, 0, 0), (17, .newarray .long, 2, 1, 1, 0), (19, .astore_n 3, 1, 0, 0, 0), (20, .iconst 0, 1, 0, 0, 0), (21, .istore 4, 2, 0, 0, 0), (23, .iload 4, 2, 0, 0, 0), (25, .aload_n 0, 1, 0, 0, 0), (26, .arraylength, 1, 0, 0, 0), (27, .iconst 5, 1, 0, 0, 0), (28, .isub, 1, 0, 0, 0), (29, .if_icmp .gt 1320, 3, 0, 0, 0), (32, .aload_n 0, 1, 0, 0, 0), (33, .iload 4, 2, 0, 0, 0), (35, .iaload, 1, 0, 0, 0), (36, .bipush 31, 2, 0, 0, 0), (38, .iand, 1, 0, 0, 0), (39, .tableswitch 1304 0 26 #[121, 170, 207, 268, 293, 342, 379, 416, 471, 519, 556, 636, 732, 800, 848, 896, 909, 946, 971, 996, 1021, 1046, 1071, 1108, 1169, 1206, 1255], 121, 0, 0, 0), (160, .aload_n 1, 1, 0, 0, 0), (161, .aload_n 0, 1, 0, 0, 0), (162, .iload 4, 2, 0, 0, 0), (164, .iconst 1, 1, 0, 0, 0), (165, .iadd, 1, 0, 0, 0), (166, .iaload, 1, 0, 0, 0), (167, .aload_n 0, 1, 0, 0, 0), (168, .iload 4, 2, 0, 0, 0), (170, .iconst 2, 1, 0, 0, 0), (171, .iadd, 1, 0, 0, 0), (172, .iaload, 1, 0, 0, 0), (173, .aload_n 0, 1, 0, 0, 0), (174, .iload 4, 2, 0, 0, 0), (176, .iconst 3, 1, 0, 0, 0), (177, .iadd, 1, 0, 0, 0), (178, .iaload, 1, 0, 0, 0), (179, .invokevirtual 43, 3, 1, 3, 11), (182, .aload_n 2, 1, 0, 0, 0), (183, .aload_n 0, 1, 0, 0, 0), (184, .iload 4, 2, 0, 0, 0), (186, .iconst 1, 1, 0, 0, 0), (187, .iadd, 1, 0, 0, 0), (188, .iaload, 1, 0, 0, 0), (189, .aload_n 0, 1, 0, 0, 0), (190, .iload 4, 2, 0, 0, 0), (192, .iconst 2, 1, 0, 0, 0), (193, .iadd, 1, 0, 0, 0), (194, .iaload, 1, 0, 0, 0), (195, .aload_n 0, 1, 0, 0, 0), (196, .iload 4, 2, 0, 0, 0), (198, .iconst 3, 1, 0, 0, 0), (199, .iadd, 1, 0, 0, 0), (200, .iaload, 1, 0, 0, 0), (201, .invokevirtual 47, 3, 111, 3, 12), (204, .if_icmp .eq 1139, 3, 0, 0, 0), (207, .iconst 0, 1, 0, 0, 0), (208, .ireturn, 1, 0, 0, 0), (209, .aload_n 1, 1, 0, 0, 0), (210, .aload_n 0, 1, 0, 0, 0), (211, .iload 4, 2, 0, 0, 0), (213, .iconst 1, 1, 0, 0, 0), (214, .iadd, 1, 0, 0, 0), (215, .iaload, 1, 0, 0, 0), (216, .aload_n 0, 1, 0, 0, 0), (217, .iload 4, 2, 0, 0, 0), (219, .iconst 2, 1, 0, 0, 0), (220, .iadd, 1, 0, 0, 0), (221, .iaload, 1, 0, 0, 0), (222, .invokevirtual 48, 3, 2, 2, 13), (225, .aload_n 2, 1, 0, 0, 0), (226, .aload_n 0, 1, 0, 0, 0), (227, .iload 4, 2, 0, 0, 0), (229, .iconst 1, 1, 0, 0, 0), (230, .iadd, 1, 0, 0, 0), (231, .iaload, 1, 0, 0, 0), (232, .aload_n 0, 1, 0, 0, 0), (233, .iload 4, 2, 0, 0, 0), (235, .iconst 2, 1, 0, 0, 0), (236, .iadd, 1, 0, 0, 0), (237, .iaload, 1, 0, 0, 0), (238, .invokevirtual 52, 3, 112, 2, 14), (241, .if_icmp .eq 1102, 3, 0, 0, 0), (244, .iconst 0, 1, 0, 0, 0), (245, .ireturn, 1, 0, 0, 0), (246, .aload_n 1, 1, 0, 0, 0), (247, .aload_n 0, 1, 0, 0, 0), (248, .iload 4, 2, 0, 0, 0), (250, .iconst 1, 1, 0, 0, 0), (251, .iadd, 1, 0, 0, 0), (252, .iaload, 1, 0, 0, 0), (253, .aload_n 0, 1, 0, 0, 0), (254, .iload 4, 2, 0, 0, 0), (256, .iconst 2, 1, 0, 0, 0), (257, .iadd, 1, 0, 0, 0), (258, .iaload, 1, 0, 0, 0), (259, .aload_n 0, 1, 0, 0, 0), (260, .iload 4, 2, 0, 0, 0), (262, .iconst 3, 1, 0, 0, 0), (263, .iadd, 1, 0, 0, 0), (264, .iaload, 1, 0, 0, 0), (265, .aload_n 0, 1, 0, 0, 0), (266, .iload 4, 2, 0, 0, 0), (268, .iconst 4, 1, 0, 0, 0), (269, .iadd, 1, 0, 0, 0), (270, .iaload, 1, 0, 0, 0), (271, .invokevirtual 53, 3, 3, 4, 15), (274, .aload_n 2, 1, 0, 0, 0), (275, .aload_n 0, 1, 0, 0, 0), (276, .iload 4, 2, 0, 0, 0), (278, .iconst 1, 1, 0, 0, 0), (279, .iadd, 1, 0, 0, 0), (280, .iaload, 1, 0, 0, 0), (281, .aload_n 0, 1, 0, 0, 0), (282, .iload 4, 2, 0, 0, 0), (284, .iconst 2, 1, 0, 0, 0), (285, .iadd, 1, 0, 0, 0), (286, .iaload, 1, 0, 0, 0), (287, .aload_n 0, 1, 0, 0, 0), (288, .iload 4, 2, 0, 0, 0), (290, .iconst 3, 1, 0, 0, 0), (291, .iadd, 1, 0, 0, 0), (292, .iaload, 1, 0, 0, 0), (293, .aload_n 0, 1, 0, 0, 0), (294, .iload 4, 2, 0, 0, 0), (296, .iconst 4, 1, 0, 0, 0), (297, .iadd, 1, 0, 0, 0), (298, .iaload, 1, 0, 0, 0), (299, .invokevirtual 57, 3, 114, 4, 16), (302, .if_icmp .eq 1041, 3, 0, 0, 0), (305, .iconst 0, 1, 0, 0, 0), (306, .ireturn, 1, 0, 0, 0), (307, .aload_n 1, 1, 0, 0, 0), (308, .aload_n 0, 1, 0, 0, 0), (309, .iload 4, 2, 0, 0, 0), (311, .iconst 1, 1, 0, 0, 0), (312, .iadd, 1, 0, 0, 0), (313, .iaload, 1, 0, 0, 0), (314, .invokevirtual 58, 3, 4, 1, 17), (317, .aload_n 2, 1, 0, 0, 0), (318, .aload_n 0, 1, 0, 0, 0), (319, .iload 4, 2, 0, 0, 0), (321, .iconst 1, 1, 0, 0, 0), (322, .iadd, 1, 0, 0, 0), (323, .iaload, 1, 0, 0, 0), (324, .invokevirtual 62, 3, 115, 1, 18), (327, .if_icmp .eq 1016, 3, 0, 0, 0), (330, .iconst 0, 1, 0, 0, 0), (331, .ireturn, 1, 0, 0, 0), (332, .aload_n 1, 1, 0, 0, 0), (333, .aload_n 0, 1, 0, 0, 0), (334, .iload 4, 2, 0, 0, 0), (336, .iconst 1, 1, 0, 0, 0), (337, .iadd, 1, 0, 0, 0), (338, .iaload, 1, 0, 0, 0), (339, .aload_n 0, 1, 0, 0, 0), (340, .iload 4, 2, 0, 0, 0), (342, .iconst 2, 1, 0, 0, 0), (343, .iadd, 1, 0, 0, 0), (344, .iaload, 1, 0, 0, 0), (345, .aload_n 0, 1, 0, 0, 0), (346, .iload 4, 2, 0, 0, 0), (348, .iconst 3, 1, 0, 0, 0), (349, .iadd, 1, 0, 0, 0), (350, .iaload, 1, 0, 0, 0), (351, .invokevirtual 63, 3, 5, 3, 19), (354, .aload_n 2, 1, 0, 0, 0), (355, .aload_n 0, 1, 0, 0, 0), (356, .iload 4, 2, 0, 0, 0), (358, .iconst 1, 1, 0, 0, 0), (359, .iadd, 1, 0, 0, 0), (360, .iaload, 1, 0, 0, 0), (361, .aload_n 0, 1, 0, 0, 0), (362, .iload 4, 2, 0, 0, 0), (364, .iconst 2, 1, 0, 0, 0), (365, .iadd, 1, 0, 0, 0), (366, .iaload, 1, 0, 0, 0), (367, .aload_n 0, 1, 0, 0, 0), (368, .iload 4, 2, 0, 0, 0), (370, .iconst 3, 1, 0, 0, 0), (371, .iadd, 1, 0, 0, 0), (372, .iaload, 1, 0, 0, 0), (373, .invokevirtual 66, 3, 135, 3, 20), (376, .if_icmp .eq 967, 3, 0, 0, 0), (379, .iconst 0, 1, 0, 0, 0), (380, .ireturn, 1, 0, 0, 0), (381, .aload_n 1, 1, 0, 0, 0), (382, .aload_n 0, 1, 0, 0, 0), (383, .iload 4, 2, 0, 0, 0), (385, .iconst 1, 1, 0, 0, 0), (386, .iadd, 1, 0, 0, 0), (387, .iaload, 1, 0, 0, 0), (388, .aload_n 0, 1, 0, 0, 0), (389, .iload 4, 2, 0, 0, 0), (391, .iconst 2, 1, 0, 0, 0), (392, .iadd, 1, 0, 0, 0), (393, .iaload, 1, 0, 0, 0), (394, .invokevirtual 67, 3, 6, 2, 21), (397, .aload_n 2, 1, 0, 0, 0), (398, .aload_n 0, 1, 0, 0, 0), (399, .iload 4, 2, 0, 0, 0), (401, .iconst 1, 1, 0, 0, 0), (402, .iadd, 1, 0, 0, 0), (403, .iaload, 1, 0, 0, 0), (404, .aload_n 0, 1, 0, 0, 0), (405, .iload 4, 2, 0, 0, 0), (407, .iconst 2, 1, 0, 0, 0), (408, .iadd, 1, 0, 0, 0), (409, .iaload, 1, 0, 0, 0), (410, .invokevirtual 70, 3, 136, 2, 22), (413, .if_icmp .eq 930, 3, 0, 0, 0), (416, .iconst 0, 1, 0, 0, 0), (417, .ireturn, 1, 0, 0, 0), (418, .aload_n 1, 1, 0, 0, 0), (419, .aload_n 0, 1, 0, 0, 0), (420, .iload 4, 2, 0, 0, 0), (422, .iconst 1, 1, 0, 0, 0), (423, .iadd, 1, 0, 0, 0), (424, .iaload, 1, 0, 0, 0), (425, .aload_n 0, 1, 0, 0, 0), (426, .iload 4, 2, 0, 0, 0), (428, .iconst 2, 1, 0, 0, 0), (429, .iadd, 1, 0, 0, 0), (430, .iaload, 1, 0, 0, 0), (431, .invokevirtual 71, 3, 7, 2, 23), (434, .aload_n 2, 1, 0, 0, 0), (435, .aload_n 0, 1, 0, 0, 0), (436, .iload 4, 2, 0, 0, 0), (438, .iconst 1, 1, 0, 0, 0), (439, .iadd, 1, 0, 0, 0), (440, .iaload, 1, 0, 0, 0), (441, .aload_n 0, 1, 0, 0, 0), (442, .iload 4, 2, 0, 0, 0), (444, .iconst 2, 1, 0, 0, 0), (445, .iadd, 1, 0, 0, 0), (446, .iaload, 1, 0, 0, 0), (447, .invokevirtual 74, 3, 137, 2, 24), (450, .if_icmp .eq 893, 3, 0, 0, 0), (453, .iconst 0, 1, 0, 0, 0), (454, .ireturn, 1, 0, 0, 0), (455, .aload_n 1, 1, 0, 0, 0), (456, .aload_n 0, 1, 0, 0, 0), (457, .iload 4, 2, 0, 0, 0), (459, .iconst 1, 1, 0, 0, 0), (460, .iadd, 1, 0, 0, 0), (461, .iaload, 1, 0, 0, 0), (462, .aload_n 3, 1, 0, 0, 0), (463, .invokestatic 75, 3, 162, 4, 25), (466, .istore 5, 2, 0, 0, 0), (468, .aload_n 2, 1, 0, 0, 0), (469, .aload_n 0, 1, 0, 0, 0), (470, .iload 4, 2, 0, 0, 0), (472, .iconst 1, 1, 0, 0, 0), (473, .iadd, 1, 0, 0, 0), (474, .iaload, 1, 0, 0, 0), (475, .invokevirtual 80, 3, 138, 1, 26), (478, .lstore 6, 2, 0, 0, 0), (480, .aload_n 2, 1, 0, 0, 0), (481, .invokevirtual 81, 3, 105, 0, 27), (484, .iload 5, 2, 0, 0, 0), (486, .if_icmp .eq 5, 3, 0, 0, 0), (489, .iconst 0, 1, 0, 0, 0), (490, .ireturn, 1, 0, 0, 0), (491, .iload 5, 2, 0, 0, 0), (493, .ifCond .ne 14, 3, 0, 0, 0), (496, .aload_n 3, 1, 0, 0, 0), (497, .iconst 0, 1, 0, 0, 0), (498, .laload, 1, 0, 0, 0), (499, .lload 6, 2, 0, 0, 0), (501, .lcmp, 1, 0, 0, 0), (502, .ifCond .eq 5, 3, 0, 0, 0), (505, .iconst 0, 1, 0, 0, 0), (506, .ireturn, 1, 0, 0, 0), (507, .goto 836, 3, 0, 0, 0), (510, .aload_n 1, 1, 0, 0, 0), (511, .aload_n 0, 1, 0, 0, 0), (512, .iload 4, 2, 0, 0, 0), (514, .iconst 1, 1, 0, 0, 0), (515, .iadd, 1, 0, 0, 0), (516, .iaload, 1, 0, 0, 0), (517, .aload_n 0, 1, 0, 0, 0), (518, .iload 4, 2, 0, 0, 0), (520, .iconst 2, 1, 0, 0, 0), (521, .iadd, 1, 0, 0, 0), (522, .iaload, 1, 0, 0, 0), (523, .invokestatic 85, 3, 163, 4, 28), (526, .istore 5, 2, 0, 0, 0), (528, .aload_n 2, 1, 0, 0, 0), (529, .aload_n 0, 1, 0, 0, 0), (530, .iload 4, 2, 0, 0, 0), (532, .iconst 1, 1, 0, 0, 0), (533, .iadd, 1, 0, 0, 0), (534, .iaload, 1, 0, 0, 0), (535, .aload_n 0, 1, 0, 0, 0), (536, .iload 4, 2, 0, 0, 0), (538, .iconst 2, 1, 0, 0, 0), (539, .iadd, 1, 0, 0, 0), (540, .iaload, 1, 0, 0, 0), (541, .invokevirtual 88, 3, 139, 2, 29), (544, .aload_n 2, 1, 0, 0, 0), (545, .invokevirtual 81, 3, 105, 0, 27), (548, .iload 5, 2, 0, 0, 0), (550, .if_icmp .eq 5, 3, 0, 0, 0), (553, .iconst 0, 1, 0, 0, 0), (554, .ireturn, 1, 0, 0, 0), (555, .goto 788, 3, 0, 0, 0), (558, .aload_n 1, 1, 0, 0, 0), (559, .aload_n 0, 1, 0, 0, 0), (560, .iload 4, 2, 0, 0, 0), (562, .iconst 1, 1, 0, 0, 0), (563, .iadd, 1, 0, 0, 0), (564, .iaload, 1, 0, 0, 0), (565, .aload_n 0, 1, 0, 0, 0), (566, .iload 4, 2, 0, 0, 0), (568, .iconst 2, 1, 0, 0, 0), (569, .iadd, 1, 0, 0, 0), (570, .iaload, 1, 0, 0, 0), (571, .invokevirtual 89, 3, 10, 2, 30), (574, .aload_n 2, 1, 0, 0, 0), (575, .aload_n 0, 1, 0, 0, 0), (576, .iload 4, 2, 0, 0, 0), (578, .iconst 1, 1, 0, 0, 0), (579, .iadd, 1, 0, 0, 0), (580, .iaload, 1, 0, 0, 0), (581, .aload_n 0, 1, 0, 0, 0), (582, .iload 4, 2, 0, 0, 0), (584, .iconst 2, 1, 0, 0, 0), (585, .iadd, 1, 0, 0, 0), (586, .iaload, 1, 0, 0, 0), (587, .invokevirtual 92, 3, 141, 2, 31), (590, .if_icmp .eq 753, 3, 0, 0, 0), (593, .iconst 0, 1, 0, 0, 0), (594, .ireturn, 1, 0, 0, 0), (595, .aload_n 1, 1, 0, 0, 0), (596, .aload_n 0, 1, 0, 0, 0), (597, .iload 4, 2, 0, 0, 0), (599, .iconst 1, 1, 0, 0, 0), (600, .iadd, 1, 0, 0, 0), (601, .iaload, 1, 0, 0, 0), (602, .aload_n 0, 1, 0, 0, 0), (603, .iload 4, 2, 0, 0, 0), (605, .iconst 2, 1, 0, 0, 0), (606, .iadd, 1, 0, 0, 0), (607, .iaload, 1, 0, 0, 0), (608, .aload_n 0, 1, 0, 0, 0), (609, .iload 4, 2, 0, 0, 0), (611, .iconst 3, 1, 0, 0, 0), (612, .iadd, 1, 0, 0, 0), (613, .iaload, 1, 0, 0, 0), (614, .aload_n 3, 1, 0, 0, 0), (615, .invokestatic 93, 3, 164, 6, 32), (618, .istore 5, 2, 0, 0, 0), (620, .aload_n 2, 1, 0, 0, 0), (621, .aload_n 0, 1, 0, 0, 0), (622, .iload 4, 2, 0, 0, 0), (624, .iconst 1, 1, 0, 0, 0), (625, .iadd, 1, 0, 0, 0), (626, .iaload, 1, 0, 0, 0), (627, .aload_n 0, 1, 0, 0, 0), (628, .iload 4, 2, 0, 0, 0), (630, .iconst 2, 1, 0, 0, 0), (631, .iadd, 1, 0, 0, 0), (632, .iaload, 1, 0, 0, 0), (633, .aload_n 0, 1, 0, 0, 0), (634, .iload 4, 2, 0, 0, 0), (636, .iconst 3, 1, 0, 0, 0), (637, .iadd, 1, 0, 0, 0), (638, .iaload, 1, 0, 0, 0), (639, .invokevirtual 96, 3, 146, 3, 33), (642, .istore 6, 2, 0, 0, 0), (644, .aload_n 2, 1, 0, 0, 0), (645, .invokevirtual 81, 3, 105, 0, 27), (648, .iload 5, 2, 0, 0, 0), (650, .if_icmp .eq 5, 3, 0, 0, 0), (653, .iconst 0, 1, 0, 0, 0), (654, .ireturn, 1, 0, 0, 0), (655, .iload 5, 2, 0, 0, 0), (657, .ifCond .ne 15, 3, 0, 0, 0), (660, .aload_n 3, 1, 0, 0, 0), (661, .iconst 0, 1, 0, 0, 0), (662, .laload, 1, 0, 0, 0), (663, .iload 6, 2, 0, 0, 0), (665, .i2l, 1, 0, 0, 0), (666, .lcmp, 1, 0, 0, 0), (667, .ifCond .eq 5, 3, 0, 0, 0), (670, .iconst 0, 1, 0, 0, 0), (671, .ireturn, 1, 0, 0, 0), (672, .goto 671, 3, 0, 0, 0), (675, .aload_n 1, 1, 0, 0, 0), (676, .aload_n 0, 1, 0, 0, 0), (677, .iload 4, 2, 0, 0, 0), (679, .iconst 1, 1, 0, 0, 0), (680, .iadd, 1, 0, 0, 0), (681, .iaload, 1, 0, 0, 0), (682, .aload_n 0, 1, 0, 0, 0), (683, .iload 4, 2, 0, 0, 0), (685, .iconst 2, 1, 0, 0, 0), (686, .iadd, 1, 0, 0, 0), (687, .iaload, 1, 0, 0, 0), (688, .aload_n 0, 1, 0, 0, 0), (689, .iload 4, 2, 0, 0, 0), (691, .iconst 3, 1, 0, 0, 0), (692, .iadd, 1, 0, 0, 0), (693, .iaload, 1, 0, 0, 0), (694, .ifCond .eq 7, 3, 0, 0, 0), (697, .iconst 1, 1, 0, 0, 0), (698, .goto 4, 3, 0, 0, 0), (701, .iconst 0, 1, 0, 0, 0), (702, .aload_n 3, 1, 0, 0, 0), (703, .invokestatic 97, 3, 165, 6, 34), (706, .istore 5, 2, 0, 0, 0), (708, .aload_n 2, 1, 0, 0, 0), (709, .aload_n 0, 1, 0, 0, 0), (710, .iload 4, 2, 0, 0, 0), (712, .iconst 1, 1, 0, 0, 0), (713, .iadd, 1, 0, 0, 0), (714, .iaload, 1, 0, 0, 0), (715, .aload_n 0, 1, 0, 0, 0), (716, .iload 4, 2, 0, 0, 0), (718, .iconst 2, 1, 0, 0, 0), (719, .iadd, 1, 0, 0, 0), (720, .iaload, 1, 0, 0, 0), (721, .aload_n 0, 1, 0, 0, 0), (722, .iload 4, 2, 0, 0, 0), (724, .iconst 3, 1, 0, 0, 0), (725, .iadd, 1, 0, 0, 0), (726, .iaload, 1, 0, 0, 0), (727, .ifCond .eq 7, 3, 0, 0, 0), (730, .iconst 1, 1, 0, 0, 0), (731, .goto 4, 3, 0, 0, 0), (734, .iconst 0, 1, 0, 0, 0), (735, .invokevirtual 100, 3, 147, 3, 35), (738, .istore 6, 2, 0, 0, 0), (740, .aload_n 2, 1, 0, 0, 0), (741, .invokevirtual 81, 3, 105, 0, 27), (744, .iload 5, 2, 0, 0, 0), (746, .if_icmp .eq 5, 3, 0, 0, 0), (749, .iconst 0, 1, 0, 0, 0), (750, .ireturn, 1, 0, 0, 0), (751, .iload 5, 2, 0, 0, 0), (753, .ifCond .ne 15, 3, 0, 0, 0), (756, .aload_n 3, 1, 0, 0, 0), (757, .iconst 0, 1, 0, 0, 0), (758, .laload, 1, 0, 0, 0), (759, .iload 6, 2, 0, 0, 0), (761, .i2l, 1, 0, 0, 0), (762, .lcmp, 1, 0, 0, 0), (763, .ifCond .eq 5, 3, 0, 0, 0), (766, .iconst 0, 1, 0, 0, 0), (767, .ireturn, 1, 0, 0, 0), (768, .goto 575, 3, 0, 0, 0), (771, .aload_n 1, 1, 0, 0, 0), (772, .aload_n 0, 1, 0, 0, 0), (773, .iload 4, 2, 0, 0, 0), (775, .iconst 1, 1, 0, 0, 0), (776, .iadd, 1, 0, 0, 0), (777, .iaload, 1, 0, 0, 0), (778, .aload_n 0, 1, 0, 0, 0), (779, .iload 4, 2, 0, 0, 0), (781, .iconst 2, 1, 0, 0, 0), (782, .iadd, 1, 0, 0, 0), (783, .iaload, 1, 0, 0, 0), (784, .aload_n 3, 1, 0, 0, 0), (785, .invokestatic 101, 3, 166, 5, 36), (788, .istore 5, 2, 0, 0, 0), (790, .aload_n 2, 1, 0, 0, 0), (791, .aload_n 0, 1, 0, 0, 0), (792, .iload 4, 2, 0, 0, 0), (794, .iconst 1, 1, 0, 0, 0), (795, .iadd, 1, 0, 0, 0), (796, .iaload, 1, 0, 0, 0), (797, .aload_n 0, 1, 0, 0, 0), (798, .iload 4, 2, 0, 0, 0), (800, .iconst 2, 1, 0, 0, 0), (801, .iadd, 1, 0, 0, 0), (802, .iaload, 1, 0, 0, 0), (803, .invokevirtual 104, 3, 152, 2, 37), (806, .istore 6, 2, 0, 0, 0), (808, .aload_n 2, 1, 0, 0, 0), (809, .invokevirtual 81, 3, 105, 0, 27), (812, .iload 5, 2, 0, 0, 0), (814, .if_icmp .eq 5, 3, 0, 0, 0), (817, .iconst 0, 1, 0, 0, 0), (818, .ireturn, 1, 0, 0, 0), (819, .iload 5, 2, 0, 0, 0), (821, .ifCond .ne 15, 3, 0, 0, 0), (824, .aload_n 3, 1, 0, 0, 0), (825, .iconst 0, 1, 0, 0, 0), (826, .laload, 1, 0, 0, 0), (827, .iload 6, 2, 0, 0, 0), (829, .i2l, 1, 0, 0, 0), (830, .lcmp, 1, 0, 0, 0), (831, .ifCond .eq 5, 3, 0, 0, 0), (834, .iconst 0, 1, 0, 0, 0), (835, .ireturn, 1, 0, 0, 0), (836, .goto 507, 3, 0, 0, 0), (839, .aload_n 1, 1, 0, 0, 0), (840, .aload_n 0, 1, 0, 0, 0), (841, .iload 4, 2, 0, 0, 0), (843, .iconst 1, 1, 0, 0, 0), (844, .iadd, 1, 0, 0, 0), (845, .iaload, 1, 0, 0, 0), (846, .aload_n 0, 1, 0, 0, 0), (847, .iload 4, 2, 0, 0, 0), (849, .iconst 2, 1, 0, 0, 0), (850, .iadd, 1, 0, 0, 0), (851, .iaload, 1, 0, 0, 0), (852, .invokestatic 105, 3, 167, 4, 38), (855, .istore 5, 2, 0, 0, 0), (857, .aload_n 2, 1, 0, 0, 0), (858, .aload_n 0, 1, 0, 0, 0), (859, .iload 4, 2, 0, 0, 0), (861, .iconst 1, 1, 0, 0, 0), (862, .iadd, 1, 0, 0, 0), (863, .iaload, 1, 0, 0, 0), (864, .aload_n 0, 1, 0, 0, 0), (865, .iload 4, 2, 0, 0, 0), (867, .iconst 2, 1, 0, 0, 0), (868, .iadd, 1, 0, 0, 0), (869, .iaload, 1, 0, 0, 0), (870, .invokevirtual 107, 3, 153, 2, 39), (873, .aload_n 2, 1, 0, 0, 0), (874, .invokevirtual 81, 3, 105, 0, 27), (877, .iload 5, 2, 0, 0, 0), (879, .if_icmp .eq 5, 3, 0, 0, 0), (882, .iconst 0, 1, 0, 0, 0), (883, .ireturn, 1, 0, 0, 0), (884, .goto 459, 3, 0, 0, 0), (887, .aload_n 1, 1, 0, 0, 0), (888, .aload_n 0, 1, 0, 0, 0), (889, .iload 4, 2, 0, 0, 0), (891, .iconst 1, 1, 0, 0, 0), (892, .iadd, 1, 0, 0, 0), (893, .iaload, 1, 0, 0, 0), (894, .aload_n 0, 1, 0, 0, 0), (895, .iload 4, 2, 0, 0, 0), (897, .iconst 2, 1, 0, 0, 0), (898, .iadd, 1, 0, 0, 0), (899, .iaload, 1, 0, 0, 0), (900, .invokestatic 108, 3, 168, 4, 40), (903, .istore 5, 2, 0, 0, 0), (905, .aload_n 2, 1, 0, 0, 0), (906, .aload_n 0, 1, 0, 0, 0), (907, .iload 4, 2, 0, 0, 0), (909, .iconst 1, 1, 0, 0, 0), (910, .iadd, 1, 0, 0, 0), (911, .iaload, 1, 0, 0, 0), (912, .aload_n 0, 1, 0, 0, 0), (913, .iload 4, 2, 0, 0, 0), (915, .iconst 2, 1, 0, 0, 0), (916, .iadd, 1, 0, 0, 0), (917, .iaload, 1, 0, 0, 0), (918, .invokevirtual 110, 3, 154, 2, 41), (921, .aload_n 2, 1, 0, 0, 0), (922, .invokevirtual 81, 3, 105, 0, 27), (925, .iload 5, 2, 0, 0, 0), (927, .if_icmp .eq 5, 3, 0, 0, 0), (930, .iconst 0, 1, 0, 0, 0), (931, .ireturn, 1, 0, 0, 0), (932, .goto 411, 3, 0, 0, 0), (935, .aload_n 1, 1, 0, 0, 0), (936, .invokevirtual 111, 3, 16, 0, 42), (939, .aload_n 2, 1, 0, 0, 0), (940, .invokevirtual 114, 3, 133, 0, 43), (943, .if_icmp .eq 400, 3, 0, 0, 0), (946, .iconst 0, 1, 0, 0, 0), (947, .ireturn, 1, 0, 0, 0), (948, .aload_n 1, 1, 0, 0, 0), (949, .aload_n 0, 1, 0, 0, 0), (950, .iload 4, 2, 0, 0, 0), (952, .iconst 1, 1, 0, 0, 0), (953, .iadd, 1, 0, 0, 0), (954, .iaload, 1, 0, 0, 0), (955, .aload_n 0, 1, 0, 0, 0), (956, .iload 4, 2, 0, 0, 0), (958, .iconst 2, 1, 0, 0, 0), (959, .iadd, 1, 0, 0, 0), (960, .iaload, 1, 0, 0, 0), (961, .invokevirtual 115, 3, 17, 2, 44), (964, .aload_n 2, 1, 0, 0, 0), (965, .aload_n 0, 1, 0, 0, 0), (966, .iload 4, 2, 0, 0, 0), (968, .iconst 1, 1, 0, 0, 0), (969, .iadd, 1, 0, 0, 0), (970, .iaload, 1, 0, 0, 0), (971, .aload_n 0, 1, 0, 0, 0), (972, .iload 4, 2, 0, 0, 0), (974, .iconst 2, 1, 0, 0, 0), (975, .iadd, 1, 0, 0, 0), (976, .iaload, 1, 0, 0, 0), (977, .invokevirtual 118, 3, 134, 2, 45), (980, .if_icmp .eq 363, 3, 0, 0, 0), (983, .iconst 0, 1, 0, 0, 0), (984, .ireturn, 1, 0, 0, 0), (985, .aload_n 1, 1, 0, 0, 0), (986, .aload_n 0, 1, 0, 0, 0), (987, .iload 4, 2, 0, 0, 0), (989, .iconst 1, 1, 0, 0, 0), (990, .iadd, 1, 0, 0, 0), (991, .iaload, 1, 0, 0, 0), (992, .invokevirtual 119, 3, 18, 1, 46), (995, .aload_n 2, 1, 0, 0, 0), (996, .aload_n 0, 1, 0, 0, 0), (997, .iload 4, 2, 0, 0, 0), (999, .iconst 1, 1, 0, 0, 0), (1000, .iadd, 1, 0, 0, 0), (1001, .iaload, 1, 0, 0, 0), (1002, .invokevirtual 123, 3, 130, 1, 47), (1005, .if_icmp .eq 338, 3, 0, 0, 0), (1008, .iconst 0, 1, 0, 0, 0), (1009, .ireturn, 1, 0, 0, 0), (1010, .aload_n 1, 1, 0, 0, 0), (1011, .aload_n 0, 1, 0, 0, 0), (1012, .iload 4, 2, 0, 0, 0), (1014, .iconst 1, 1, 0, 0, 0), (1015, .iadd, 1, 0, 0, 0), (1016, .iaload, 1, 0, 0, 0), (1017, .invokevirtual 124, 3, 19, 1, 48), (1020, .aload_n 2, 1, 0, 0, 0), (1021, .aload_n 0, 1, 0, 0, 0), (1022, .iload 4, 2, 0, 0, 0), (1024, .iconst 1, 1, 0, 0, 0), (1025, .iadd, 1, 0, 0, 0), (1026, .iaload, 1, 0, 0, 0), (1027, .invokevirtual 127, 3, 131, 1, 49), (1030, .if_icmp .eq 313, 3, 0, 0, 0), (1033, .iconst 0, 1, 0, 0, 0), (1034, .ireturn, 1, 0, 0, 0), (1035, .aload_n 1, 1, 0, 0, 0), (1036, .aload_n 0, 1, 0, 0, 0), (1037, .iload 4, 2, 0, 0, 0), (1039, .iconst 1, 1, 0, 0, 0), (1040, .iadd, 1, 0, 0, 0), (1041, .iaload, 1, 0, 0, 0), (1042, .invokevirtual 128, 3, 20, 1, 50), (1045, .aload_n 2, 1, 0, 0, 0), (1046, .aload_n 0, 1, 0, 0, 0), (1047, .iload 4, 2, 0, 0, 0), (1049, .iconst 1, 1, 0, 0, 0), (1050, .iadd, 1, 0, 0, 0), (1051, .iaload, 1, 0, 0, 0), (1052, .invokevirtual 131, 3, 132, 1, 51), (1055, .if_icmp .eq 288, 3, 0, 0, 0), (1058, .iconst 0, 1, 0, 0, 0), (1059, .ireturn, 1, 0, 0, 0), (1060, .aload_n 1, 1, 0, 0, 0), (1061, .aload_n 0, 1, 0, 0, 0), (1062, .iload 4, 2, 0, 0, 0), (1064, .iconst 1, 1, 0, 0, 0), (1065, .iadd, 1, 0, 0, 0), (1066, .iaload, 1, 0, 0, 0), (1067, .invokevirtual 132, 3, 21, 1, 52), (1070, .aload_n 2, 1, 0, 0, 0), (1071, .aload_n 0, 1, 0, 0, 0), (1072, .iload 4, 2, 0, 0, 0), (1074, .iconst 1, 1, 0, 0, 0), (1075, .iadd, 1, 0, 0, 0), (1076, .iaload, 1, 0, 0, 0), (1077, .invokevirtual 135, 3, 155, 1, 53), (1080, .if_icmp .eq 263, 3, 0, 0, 0), (1083, .iconst 0, 1, 0, 0, 0), (1084, .ireturn, 1, 0, 0, 0), (1085, .aload_n 1, 1, 0, 0, 0), (1086, .aload_n 0, 1, 0, 0, 0), (1087, .iload 4, 2, 0, 0, 0), (1089, .iconst 1, 1, 0, 0, 0), (1090, .iadd, 1, 0, 0, 0), (1091, .iaload, 1, 0, 0, 0), (1092, .invokevirtual 136, 3, 22, 1, 54), (1095, .aload_n 2, 1, 0, 0, 0), (1096, .aload_n 0, 1, 0, 0, 0), (1097, .iload 4, 2, 0, 0, 0), (1099, .iconst 1, 1, 0, 0, 0), (1100, .iadd, 1, 0, 0, 0), (1101, .iaload, 1, 0, 0, 0), (1102, .invokevirtual 139, 3, 156, 1, 55), (1105, .if_icmp .eq 238, 3, 0, 0, 0), (1108, .iconst 0, 1, 0, 0, 0), (1109, .ireturn, 1, 0, 0, 0), (1110, .aload_n 1, 1, 0, 0, 0), (1111, .aload_n 0, 1, 0, 0, 0), (1112, .iload 4, 2, 0, 0, 0), (1114, .iconst 1, 1, 0, 0, 0), (1115, .iadd, 1, 0, 0, 0), (1116, .iaload, 1, 0, 0, 0), (1117, .aload_n 0, 1, 0, 0, 0), (1118, .iload 4, 2, 0, 0, 0), (1120, .iconst 2, 1, 0, 0, 0), (1121, .iadd, 1, 0, 0, 0), (1122, .iaload, 1, 0, 0, 0), (1123, .invokevirtual 140, 3, 23, 2, 56), (1126, .aload_n 2, 1, 0, 0, 0), (1127, .aload_n 0, 1, 0, 0, 0), (1128, .iload 4, 2, 0, 0, 0), (1130, .iconst 1, 1, 0, 0, 0), (1131, .iadd, 1, 0, 0, 0), (1132, .iaload, 1, 0, 0, 0), (1133, .aload_n 0, 1, 0, 0, 0), (1134, .iload 4, 2, 0, 0, 0), (1136, .iconst 2, 1, 0, 0, 0), (1137, .iadd, 1, 0, 0, 0), (1138, .iaload, 1, 0, 0, 0), (1139, .invokevirtual 143, 3, 157, 2, 57), (1142, .if_icmp .eq 201, 3, 0, 0, 0), (1145, .iconst 0, 1, 0, 0, 0), (1146, .ireturn, 1, 0, 0, 0), (1147, .aload_n 1, 1, 0, 0, 0), (1148, .aload_n 0, 1, 0, 0, 0), (1149, .iload 4, 2, 0, 0, 0), (1151, .iconst 1, 1, 0, 0, 0), (1152, .iadd, 1, 0, 0, 0), (1153, .iaload, 1, 0, 0, 0), (1154, .aload_n 0, 1, 0, 0, 0), (1155, .iload 4, 2, 0, 0, 0), (1157, .iconst 2, 1, 0, 0, 0), (1158, .iadd, 1, 0, 0, 0), (1159, .iaload, 1, 0, 0, 0), (1160, .aload_n 0, 1, 0, 0, 0), (1161, .iload 4, 2, 0, 0, 0), (1163, .iconst 3, 1, 0, 0, 0), (1164, .iadd, 1, 0, 0, 0), (1165, .iaload, 1, 0, 0, 0), (1166, .aload_n 0, 1, 0, 0, 0), (1167, .iload 4, 2, 0, 0, 0), (1169, .iconst 4, 1, 0, 0, 0), (1170, .iadd, 1, 0, 0, 0), (1171, .iaload, 1, 0, 0, 0), (1172, .invokevirtual 144, 3, 24, 4, 58), (1175, .aload_n 2, 1, 0, 0, 0), (1176, .aload_n 0, 1, 0, 0, 0), (1177, .iload 4, 2, 0, 0, 0), (1179, .iconst 1, 1, 0, 0, 0), (1180, .iadd, 1, 0, 0, 0), (1181, .iaload, 1, 0, 0, 0), (1182, .aload_n 0, 1, 0, 0, 0), (1183, .iload 4, 2, 0, 0, 0), (1185, .iconst 2, 1, 0, 0, 0), (1186, .iadd, 1, 0, 0, 0), (1187, .iaload, 1, 0, 0, 0), (1188, .aload_n 0, 1, 0, 0, 0), (1189, .iload 4, 2, 0, 0, 0), (1191, .iconst 3, 1, 0, 0, 0), (1192, .iadd, 1, 0, 0, 0), (1193, .iaload, 1, 0, 0, 0), (1194, .aload_n 0, 1, 0, 0, 0), (1195, .iload 4, 2, 0, 0, 0), (1197, .iconst 4, 1, 0, 0, 0), (1198, .iadd, 1, 0, 0, 0), (1199, .iaload, 1, 0, 0, 0), (1200, .invokevirtual 148, 3, 158, 4, 59), (1203, .if_icmp .eq 140, 3, 0, 0, 0), (1206, .iconst 0, 1, 0, 0, 0), (1207, .ireturn, 1, 0, 0, 0), (1208, .aload_n 1, 1, 0, 0, 0), (1209, .aload_n 0, 1, 0, 0, 0), (1210, .iload 4, 2, 0, 0, 0), (1212, .iconst 1, 1, 0, 0, 0), (1213, .iadd, 1, 0, 0, 0), (1214, .iaload, 1, 0, 0, 0), (1215, .aload_n 0, 1, 0, 0, 0), (1216, .iload 4, 2, 0, 0, 0), (1218, .iconst 2, 1, 0, 0, 0), (1219, .iadd, 1, 0, 0, 0), (1220, .iaload, 1, 0, 0, 0), (1221, .invokevirtual 149, 3, 25, 2, 60), (1224, .aload_n 2, 1, 0, 0, 0), (1225, .aload_n 0, 1, 0, 0, 0), (1226, .iload 4, 2, 0, 0, 0), (1228, .iconst 1, 1, 0, 0, 0), (1229, .iadd, 1, 0, 0, 0), (1230, .iaload, 1, 0, 0, 0), (1231, .aload_n 0, 1, 0, 0, 0), (1232, .iload 4, 2, 0, 0, 0), (1234, .iconst 2, 1, 0, 0, 0), (1235, .iadd, 1, 0, 0, 0), (1236, .iaload, 1, 0, 0, 0), (1237, .invokevirtual 152, 3, 159, 2, 61), (1240, .if_icmp .eq 103, 3, 0, 0, 0), (1243, .iconst 0, 1, 0, 0, 0), (1244, .ireturn, 1, 0, 0, 0), (1245, .aload_n 1, 1, 0, 0, 0), (1246, .aload_n 0, 1, 0, 0, 0), (1247, .iload 4, 2, 0, 0, 0), (1249, .iconst 1, 1, 0, 0, 0), (1250, .iadd, 1, 0, 0, 0), (1251, .iaload, 1, 0, 0, 0), (1252, .aload_n 0, 1, 0, 0, 0), (1253, .iload 4, 2, 0, 0, 0), (1255, .iconst 2, 1, 0, 0, 0), (1256, .iadd, 1, 0, 0, 0), (1257, .iaload, 1, 0, 0, 0), (1258, .aload_n 0, 1, 0, 0, 0), (1259, .iload 4, 2, 0, 0, 0), (1261, .iconst 3, 1, 0, 0, 0), (1262, .iadd, 1, 0, 0, 0), (1263, .iaload, 1, 0, 0, 0), (1264, .invokevirtual 153, 3, 26, 3, 62), (1267, .aload_n 2, 1, 0, 0, 0), (1268, .aload_n 0, 1, 0, 0, 0), (1269, .iload 4, 2, 0, 0, 0), (1271, .iconst 1, 1, 0, 0, 0), (1272, .iadd, 1, 0, 0, 0), (1273, .iaload, 1, 0, 0, 0), (1274, .aload_n 0, 1, 0, 0, 0), (1275, .iload 4, 2, 0, 0, 0), (1277, .iconst 2, 1, 0, 0, 0), (1278, .iadd, 1, 0, 0, 0), (1279, .iaload, 1, 0, 0, 0), (1280, .aload_n 0, 1, 0, 0, 0), (1281, .iload 4, 2, 0, 0, 0), (1283, .iconst 3, 1, 0, 0, 0), (1284, .iadd, 1, 0, 0, 0), (1285, .iaload, 1, 0, 0, 0), (1286, .invokevirtual 156, 3, 160, 3, 63), (1289, .if_icmp .eq 54, 3, 0, 0, 0), (1292, .iconst 0, 1, 0, 0, 0), (1293, .ireturn, 1, 0, 0, 0), (1294, .aload_n 1, 1, 0, 0, 0), (1295, .aload_n 0, 1, 0, 0, 0), (1296, .iload 4, 2, 0, 0, 0), (1298, .iconst 1, 1, 0, 0, 0), (1299, .iadd, 1, 0, 0, 0), (1300, .iaload, 1, 0, 0, 0), (1301, .aload_n 0, 1, 0, 0, 0), (1302, .iload 4, 2, 0, 0, 0), (1304, .iconst 2, 1, 0, 0, 0), (1305, .iadd, 1, 0, 0, 0), (1306, .iaload, 1, 0, 0, 0), (1307, .aload_n 0, 1, 0, 0, 0), (1308, .iload 4, 2, 0, 0, 0), (1310, .iconst 3, 1, 0, 0, 0), (1311, .iadd, 1, 0, 0, 0), (1312, .iaload, 1, 0, 0, 0), (1313, .invokevirtual 157, 3, 27, 3, 64), (1316, .aload_n 2, 1, 0, 0, 0), (1317, .aload_n 0, 1, 0, 0, 0), (1318, .iload 4, 2, 0, 0, 0), (1320, .iconst 1, 1, 0, 0, 0), (1321, .iadd, 1, 0, 0, 0), (1322, .iaload, 1, 0, 0, 0), (1323, .aload_n 0, 1, 0, 0, 0), (1324, .iload 4, 2, 0, 0, 0), (1326, .iconst 2, 1, 0, 0, 0), (1327, .iadd, 1, 0, 0, 0), (1328, .iaload, 1, 0, 0, 0), (1329, .aload_n 0, 1, 0, 0, 0), (1330, .iload 4, 2, 0, 0, 0), (1332, .iconst 3, 1, 0, 0, 0), (1333, .iadd, 1, 0, 0, 0), (1334, .iaload, 1, 0, 0, 0), (1335, .invokevirtual 160, 3, 161, 3, 65), (1338, .if_icmp .eq 5, 3, 0, 0, 0), (1341, .iconst 0, 1, 0, 0, 0), (1342, .ireturn, 1, 0, 0, 0), (1343, .iinc 4 5, 3, 0, 0, 0), (1346, .goto (-1323), 3, 0, 0, 0), (1349, .iconst 1, 1, 0, 0, 0), (1350, .ireturn, 1, 0, 0, 0)]
def t_169 : i_T := (169, c_169, 8, (some .boolean), 601024, 7293034)
def k_tl : List i_T := [t_0, t_1, t_2, t_3, t_4, t_5, t_6, t_7, t_8, t_9, t_10, t_11, t_12, t_13, t_14, t_15, t_16, t_17, t_18, t_19, t_20, t_21, t_22, t_23, t_24, t_25, t_26, t_27, t_28, t_29, t_30, t_31, t_32, t_33, t_34, t_35, t_36, t_37, t_38, t_39, t_40, t_41, t_42, t_43, t_44, t_45, t_46, t_47, t_48, t_49, t_50, t_51, t_52, t_53, t_54, t_55, t_56, t_57, t_58, t_59, t_60, t_61, t_62, t_63, t_64, t_65, t_66, t_67, t_68, t_69, t_70, t_71, t_72, t_73, t_74, t_75, t_76, t_77, t_78, t_79, t_80, t_81, t_82, t_83, t_84, t_85, t_86, t_87, t_88, t_89, t_90, t_91, t_92, t_93, t_94, t_95, t_96, t_97, t_98, t_99, t_100, t_101, t_102, t_103, t_104, t_105, t_106, t_107, t_108, t_109, t_110, t_111, t_112, t_113, t_114, t_115, t_116, t_117, t_118, t_119, t_120, t_121, t_122, t_123, t_124, t_125, t_126, t_127, t_128, t_129, t_130, t_131, t_132, t_133, t_134, t_135, t_136, t_137, t_138, t_139, t_140, t_141, t_142, t_143, t_144, t_145, t_146, t_147, t_148, t_149, t_150, t_151, t_152, t_153, t_154, t_155, t_156, t_157, t_158, t_159, t_160, t_161, t_162, t_163, t_164, t_165, t_166, t_167, t_168, t_169]
def k_t (m : Nat) : i_T := k_tl.getD m (0, [], 0, none, 0, 0)
def k_ys : List MethodName := [⟨"TwinRooms", "<init>", "()V"⟩, ⟨"TwinRooms", "road", "(III)Z"⟩, ⟨"TwinRooms", "district", "(II)Z"⟩, ⟨"TwinRooms", "card", "(IIII)Z"⟩, ⟨"TwinRooms", "questions", "(I)I"⟩, ⟨"TwinRooms", "unit", "(III)Z"⟩, ⟨"TwinRooms", "status", "(II)Z"⟩, ⟨"TwinRooms", "speed", "(II)Z"⟩, ⟨"TwinRooms", "tick", "(I)J"⟩, ⟨"TwinRooms", "ask", "(II)V"⟩, ⟨"TwinRooms", "grantOf", "(II)I"⟩, ⟨"TwinRooms", "take", "(III)I"⟩, ⟨"TwinRooms", "answer", "(IIZ)I"⟩, ⟨"TwinRooms", "order", "(II)I"⟩, ⟨"TwinRooms", "close", "(II)V"⟩, ⟨"TwinRooms", "store", "(II)V"⟩, ⟨"TwinRooms", "letters", "()I"⟩, ⟨"TwinRooms", "letter", "(II)I"⟩, ⟨"TwinRooms", "deliver", "(I)Z"⟩, ⟨"TwinRooms", "lose", "(I)Z"⟩, ⟨"TwinRooms", "twin", "(I)Z"⟩, ⟨"TwinRooms", "crash", "(I)Z"⟩, ⟨"TwinRooms", "mount", "(I)Z"⟩, ⟨"TwinRooms", "eta", "(II)I"⟩, ⟨"TwinRooms", "nearest", "(IIII)I"⟩, ⟨"TwinRooms", "unitIs", "(II)I"⟩, ⟨"TwinRooms", "unitKnown", "(III)I"⟩, ⟨"TwinRooms", "callKnown", "(III)I"⟩, ⟨"TwinRooms", "isJunction", "(I)Z"⟩, ⟨"TwinRooms", "isDistrict", "(I)Z"⟩, ⟨"TwinRooms", "isNode", "(I)Z"⟩, ⟨"TwinRooms", "isUnit", "(I)Z"⟩, ⟨"TwinRooms", "isRoom", "(I)Z"⟩, ⟨"TwinRooms", "isCall", "(I)Z"⟩, ⟨"TwinRooms", "otherRoom", "(I)I"⟩, ⟨"TwinRooms", "knowsCall", "(II)Z"⟩, ⟨"TwinRooms", "isInCharge", "(II)Z"⟩, ⟨"TwinRooms", "findOpenRecord", "(II)LTwinRooms$CallRecord;"⟩, ⟨"TwinRooms", "findSameCall", "(LTwinRooms$Room;II)I"⟩, ⟨"TwinRooms", "linkCall", "(II)V"⟩, ⟨"TwinRooms", "openCall", "(III)I"⟩, ⟨"TwinRooms", "countChange", "(II)V"⟩, ⟨"TwinRooms", "findNearest", "(LTwinRooms$Room;III)I"⟩, ⟨"TwinRooms", "countRanksBelow", "(LTwinRooms$Room;II)I"⟩, ⟨"TwinRooms", "rankOf", "(LTwinRooms$Room;II)I"⟩, ⟨"TwinRooms", "sendRecord", "(IIILTwinRooms$CallRecord;I)V"⟩, ⟨"TwinRooms", "sendReceipt", "(ILTwinRooms$Letter;)V"⟩, ⟨"TwinRooms", "sendOrder", "(III)V"⟩, ⟨"TwinRooms", "sendReports", "(I)V"⟩, ⟨"TwinRooms", "deliverToReferee", "(LTwinRooms$Letter;)V"⟩, ⟨"TwinRooms", "decideGrant", "(LTwinRooms$Letter;)V"⟩, ⟨"TwinRooms", "deliverToRoom", "(LTwinRooms$Letter;)V"⟩, ⟨"TwinRooms", "sendAllCopies", "(II)V"⟩, ⟨"TwinRooms", "obeyOrder", "(LTwinRooms$Letter;)V"⟩, ⟨"TwinRooms$Ambulance", "<init>", "()V"⟩, ⟨"TwinRooms$Ambulance", "canBecome", "(I)Z"⟩, ⟨"TwinRooms$Ambulance", "become", "(I)V"⟩, ⟨"TwinRooms$Ambulance", "acceptOrder", "(LTwinRooms$Letter;)V"⟩, ⟨"TwinRooms$Ambulance", "part", "(I)I"⟩, ⟨"TwinRooms$CallRecord", "<init>", "()V"⟩, ⟨"TwinRooms$CallRecord", "open", "(III)V"⟩, ⟨"TwinRooms$CallRecord", "stampChange", "(I)V"⟩, ⟨"TwinRooms$CallRecord", "hasStamp", "(II)Z"⟩, ⟨"TwinRooms$CallRecord", "renewFrom", "(LTwinRooms$CallRecord;)Z"⟩, ⟨"TwinRooms$CallRecord", "copyFrom", "(LTwinRooms$CallRecord;)V"⟩, ⟨"TwinRooms$CallRecord", "skillNeeded", "()I"⟩, ⟨"TwinRooms$CallRecord", "part", "(IZ)I"⟩, ⟨"TwinRooms$Letter", "<init>", "()V"⟩, ⟨"TwinRooms$Letter", "copyFrom", "(LTwinRooms$Letter;)V"⟩, ⟨"TwinRooms$Letter", "part", "(I)I"⟩, ⟨"TwinRooms$Post", "<init>", "()V"⟩, ⟨"TwinRooms$Post", "has", "(I)Z"⟩, ⟨"TwinRooms$Post", "send", "(IIIII)LTwinRooms$Letter;"⟩, ⟨"TwinRooms$Post", "sendAgain", "(I)V"⟩, ⟨"TwinRooms$Post", "remove", "(I)LTwinRooms$Letter;"⟩, ⟨"TwinRooms$QuestionCard", "<init>", "()V"⟩, ⟨"TwinRooms$QuestionCard", "setLeaf", "(II)V"⟩, ⟨"TwinRooms$QuestionCard", "setQuestion", "(III)V"⟩, ⟨"TwinRooms$QuestionCard", "isLeaf", "(I)Z"⟩, ⟨"TwinRooms$QuestionCard", "gradeOf", "(I)I"⟩, ⟨"TwinRooms$QuestionCard", "next", "(IZ)I"⟩, ⟨"TwinRooms$QuestionCard", "mostQuestions", "(I)I"⟩, ⟨"TwinRooms$QuestionCard", "askOnceMore", "()V"⟩, ⟨"TwinRooms$Referee", "<init>", "()V"⟩, ⟨"TwinRooms$Referee", "mayGrant", "(II)Z"⟩, ⟨"TwinRooms$Referee", "countGrant", "(II)I"⟩, ⟨"TwinRooms$RoadMap", "<init>", "()V"⟩, ⟨"TwinRooms$RoadMap", "setRoad", "(III)Z"⟩, ⟨"TwinRooms$RoadMap", "measureWaysTo", "(I)V"⟩, ⟨"TwinRooms$RoadMap", "shortenWays", "()Z"⟩, ⟨"TwinRooms$RoadMap", "isShorter", "(II)Z"⟩, ⟨"TwinRooms$Room", "<init>", "()V"⟩, ⟨"TwinRooms$Room", "grantInForce", "(I)I"⟩, ⟨"TwinRooms$Room", "knowsUnitOn", "(I)Z"⟩, ⟨"TwinRooms$Room", "goDown", "()V"⟩, ⟨"TwinRooms$Room", "acceptGrant", "(LTwinRooms$Letter;)V"⟩, ⟨"TwinRooms$Room", "acceptCopy", "(LTwinRooms$Letter;)V"⟩, ⟨"TwinRooms$Room", "acceptReceipt", "(LTwinRooms$Letter;)V"⟩, ⟨"TwinRooms$Sighting", "<init>", "()V"⟩, ⟨"TwinRooms$Sighting", "acceptReport", "(LTwinRooms$Letter;)V"⟩, ⟨"TwinRooms$Sighting", "forget", "()V"⟩, ⟨"TwinRooms$Sighting", "countsAsFree", "()Z"⟩, ⟨"TwinRooms$Sighting", "isOn", "(I)Z"⟩, ⟨"TwinRooms$Sighting", "part", "(I)I"⟩, ⟨"TwinRoomsModel", "<init>", "()V"⟩, ⟨"TwinRoomsModel", "thrown", "()I"⟩, ⟨"TwinRoomsModel", "within", "(III)Z"⟩, ⟨"TwinRoomsModel", "isJunction", "(I)Z"⟩, ⟨"TwinRoomsModel", "isRoom", "(I)Z"⟩, ⟨"TwinRoomsModel", "isUnit", "(I)Z"⟩, ⟨"TwinRoomsModel", "isDistrict", "(I)Z"⟩, ⟨"TwinRoomsModel", "road", "(III)Z"⟩, ⟨"TwinRoomsModel", "district", "(II)Z"⟩, ⟨"TwinRoomsModel", "way", "(II)I"⟩, ⟨"TwinRoomsModel", "card", "(IIII)Z"⟩, ⟨"TwinRoomsModel", "questions", "(I)I"⟩, ⟨"TwinRoomsModel", "copyLetter", "(II)V"⟩, ⟨"TwinRoomsModel", "send", "(IIIII)I"⟩, ⟨"TwinRoomsModel", "sendRecord", "(IIII)V"⟩, ⟨"TwinRoomsModel", "keepIfNewer", "(I)V"⟩, ⟨"TwinRoomsModel", "sendReceipt", "(I)V"⟩, ⟨"TwinRoomsModel", "sendReport", "(II)V"⟩, ⟨"TwinRoomsModel", "report", "(I)V"⟩, ⟨"TwinRoomsModel", "refereeAsked", "()V"⟩, ⟨"TwinRoomsModel", "roomGranted", "(I)V"⟩, ⟨"TwinRoomsModel", "roomReceipted", "(I)V"⟩, ⟨"TwinRoomsModel", "unitOrdered", "(I)V"⟩, ⟨"TwinRoomsModel", "roomReported", "(I)V"⟩, ⟨"TwinRoomsModel", "receive", "(I)V"⟩, ⟨"TwinRoomsModel", "takeOut", "(I)Z"⟩, ⟨"TwinRoomsModel", "deliver", "(I)Z"⟩, ⟨"TwinRoomsModel", "lose", "(I)Z"⟩, ⟨"TwinRoomsModel", "twin", "(I)Z"⟩, ⟨"TwinRoomsModel", "letters", "()I"⟩, ⟨"TwinRoomsModel", "letter", "(II)I"⟩, ⟨"TwinRoomsModel", "unit", "(III)Z"⟩, ⟨"TwinRoomsModel", "status", "(II)Z"⟩, ⟨"TwinRoomsModel", "speed", "(II)Z"⟩, ⟨"TwinRoomsModel", "tick", "(I)J"⟩, ⟨"TwinRoomsModel", "ask", "(II)V"⟩, ⟨"TwinRoomsModel", "charge", "(II)I"⟩, ⟨"TwinRoomsModel", "grantOf", "(II)I"⟩, ⟨"TwinRoomsModel", "chargeOf", "(II)I"⟩, ⟨"TwinRoomsModel", "known", "(II)Z"⟩, ⟨"TwinRoomsModel", "change", "(II)V"⟩, ⟨"TwinRoomsModel", "alike", "(III)I"⟩, ⟨"TwinRoomsModel", "take", "(III)I"⟩, ⟨"TwinRoomsModel", "answer", "(IIZ)I"⟩, ⟨"TwinRoomsModel", "isFree", "(II)Z"⟩, ⟨"TwinRoomsModel", "unitOn", "(II)Z"⟩, ⟨"TwinRoomsModel", "nearestOf", "(IIII)I"⟩, ⟨"TwinRoomsModel", "fitting", "(IIII)I"⟩, ⟨"TwinRoomsModel", "order", "(II)I"⟩, ⟨"TwinRoomsModel", "close", "(II)V"⟩, ⟨"TwinRoomsModel", "store", "(II)V"⟩, ⟨"TwinRoomsModel", "crash", "(I)Z"⟩, ⟨"TwinRoomsModel", "mount", "(I)Z"⟩, ⟨"TwinRoomsModel", "eta", "(II)I"⟩, ⟨"TwinRoomsModel", "nearest", "(IIII)I"⟩, ⟨"TwinRoomsModel", "unitIs", "(II)I"⟩, ⟨"TwinRoomsModel", "unitKnown", "(III)I"⟩, ⟨"TwinRoomsModel", "callKnown", "(III)I"⟩, ⟨"TwinRoomsLaw", "tick", "(LTwinRooms;I[J)I"⟩, ⟨"TwinRoomsLaw", "ask", "(LTwinRooms;II)I"⟩, ⟨"TwinRoomsLaw", "take", "(LTwinRooms;III[J)I"⟩, ⟨"TwinRoomsLaw", "answer", "(LTwinRooms;IIZ[J)I"⟩, ⟨"TwinRoomsLaw", "order", "(LTwinRooms;II[J)I"⟩, ⟨"TwinRoomsLaw", "close", "(LTwinRooms;II)I"⟩, ⟨"TwinRoomsLaw", "store", "(LTwinRooms;II)I"⟩, ⟨"TwinRoomsLaw", "law", "([I)Z"⟩]
def k_y (m : Nat) : MethodName := k_ys.getD m ⟨"", "", ""⟩
def k_bys : List ByteArray := [prog_1_method_1_code, prog_1_method_2_code, prog_1_method_3_code, prog_1_method_4_code, prog_1_method_5_code, prog_1_method_6_code, prog_1_method_7_code, prog_1_method_8_code, prog_1_method_9_code, prog_1_method_10_code, prog_1_method_11_code, prog_1_method_12_code, prog_1_method_13_code, prog_1_method_14_code, prog_1_method_15_code, prog_1_method_16_code, prog_1_method_17_code, prog_1_method_18_code, prog_1_method_19_code, prog_1_method_20_code, prog_1_method_21_code, prog_1_method_22_code, prog_1_method_23_code, prog_1_method_24_code, prog_1_method_25_code, prog_1_method_26_code, prog_1_method_27_code, prog_1_method_28_code, prog_1_method_29_code, prog_1_method_30_code, prog_1_method_31_code, prog_1_method_32_code, prog_1_method_33_code, prog_1_method_34_code, prog_1_method_35_code, prog_1_method_36_code, prog_1_method_37_code, prog_1_method_38_code, prog_1_method_39_code, prog_1_method_40_code, prog_1_method_41_code, prog_1_method_42_code, prog_1_method_43_code, prog_1_method_44_code, prog_1_method_45_code, prog_1_method_46_code, prog_1_method_47_code, prog_1_method_48_code, prog_1_method_49_code, prog_1_method_50_code, prog_1_method_51_code, prog_1_method_52_code, prog_1_method_53_code, prog_1_method_54_code, prog_2_method_1_code, prog_2_method_2_code, prog_2_method_3_code, prog_2_method_4_code, prog_2_method_5_code, prog_3_method_1_code, prog_3_method_2_code, prog_3_method_3_code, prog_3_method_4_code, prog_3_method_5_code, prog_3_method_6_code, prog_3_method_7_code, prog_3_method_8_code, prog_4_method_1_code, prog_4_method_2_code, prog_4_method_3_code, prog_5_method_1_code, prog_5_method_2_code, prog_5_method_3_code, prog_5_method_4_code, prog_5_method_5_code, prog_6_method_1_code, prog_6_method_2_code, prog_6_method_3_code, prog_6_method_4_code, prog_6_method_5_code, prog_6_method_6_code, prog_6_method_7_code, prog_6_method_8_code, prog_7_method_1_code, prog_7_method_2_code, prog_7_method_3_code, prog_8_method_1_code, prog_8_method_2_code, prog_8_method_3_code, prog_8_method_4_code, prog_8_method_5_code, prog_9_method_1_code, prog_9_method_2_code, prog_9_method_3_code, prog_9_method_4_code, prog_9_method_5_code, prog_9_method_6_code, prog_9_method_7_code, prog_10_method_1_code, prog_10_method_2_code, prog_10_method_3_code, prog_10_method_4_code, prog_10_method_5_code, prog_10_method_6_code, prog_12_method_1_code, prog_12_method_2_code, prog_12_method_3_code, prog_12_method_4_code, prog_12_method_5_code, prog_12_method_6_code, prog_12_method_7_code, prog_12_method_8_code, prog_12_method_9_code, prog_12_method_10_code, prog_12_method_11_code, prog_12_method_12_code, prog_12_method_13_code, prog_12_method_14_code, prog_12_method_15_code, prog_12_method_16_code, prog_12_method_17_code, prog_12_method_18_code, prog_12_method_19_code, prog_12_method_20_code, prog_12_method_21_code, prog_12_method_22_code, prog_12_method_23_code, prog_12_method_24_code, prog_12_method_25_code, prog_12_method_26_code, prog_12_method_27_code, prog_12_method_28_code, prog_12_method_29_code, prog_12_method_30_code, prog_12_method_31_code, prog_12_method_32_code, prog_12_method_33_code, prog_12_method_34_code, prog_12_method_35_code, prog_12_method_36_code, prog_12_method_37_code, prog_12_method_38_code, prog_12_method_39_code, prog_12_method_40_code, prog_12_method_41_code, prog_12_method_42_code, prog_12_method_43_code, prog_12_method_44_code, prog_12_method_45_code, prog_12_method_46_code, prog_12_method_47_code, prog_12_method_48_code, prog_12_method_49_code, prog_12_method_50_code, prog_12_method_51_code, prog_12_method_52_code, prog_12_method_53_code, prog_12_method_54_code, prog_12_method_55_code, prog_12_method_56_code, prog_12_method_57_code, prog_12_method_58_code, method_3_code, method_4_code, method_5_code, method_6_code, method_7_code, method_8_code, method_9_code, code]
def k_by (m : Nat) : ByteArray := k_bys.getD m (.mk #[])
def k_cis : List Nat := [5, 5, 5, 5, 5, 5, 5, 5, 5, 5, 5, 5, 5, 5, 5, 5, 5, 5, 5, 5, 5, 5, 5, 5, 5, 5, 5, 5, 5, 5, 5, 5, 5, 5, 5, 5, 5, 5, 5, 5, 5, 5, 5, 5, 5, 5, 5, 5, 5, 5, 5, 5, 5, 5, 0, 0, 0, 0, 0, 1, 1, 1, 1, 1, 1, 1, 1, 2, 2, 2, 6, 6, 6, 6, 6, 7, 7, 7, 7, 7, 7, 7, 7, 8, 8, 8, 9, 9, 9, 9, 9, 3, 3, 3, 3, 3, 3, 3, 4, 4, 4, 4, 4, 4, 10, 10, 10, 10, 10, 10, 10, 10, 10, 10, 10, 10, 10, 10, 10, 10, 10, 10, 10, 10, 10, 10, 10, 10, 10, 10, 10, 10, 10, 10, 10, 10, 10, 10, 10, 10, 10, 10, 10, 10, 10, 10, 10, 10, 10, 10, 10, 10, 10, 10, 10, 10, 10, 10, 10, 10, 10, 10, 11, 11, 11, 11, 11, 11, 11, 11]
def k_ci (m : Nat) : Nat := k_cis.getD m 0
def k_own (m : Nat) : String := k_cn (k_ci m)
def k_exs : List (Nat × List (Nat × Nat × Nat × Nat)) := [(162, [(0, 8, 11, 13)]), (163, [(0, 6, 9, 13), (0, 6, 12, 19)]), (164, [(0, 12, 15, 13), (0, 12, 19, 19)]), (165, [(0, 12, 15, 13), (0, 12, 19, 19)]), (166, [(0, 10, 13, 13), (0, 10, 17, 19)]), (167, [(0, 6, 9, 13), (0, 6, 12, 19)]), (168, [(0, 6, 9, 13), (0, 6, 12, 19)])]
def k_ex (m : Nat) : List (Nat × Nat × Nat × Nat) := (k_exs.lookup m).getD []
def k_hds : List ((Nat × Nat) × Nat × Nat) := [((162, 0), (12, 3)), ((163, 0), (10, 3)), ((163, 1), (13, 3)), ((164, 0), (17, 5)), ((164, 1), (21, 5)), ((165, 0), (17, 5)), ((165, 1), (21, 5)), ((166, 0), (15, 4)), ((166, 1), (19, 4)), ((167, 0), (10, 3)), ((167, 1), (13, 3)), ((168, 0), (10, 3)), ((168, 1), (13, 3))]
def k_hd (m x : Nat) : Option (Nat × Nat) := k_hds.lookup (m, x)
def k_rms : List (Nat × Nat) := [(4, 82), (1, 26), (1, 20), (1, 23), (3, 64), (1, 20), (2, 50), (1, 20), (6, 89), (6, 89), (1, 22), (6, 100), (7, 112), (7, 112), (7, 112), (6, 89), (0, 0), (1, 21), (4, 100), (1, 23), (3, 63), (2, 41), (1, 26), (3, 68), (4, 97), (1, 21), (2, 41), (2, 42), (0, 0), (0, 0), (0, 0), (0, 0), (0, 0), (0, 0), (0, 0), (1, 20), (1, 22), (6, 89), (3, 68), (3, 76), (3, 76), (2, 52), (3, 71), (2, 45), (1, 20), (1, 26), (1, 26), (1, 26), (1, 26), (3, 79), (2, 52), (3, 76), (2, 52), (2, 50), (1, 21), (0, 0), (0, 0), (0, 0), (0, 0), (1, 21), (0, 0), (0, 0), (0, 0), (1, 21), (0, 0), (0, 0), (0, 0), (2, 41), (1, 21), (0, 0), (3, 61), (0, 0), (0, 0), (2, 42), (0, 0), (1, 21), (0, 0), (0, 0), (0, 0), (0, 0), (0, 0), (2, 42), (1, 21), (2, 41), (0, 0), (0, 0), (1, 21), (0, 0), (2, 45), (1, 21), (0, 0), (2, 41), (0, 0), (1, 21), (1, 20), (0, 0), (2, 43), (1, 22), (1, 21), (0, 0), (0, 0), (0, 0), (0, 0), (1, 20), (1, 21), (0, 0), (0, 0), (1, 22), (1, 22), (1, 22), (1, 22), (2, 42), (2, 42), (0, 0), (1, 22), (1, 22), (0, 0), (0, 0), (1, 26), (0, 0), (1, 26), (1, 26), (2, 49), (2, 52), (0, 0), (0, 0), (3, 70), (0, 0), (4, 91), (1, 22), (5, 113), (2, 44), (1, 22), (0, 0), (0, 0), (2, 42), (3, 70), (2, 42), (1, 22), (2, 42), (0, 0), (2, 42), (1, 23), (2, 42), (2, 52), (1, 25), (3, 76), (3, 76), (0, 0), (0, 0), (2, 49), (1, 25), (3, 78), (3, 76), (3, 64), (2, 42), (2, 42), (2, 42), (3, 78), (2, 42), (2, 42), (1, 22), (7, 111), (7, 112), (7, 124), (8, 136), (8, 136), (8, 134), (7, 111), (9, 161)]
def k_rm (m : Nat) : Room := if m = 169 then room_1 else { frames := (k_rms.getD m (0, 0)).1, cells := (k_t m).2.2.2.2.1, slots := (k_t m).2.2.2.2.2, locals := (k_rms.getD m (0, 0)).2 }
def k_kds : List Nat := [2, 0, 0, 0, 0, 0, 0, 0, 0, 0, 0, 0, 0, 0, 0, 0, 0, 0, 0, 0, 0, 0, 0, 0, 0, 0, 0, 0, 1, 1, 1, 1, 1, 1, 1, 0, 0, 0, 0, 0, 0, 0, 0, 0, 0, 0, 0, 0, 0, 0, 0, 0, 0, 0, 2, 0, 0, 0, 0, 2, 0, 0, 0, 0, 0, 0, 0, 2, 0, 0, 2, 0, 0, 0, 0, 2, 0, 0, 0, 0, 0, 0, 0, 2, 0, 0, 2, 0, 0, 0, 1, 2, 0, 0, 0, 0, 0, 0, 2, 0, 0, 0, 0, 0, 2, 0, 1, 1, 1, 1, 1, 0, 0, 0, 0, 0, 0, 0, 0, 0, 0, 0, 0, 0, 0, 0, 0, 0, 0, 0, 0, 0, 0, 0, 0, 0, 0, 0, 0, 0, 0, 0, 0, 0, 0, 0, 0, 0, 0, 0, 0, 0, 0, 0, 0, 0, 0, 0, 0, 0, 0, 0, 1, 1, 1, 1, 1, 1, 1, 1]
def k_kd (m : Nat) : Nat := k_kds.getD m 0
def k_pns : List Nat := [0, 3, 2, 4, 1, 3, 2, 2, 1, 2, 2, 3, 3, 2, 2, 2, 0, 2, 1, 1, 1, 1, 1, 2, 4, 2, 3, 3, 1, 1, 1, 1, 1, 1, 1, 2, 2, 2, 3, 2, 3, 2, 4, 3, 3, 5, 2, 3, 1, 1, 1, 1, 2, 1, 0, 1, 1, 1, 1, 0, 3, 1, 2, 1, 1, 0, 2, 0, 1, 1, 0, 1, 5, 1, 1, 0, 2, 3, 1, 1, 2, 1, 0, 0, 2, 2, 0, 3, 1, 0, 2, 0, 1, 1, 0, 1, 1, 1, 0, 1, 0, 0, 1, 1, 0, 0, 3, 1, 1, 1, 1, 3, 2, 2, 4, 1, 2, 5, 4, 1, 1, 2, 1, 0, 1, 1, 1, 1, 1, 1, 1, 1, 1, 0, 2, 3, 2, 2, 1, 2, 2, 2, 2, 2, 2, 3, 3, 3, 2, 2, 4, 4, 2, 2, 2, 1, 1, 2, 4, 2, 3, 3, 3, 3, 5, 5, 4, 3, 3, 1]
def k_pn (m : Nat) : Nat := k_pns.getD m 0
def k_rc (m : Nat) : Nat := k_ci m
def k_lk_0 : List Jvm.Cond := [.methodLink "TwinRooms$Ambulance" 3 ⟨"java/lang/Object", "<init>", "()V"⟩, .fieldLink "TwinRooms$Ambulance" 9 "TwinRooms$Ambulance" "state" "I", .fieldLink "TwinRooms$Ambulance" 15 "TwinRooms$Ambulance" "call" "I", .fieldLink "TwinRooms$Ambulance" 18 "TwinRooms$Ambulance" "target" "I", .fieldLink "TwinRooms$Ambulance" 21 "TwinRooms$Ambulance" "junction" "I", .fieldLink "TwinRooms$Ambulance" 24 "TwinRooms$Letter" "number" "I", .fieldLink "TwinRooms$Ambulance" 29 "TwinRooms$Ambulance" "highestObeyed" "I", .fieldLink "TwinRooms$Ambulance" 32 "TwinRooms$Letter" "about" "I", .fieldLink "TwinRooms$Ambulance" 35 "TwinRooms$Letter" "junction" "I", .fieldLink "TwinRooms$Ambulance" 36 "TwinRooms$Ambulance" "serial" "I", .fieldLink "TwinRooms$Ambulance" 39 "TwinRooms$Ambulance" "skill" "I"]
def k_lk_1 : List Jvm.Cond := [.methodLink "TwinRooms$CallRecord" 3 ⟨"java/lang/Object", "<init>", "()V"⟩, .fieldLink "TwinRooms$CallRecord" 9 "TwinRooms$CallRecord" "known" "Z", .fieldLink "TwinRooms$CallRecord" 15 "TwinRooms$CallRecord" "junction" "I", .fieldLink "TwinRooms$CallRecord" 19 "TwinRooms$CallRecord" "hash" "I", .fieldLink "TwinRooms$CallRecord" 22 "TwinRooms$CallRecord" "node" "I", .fieldLink "TwinRooms$CallRecord" 25 "TwinRooms$CallRecord" "grade" "I", .fieldLink "TwinRooms$CallRecord" 28 "TwinRooms$CallRecord" "state" "I", .fieldLink "TwinRooms$CallRecord" 31 "TwinRooms$CallRecord" "unit" "I", .fieldLink "TwinRooms$CallRecord" 34 "TwinRooms$CallRecord" "linked" "I", .fieldLink "TwinRooms$CallRecord" 37 "TwinRooms$CallRecord" "grantNumber" "I", .fieldLink "TwinRooms$CallRecord" 40 "TwinRooms$CallRecord" "changes" "I", .methodLink "TwinRooms$CallRecord" 43 ⟨"TwinRooms$CallRecord", "copyFrom", "(LTwinRooms$CallRecord;)V"⟩]
def k_lk_2 : List Jvm.Cond := [.methodLink "TwinRooms$Letter" 3 ⟨"java/lang/Object", "<init>", "()V"⟩, .classLink "TwinRooms$Letter" 9 "TwinRooms$CallRecord", .methodLinkNest "TwinRooms$Letter" 11 ⟨"TwinRooms$CallRecord", "<init>", "()V"⟩ "TwinRooms", .fieldLink "TwinRooms$Letter" 12 "TwinRooms$Letter" "record" "LTwinRooms$CallRecord;", .fieldLink "TwinRooms$Letter" 18 "TwinRooms$Letter" "kind" "I", .fieldLink "TwinRooms$Letter" 22 "TwinRooms$Letter" "sender" "I", .fieldLink "TwinRooms$Letter" 25 "TwinRooms$Letter" "receiver" "I", .fieldLink "TwinRooms$Letter" 28 "TwinRooms$Letter" "about" "I", .fieldLink "TwinRooms$Letter" 31 "TwinRooms$Letter" "number" "I", .fieldLink "TwinRooms$Letter" 34 "TwinRooms$Letter" "changes" "I", .fieldLink "TwinRooms$Letter" 37 "TwinRooms$Letter" "clock" "J", .fieldLink "TwinRooms$Letter" 41 "TwinRooms$Letter" "junction" "I", .fieldLink "TwinRooms$Letter" 44 "TwinRooms$Letter" "state" "I", .fieldLink "TwinRooms$Letter" 47 "TwinRooms$Letter" "call" "I", .methodLink "TwinRooms$Letter" 50 ⟨"TwinRooms$CallRecord", "copyFrom", "(LTwinRooms$CallRecord;)V"⟩]
def k_lk_3 : List Jvm.Cond := [.methodLink "TwinRooms$Room" 3 ⟨"java/lang/Object", "<init>", "()V"⟩, .fieldLink "TwinRooms$Room" 9 "TwinRooms$Room" "up" "Z", .fieldLink "TwinRooms$Room" 15 "TwinRooms$Room" "clockSpeed" "I", .fieldLink "TwinRooms$Room" 19 "TwinRooms$Room" "grants" "[I", .classLink "TwinRooms$Room" 23 "TwinRooms$CallRecord", .fieldLink "TwinRooms$Room" 25 "TwinRooms$Room" "records" "[LTwinRooms$CallRecord;", .fieldLink "TwinRooms$Room" 29 "TwinRooms$Room" "sure" "[Z", .classLink "TwinRooms$Room" 33 "TwinRooms$Sighting", .fieldLink "TwinRooms$Room" 35 "TwinRooms$Room" "sightings" "[LTwinRooms$Sighting;", .fieldLink "TwinRooms$Room" 39 "TwinRooms$Room" "askedAt" "[J", .fieldLink "TwinRooms$Room" 43 "TwinRooms$Room" "highestGrants" "[I", .methodLinkNest "TwinRooms$Room" 46 ⟨"TwinRooms$CallRecord", "<init>", "()V"⟩ "TwinRooms", .methodLinkNest "TwinRooms$Room" 47 ⟨"TwinRooms$Sighting", "<init>", "()V"⟩ "TwinRooms", .fieldLink "TwinRooms$Room" 48 "TwinRooms$Room" "clock" "J", .constantLong "TwinRooms$Room" 52 (Int64.ofNat 2000), .methodLink "TwinRooms$Room" 54 ⟨"TwinRooms$Sighting", "isOn", "(I)Z"⟩, .methodLink "TwinRooms$Room" 58 ⟨"TwinRooms$Sighting", "forget", "()V"⟩, .fieldLink "TwinRooms$Room" 61 "TwinRooms$Letter" "about" "I", .fieldLink "TwinRooms$Room" 66 "TwinRooms$Letter" "number" "I", .fieldLink "TwinRooms$Room" 69 "TwinRooms$Letter" "clock" "J", .fieldLink "TwinRooms$Room" 70 "TwinRooms$Letter" "record" "LTwinRooms$CallRecord;", .methodLink "TwinRooms$Room" 74 ⟨"TwinRooms$CallRecord", "renewFrom", "(LTwinRooms$CallRecord;)Z"⟩, .fieldLink "TwinRooms$Room" 78 "TwinRooms$Letter" "changes" "I", .methodLink "TwinRooms$Room" 81 ⟨"TwinRooms$CallRecord", "hasStamp", "(II)Z"⟩]
def k_lk_4 : List Jvm.Cond := [.methodLink "TwinRooms$Sighting" 3 ⟨"java/lang/Object", "<init>", "()V"⟩, .fieldLink "TwinRooms$Sighting" 9 "TwinRooms$Sighting" "known" "Z", .fieldLink "TwinRooms$Sighting" 15 "TwinRooms$Letter" "number" "I", .fieldLink "TwinRooms$Sighting" 21 "TwinRooms$Sighting" "serial" "I", .fieldLink "TwinRooms$Sighting" 24 "TwinRooms$Sighting" "orderSent" "Z", .fieldLink "TwinRooms$Sighting" 27 "TwinRooms$Letter" "state" "I", .fieldLink "TwinRooms$Sighting" 30 "TwinRooms$Sighting" "state" "I", .fieldLink "TwinRooms$Sighting" 31 "TwinRooms$Letter" "junction" "I", .fieldLink "TwinRooms$Sighting" 34 "TwinRooms$Sighting" "junction" "I", .fieldLink "TwinRooms$Sighting" 35 "TwinRooms$Letter" "call" "I", .fieldLink "TwinRooms$Sighting" 38 "TwinRooms$Sighting" "call" "I", .methodLink "TwinRooms$Sighting" 39 ⟨"TwinRooms$Sighting", "countsAsFree", "()Z"⟩]
def k_lk_5 : List Jvm.Cond := [.methodLink "TwinRooms" 1 ⟨"java/lang/Object", "<init>", "()V"⟩, .classLink "TwinRooms" 7 "TwinRooms$RoadMap", .methodLinkNest "TwinRooms" 9 ⟨"TwinRooms$RoadMap", "<init>", "()V"⟩ "TwinRooms", .fieldLink "TwinRooms" 10 "TwinRooms" "roadMap" "LTwinRooms$RoadMap;", .classLink "TwinRooms" 16 "TwinRooms$QuestionCard", .methodLink "TwinRooms" 18 ⟨"TwinRooms$QuestionCard", "<init>", "()V"⟩, .fieldLink "TwinRooms" 19 "TwinRooms" "questionCard" "LTwinRooms$QuestionCard;", .classLink "TwinRooms" 23 "TwinRooms$Ambulance", .fieldLink "TwinRooms" 25 "TwinRooms" "ambulances" "[LTwinRooms$Ambulance;", .classLink "TwinRooms" 29 "TwinRooms$Room", .fieldLink "TwinRooms" 31 "TwinRooms" "rooms" "[LTwinRooms$Room;", .classLink "TwinRooms" 35 "TwinRooms$Referee", .methodLink "TwinRooms" 37 ⟨"TwinRooms$Referee", "<init>", "()V"⟩, .fieldLink "TwinRooms" 38 "TwinRooms" "referee" "LTwinRooms$Referee;", .classLink "TwinRooms" 42 "TwinRooms$Post", .methodLink "TwinRooms" 44 ⟨"TwinRooms$Post", "<init>", "()V"⟩, .fieldLink "TwinRooms" 45 "TwinRooms" "post" "LTwinRooms$Post;", .methodLinkNest "TwinRooms" 49 ⟨"TwinRooms$Ambulance", "<init>", "()V"⟩ "TwinRooms", .methodLink "TwinRooms" 50 ⟨"TwinRooms$Room", "<init>", "()V"⟩, .methodLink "TwinRooms" 51 ⟨"TwinRooms", "isJunction", "(I)Z"⟩, .methodLink "TwinRooms" 55 ⟨"TwinRooms$RoadMap", "setRoad", "(III)Z"⟩, .methodLink "TwinRooms" 59 ⟨"TwinRooms", "isDistrict", "(I)Z"⟩, .fieldLink "TwinRooms" 62 "TwinRooms$RoadMap" "districtOf" "[I", .methodLink "TwinRooms" 66 ⟨"TwinRooms", "isNode", "(I)Z"⟩, .methodLink "TwinRooms" 69 ⟨"TwinRooms$QuestionCard", "setLeaf", "(II)V"⟩, .methodLink "TwinRooms" 73 ⟨"TwinRooms$QuestionCard", "setQuestion", "(III)V"⟩, .methodLink "TwinRooms" 77 ⟨"TwinRooms$QuestionCard", "mostQuestions", "(I)I"⟩, .methodLink "TwinRooms" 81 ⟨"TwinRooms", "isUnit", "(I)Z"⟩, .fieldLink "TwinRooms" 84 "TwinRooms$Ambulance" "state" "I", .fieldLink "TwinRooms" 88 "TwinRooms$Ambulance" "junction" "I", .fieldLink "TwinRooms" 91 "TwinRooms$Ambulance" "skill" "I", .methodLink "TwinRooms" 94 ⟨"TwinRooms$Ambulance", "canBecome", "(I)Z"⟩, .methodLink "TwinRooms" 97 ⟨"TwinRooms$Ambulance", "become", "(I)V"⟩, .methodLink "TwinRooms" 101 ⟨"TwinRooms", "sendReports", "(I)V"⟩, .methodLink "TwinRooms" 104 ⟨"TwinRooms", "isRoom", "(I)Z"⟩, .fieldLink "TwinRooms" 107 "TwinRooms$Room" "clockSpeed" "I", .classLink "TwinRooms" 110 "java/lang/IllegalArgumentException", .fieldLink "TwinRooms" 113 "TwinRooms$Referee" "clock" "J", .constantLong "TwinRooms" 117 (Int64.ofNat 50), .fieldLink "TwinRooms" 119 "TwinRooms$Room" "clock" "J", .fieldLink "TwinRooms" 120 "TwinRooms$Room" "up" "Z", .classLink "TwinRooms" 124 "java/lang/IllegalStateException", .methodLink "TwinRooms" 127 ⟨"TwinRooms$Post", "send", "(IIIII)LTwinRooms$Letter;"⟩, .fieldLink "TwinRooms" 131 "TwinRooms$Letter" "clock" "J", .methodLink "TwinRooms" 134 ⟨"TwinRooms$Room", "grantInForce", "(I)I"⟩, .methodLink "TwinRooms" 137 ⟨"TwinRooms", "isInCharge", "(II)Z"⟩, .fieldLink "TwinRooms" 141 "TwinRooms$Room" "callsTaken" "I", .methodLink "TwinRooms" 144 ⟨"TwinRooms", "findSameCall", "(LTwinRooms$Room;II)I"⟩, .methodLink "TwinRooms" 148 ⟨"TwinRooms", "openCall", "(III)I"⟩, .methodLink "TwinRooms" 152 ⟨"TwinRooms", "linkCall", "(II)V"⟩, .methodLink "TwinRooms" 155 ⟨"TwinRooms", "findOpenRecord", "(II)LTwinRooms$CallRecord;"⟩, .fieldLink "TwinRooms" 159 "TwinRooms$CallRecord" "grade" "I", .fieldLink "TwinRooms" 164 "TwinRooms$CallRecord" "node" "I", .methodLink "TwinRooms" 167 ⟨"TwinRooms$QuestionCard", "isLeaf", "(I)Z"⟩, .methodLink "TwinRooms" 170 ⟨"TwinRooms$QuestionCard", "next", "(IZ)I"⟩, .methodLink "TwinRooms" 174 ⟨"TwinRooms$QuestionCard", "gradeOf", "(I)I"⟩, .methodLink "TwinRooms" 177 ⟨"TwinRooms", "countChange", "(II)V"⟩, .methodLink "TwinRooms" 180 ⟨"TwinRooms$Room", "knowsUnitOn", "(I)Z"⟩, .methodLink "TwinRooms" 183 ⟨"TwinRooms$CallRecord", "skillNeeded", "()I"⟩, .fieldLink "TwinRooms" 187 "TwinRooms$CallRecord" "junction" "I", .methodLink "TwinRooms" 188 ⟨"TwinRooms", "findNearest", "(LTwinRooms$Room;III)I"⟩, .methodLink "TwinRooms" 192 ⟨"TwinRooms", "sendOrder", "(III)V"⟩, .fieldLink "TwinRooms" 195 "TwinRooms$Room" "sightings" "[LTwinRooms$Sighting;", .fieldLink "TwinRooms" 199 "TwinRooms$Sighting" "orderSent" "Z", .fieldLink "TwinRooms" 204 "TwinRooms$CallRecord" "state" "I", .fieldLink "TwinRooms" 205 "TwinRooms$CallRecord" "unit" "I", .methodLink "TwinRooms" 208 ⟨"TwinRooms", "knowsCall", "(II)Z"⟩, .fieldLink "TwinRooms" 211 "TwinRooms$Room" "records" "[LTwinRooms$CallRecord;", .methodLink "TwinRooms" 215 ⟨"TwinRooms", "sendRecord", "(IIILTwinRooms$CallRecord;I)V"⟩, .fieldLink "TwinRooms" 219 "TwinRooms$Post" "count" "I", .methodLink "TwinRooms" 222 ⟨"TwinRooms$Post", "has", "(I)Z"⟩, .fieldLink "TwinRooms" 225 "TwinRooms$Post" "waiting" "[LTwinRooms$Letter;", .methodLink "TwinRooms" 229 ⟨"TwinRooms$Letter", "part", "(I)I"⟩, .methodLink "TwinRooms" 232 ⟨"TwinRooms$Post", "remove", "(I)LTwinRooms$Letter;"⟩, .fieldLink "TwinRooms" 236 "TwinRooms$Letter" "receiver" "I", .methodLink "TwinRooms" 239 ⟨"TwinRooms", "obeyOrder", "(LTwinRooms$Letter;)V"⟩, .methodLink "TwinRooms" 243 ⟨"TwinRooms", "deliverToReferee", "(LTwinRooms$Letter;)V"⟩, .methodLink "TwinRooms" 246 ⟨"TwinRooms", "deliverToRoom", "(LTwinRooms$Letter;)V"⟩, .methodLink "TwinRooms" 249 ⟨"TwinRooms$Post", "sendAgain", "(I)V"⟩, .methodLink "TwinRooms" 252 ⟨"TwinRooms$Room", "goDown", "()V"⟩, .methodLink "TwinRooms" 255 ⟨"TwinRooms", "otherRoom", "(I)I"⟩, .methodLink "TwinRooms" 258 ⟨"TwinRooms$RoadMap", "measureWaysTo", "(I)V"⟩, .fieldLink "TwinRooms" 261 "TwinRooms$RoadMap" "ways" "[I", .methodLink "TwinRooms" 264 ⟨"TwinRooms$Ambulance", "part", "(I)I"⟩, .fieldLink "TwinRooms" 265 "TwinRooms$Sighting" "known" "Z", .methodLink "TwinRooms" 268 ⟨"TwinRooms$Sighting", "part", "(I)I"⟩, .methodLink "TwinRooms" 269 ⟨"TwinRooms", "isCall", "(I)Z"⟩, .fieldLink "TwinRooms" 272 "TwinRooms$Referee" "records" "[LTwinRooms$CallRecord;", .methodLink "TwinRooms" 273 ⟨"TwinRooms$CallRecord", "part", "(IZ)I"⟩, .fieldLink "TwinRooms" 275 "TwinRooms$Room" "sure" "[Z", .fieldLink "TwinRooms" 279 "TwinRooms$CallRecord" "known" "Z", .fieldLink "TwinRooms" 280 "TwinRooms$CallRecord" "hash" "I", .fieldLink "TwinRooms" 283 "TwinRooms$CallRecord" "linked" "I", .methodLink "TwinRooms" 286 ⟨"TwinRooms$CallRecord", "open", "(III)V"⟩, .fieldLink "TwinRooms" 289 "TwinRooms$Room" "grants" "[I", .methodLink "TwinRooms" 292 ⟨"TwinRooms$CallRecord", "stampChange", "(I)V"⟩, .methodLink "TwinRooms" 295 ⟨"TwinRooms", "rankOf", "(LTwinRooms$Room;II)I"⟩, .methodLink "TwinRooms" 298 ⟨"TwinRooms", "countRanksBelow", "(LTwinRooms$Room;II)I"⟩, .methodLink "TwinRooms" 301 ⟨"TwinRooms$Sighting", "countsAsFree", "()Z"⟩, .fieldLink "TwinRooms" 305 "TwinRooms$Sighting" "junction" "I", .fieldLink "TwinRooms" 306 "TwinRooms$CallRecord" "grantNumber" "I", .fieldLink "TwinRooms" 309 "TwinRooms$Letter" "record" "LTwinRooms$CallRecord;", .methodLink "TwinRooms" 313 ⟨"TwinRooms$CallRecord", "copyFrom", "(LTwinRooms$CallRecord;)V"⟩, .fieldLink "TwinRooms" 317 "TwinRooms$Letter" "sender" "I", .fieldLink "TwinRooms" 320 "TwinRooms$Letter" "about" "I", .fieldLink "TwinRooms" 323 "TwinRooms$CallRecord" "changes" "I", .fieldLink "TwinRooms" 326 "TwinRooms$Letter" "changes" "I", .fieldLink "TwinRooms" 327 "TwinRooms$Letter" "junction" "I", .fieldLink "TwinRooms" 328 "TwinRooms$Ambulance" "serial" "I", .fieldLink "TwinRooms" 331 "TwinRooms$Letter" "state" "I", .fieldLink "TwinRooms" 332 "TwinRooms$Ambulance" "call" "I", .fieldLink "TwinRooms" 335 "TwinRooms$Letter" "call" "I", .fieldLink "TwinRooms" 336 "TwinRooms$Letter" "kind" "I", .methodLink "TwinRooms" 339 ⟨"TwinRooms", "decideGrant", "(LTwinRooms$Letter;)V"⟩, .methodLink "TwinRooms" 342 ⟨"TwinRooms$CallRecord", "renewFrom", "(LTwinRooms$CallRecord;)Z"⟩, .methodLink "TwinRooms" 346 ⟨"TwinRooms", "sendReceipt", "(ILTwinRooms$Letter;)V"⟩, .methodLink "TwinRooms" 350 ⟨"TwinRooms$Referee", "mayGrant", "(II)Z"⟩, .methodLink "TwinRooms" 353 ⟨"TwinRooms$Referee", "countGrant", "(II)I"⟩, .methodLink "TwinRooms" 357 ⟨"TwinRooms$Room", "acceptGrant", "(LTwinRooms$Letter;)V"⟩, .methodLink "TwinRooms" 360 ⟨"TwinRooms$Room", "acceptCopy", "(LTwinRooms$Letter;)V"⟩, .methodLink "TwinRooms" 363 ⟨"TwinRooms$Room", "acceptReceipt", "(LTwinRooms$Letter;)V"⟩, .methodLink "TwinRooms" 366 ⟨"TwinRooms$Sighting", "acceptReport", "(LTwinRooms$Letter;)V"⟩, .methodLink "TwinRooms" 369 ⟨"TwinRooms", "sendAllCopies", "(II)V"⟩, .methodLink "TwinRooms" 372 ⟨"TwinRooms$Ambulance", "acceptOrder", "(LTwinRooms$Letter;)V"⟩]
def k_lk_6 : List Jvm.Cond := [.methodLink "TwinRooms$Post" 3 ⟨"java/lang/Object", "<init>", "()V"⟩, .classLink "TwinRooms$Post" 9 "TwinRooms$Letter", .fieldLink "TwinRooms$Post" 11 "TwinRooms$Post" "waiting" "[LTwinRooms$Letter;", .methodLinkNest "TwinRooms$Post" 17 ⟨"TwinRooms$Letter", "<init>", "()V"⟩ "TwinRooms", .fieldLink "TwinRooms$Post" 18 "TwinRooms$Post" "removed" "LTwinRooms$Letter;", .fieldLink "TwinRooms$Post" 22 "TwinRooms$Post" "count" "I", .fieldLink "TwinRooms$Post" 26 "TwinRooms$Letter" "kind" "I", .fieldLink "TwinRooms$Post" 29 "TwinRooms$Letter" "sender" "I", .fieldLink "TwinRooms$Post" 32 "TwinRooms$Letter" "receiver" "I", .fieldLink "TwinRooms$Post" 35 "TwinRooms$Letter" "about" "I", .fieldLink "TwinRooms$Post" 38 "TwinRooms$Letter" "number" "I", .methodLink "TwinRooms$Post" 41 ⟨"TwinRooms$Letter", "copyFrom", "(LTwinRooms$Letter;)V"⟩]
def k_lk_7 : List Jvm.Cond := [.methodLink "TwinRooms$QuestionCard" 3 ⟨"java/lang/Object", "<init>", "()V"⟩, .fieldLink "TwinRooms$QuestionCard" 9 "TwinRooms$QuestionCard" "yesNodes" "[I", .fieldLink "TwinRooms$QuestionCard" 15 "TwinRooms$QuestionCard" "noNodes" "[I", .fieldLink "TwinRooms$QuestionCard" 18 "TwinRooms$QuestionCard" "grades" "[I", .fieldLink "TwinRooms$QuestionCard" 21 "TwinRooms$QuestionCard" "most" "[I", .methodLink "TwinRooms$QuestionCard" 24 ⟨"TwinRooms$QuestionCard", "askOnceMore", "()V"⟩, .methodLink "TwinRooms$QuestionCard" 27 ⟨"TwinRooms$QuestionCard", "isLeaf", "(I)Z"⟩, .methodLink "TwinRooms$QuestionCard" 31 ⟨"java/lang/Math", "max", "(II)I"⟩]
def k_lk_8 : List Jvm.Cond := [.methodLink "TwinRooms$Referee" 3 ⟨"java/lang/Object", "<init>", "()V"⟩, .classLink "TwinRooms$Referee" 9 "TwinRooms$CallRecord", .fieldLink "TwinRooms$Referee" 11 "TwinRooms$Referee" "records" "[LTwinRooms$CallRecord;", .fieldLink "TwinRooms$Referee" 17 "TwinRooms$Referee" "grantedTo" "[I", .fieldLink "TwinRooms$Referee" 21 "TwinRooms$Referee" "grantedAt" "[J", .methodLinkNest "TwinRooms$Referee" 25 ⟨"TwinRooms$CallRecord", "<init>", "()V"⟩ "TwinRooms", .fieldLink "TwinRooms$Referee" 26 "TwinRooms$Referee" "clock" "J", .constantLong "TwinRooms$Referee" 30 (Int64.ofNat 2100), .fieldLink "TwinRooms$Referee" 32 "TwinRooms$Referee" "lastNumber" "I"]
def k_lk_9 : List Jvm.Cond := [.methodLink "TwinRooms$RoadMap" 3 ⟨"java/lang/Object", "<init>", "()V"⟩, .fieldLink "TwinRooms$RoadMap" 9 "TwinRooms$RoadMap" "districtOf" "[I", .fieldLink "TwinRooms$RoadMap" 15 "TwinRooms$RoadMap" "ways" "[I", .fieldLink "TwinRooms$RoadMap" 18 "TwinRooms$RoadMap" "roadSeconds" "[I", .fieldLink "TwinRooms$RoadMap" 21 "TwinRooms$RoadMap" "roads" "I", .methodLink "TwinRooms$RoadMap" 25 ⟨"TwinRooms$RoadMap", "shortenWays", "()Z"⟩, .methodLink "TwinRooms$RoadMap" 29 ⟨"TwinRooms$RoadMap", "isShorter", "(II)Z"⟩]
def k_lk_10 : List Jvm.Cond := [.methodLink "TwinRoomsModel" 1 ⟨"java/lang/Object", "<init>", "()V"⟩, .fieldLink "TwinRoomsModel" 7 "TwinRoomsModel" "road" "[I", .fieldLink "TwinRoomsModel" 13 "TwinRoomsModel" "districtOf" "[I", .fieldLink "TwinRoomsModel" 16 "TwinRoomsModel" "sum" "[I", .fieldLink "TwinRoomsModel" 19 "TwinRoomsModel" "leaf" "[I", .fieldLink "TwinRoomsModel" 22 "TwinRoomsModel" "nodeYes" "[I", .fieldLink "TwinRoomsModel" 25 "TwinRoomsModel" "nodeNo" "[I", .fieldLink "TwinRoomsModel" 28 "TwinRoomsModel" "deep" "[I", .fieldLink "TwinRoomsModel" 31 "TwinRoomsModel" "deeper" "[I", .fieldLink "TwinRoomsModel" 34 "TwinRoomsModel" "unitJunction" "[I", .fieldLink "TwinRoomsModel" 37 "TwinRoomsModel" "unitSkill" "[I", .fieldLink "TwinRoomsModel" 40 "TwinRoomsModel" "unitState" "[I", .fieldLink "TwinRoomsModel" 43 "TwinRoomsModel" "unitCall" "[I", .fieldLink "TwinRoomsModel" 46 "TwinRoomsModel" "unitGoal" "[I", .fieldLink "TwinRoomsModel" 49 "TwinRoomsModel" "unitSerial" "[I", .fieldLink "TwinRoomsModel" 52 "TwinRoomsModel" "unitHighest" "[I", .fieldLink "TwinRoomsModel" 55 "TwinRoomsModel" "clock" "[J", .fieldLink "TwinRoomsModel" 59 "TwinRoomsModel" "speed" "[I", .fieldLink "TwinRoomsModel" 62 "TwinRoomsModel" "down" "[Z", .fieldLink "TwinRoomsModel" 66 "TwinRoomsModel" "grantRoom" "[I", .fieldLink "TwinRoomsModel" 69 "TwinRoomsModel" "grantNumber" "[I", .fieldLink "TwinRoomsModel" 72 "TwinRoomsModel" "grantWhen" "[J", .fieldLink "TwinRoomsModel" 75 "TwinRoomsModel" "hasNumber" "[I", .fieldLink "TwinRoomsModel" 78 "TwinRoomsModel" "everNumber" "[I", .fieldLink "TwinRoomsModel" 81 "TwinRoomsModel" "hasAsked" "[J", .fieldLink "TwinRoomsModel" 84 "TwinRoomsModel" "taken" "[I", .fieldLink "TwinRoomsModel" 87 "TwinRoomsModel" "knows" "[Z", .fieldLink "TwinRoomsModel" 90 "TwinRoomsModel" "junction" "[I", .fieldLink "TwinRoomsModel" 93 "TwinRoomsModel" "hash" "[I", .fieldLink "TwinRoomsModel" 96 "TwinRoomsModel" "node" "[I", .fieldLink "TwinRoomsModel" 99 "TwinRoomsModel" "grade" "[I", .fieldLink "TwinRoomsModel" 102 "TwinRoomsModel" "state" "[I", .fieldLink "TwinRoomsModel" 105 "TwinRoomsModel" "ordered" "[I", .fieldLink "TwinRoomsModel" 108 "TwinRoomsModel" "linked" "[I", .fieldLink "TwinRoomsModel" 111 "TwinRoomsModel" "stampGrant" "[I", .fieldLink "TwinRoomsModel" 114 "TwinRoomsModel" "stampChanges" "[I", .fieldLink "TwinRoomsModel" 117 "TwinRoomsModel" "sure" "[Z", .fieldLink "TwinRoomsModel" 120 "TwinRoomsModel" "heard" "[Z", .fieldLink "TwinRoomsModel" 123 "TwinRoomsModel" "heardState" "[I", .fieldLink "TwinRoomsModel" 126 "TwinRoomsModel" "heardJunction" "[I", .fieldLink "TwinRoomsModel" 129 "TwinRoomsModel" "heardCall" "[I", .fieldLink "TwinRoomsModel" 132 "TwinRoomsModel" "heardSerial" "[I", .fieldLink "TwinRoomsModel" 135 "TwinRoomsModel" "counted" "[Z", .fieldLink "TwinRoomsModel" 138 "TwinRoomsModel" "kind" "[I", .fieldLink "TwinRoomsModel" 141 "TwinRoomsModel" "by" "[I", .fieldLink "TwinRoomsModel" 144 "TwinRoomsModel" "to" "[I", .fieldLink "TwinRoomsModel" 147 "TwinRoomsModel" "about" "[I", .fieldLink "TwinRoomsModel" 150 "TwinRoomsModel" "number" "[I", .fieldLink "TwinRoomsModel" 153 "TwinRoomsModel" "changes" "[I", .fieldLink "TwinRoomsModel" 156 "TwinRoomsModel" "atJunction" "[I", .fieldLink "TwinRoomsModel" 159 "TwinRoomsModel" "itsHash" "[I", .fieldLink "TwinRoomsModel" 162 "TwinRoomsModel" "itsNode" "[I", .fieldLink "TwinRoomsModel" 165 "TwinRoomsModel" "itsGrade" "[I", .fieldLink "TwinRoomsModel" 168 "TwinRoomsModel" "itsState" "[I", .fieldLink "TwinRoomsModel" 171 "TwinRoomsModel" "itsUnit" "[I", .fieldLink "TwinRoomsModel" 174 "TwinRoomsModel" "itsLinked" "[I", .fieldLink "TwinRoomsModel" 177 "TwinRoomsModel" "itsClock" "[J", .fieldLink "TwinRoomsModel" 180 "TwinRoomsModel" "thrown" "I", .methodLink "TwinRoomsModel" 184 ⟨"TwinRoomsModel", "within", "(III)Z"⟩, .methodLink "TwinRoomsModel" 188 ⟨"TwinRoomsModel", "isJunction", "(I)Z"⟩, .fieldLink "TwinRoomsModel" 192 "TwinRoomsModel" "roads" "I", .methodLink "TwinRoomsModel" 195 ⟨"TwinRoomsModel", "isDistrict", "(I)Z"⟩, .constant "TwinRoomsModel" 198 (Int32.ofNat 1000000), .fieldLink "TwinRoomsModel" 199 "TwinRoomsModel" "waiting" "I", .methodLink "TwinRoomsModel" 202 ⟨"TwinRoomsModel", "send", "(IIIII)I"⟩, .methodLink "TwinRoomsModel" 206 ⟨"TwinRoomsModel", "sendReport", "(II)V"⟩, .constantLong "TwinRoomsModel" 210 (Int64.ofNat 2100), .fieldLink "TwinRoomsModel" 212 "TwinRoomsModel" "series" "I", .methodLink "TwinRoomsModel" 215 ⟨"TwinRoomsModel", "sendRecord", "(IIII)V"⟩, .methodLink "TwinRoomsModel" 219 ⟨"TwinRoomsModel", "report", "(I)V"⟩, .methodLink "TwinRoomsModel" 223 ⟨"TwinRoomsModel", "refereeAsked", "()V"⟩, .methodLink "TwinRoomsModel" 226 ⟨"TwinRoomsModel", "roomGranted", "(I)V"⟩, .methodLink "TwinRoomsModel" 229 ⟨"TwinRoomsModel", "keepIfNewer", "(I)V"⟩, .methodLink "TwinRoomsModel" 232 ⟨"TwinRoomsModel", "sendReceipt", "(I)V"⟩, .methodLink "TwinRoomsModel" 235 ⟨"TwinRoomsModel", "roomReceipted", "(I)V"⟩, .methodLink "TwinRoomsModel" 238 ⟨"TwinRoomsModel", "unitOrdered", "(I)V"⟩, .methodLink "TwinRoomsModel" 241 ⟨"TwinRoomsModel", "roomReported", "(I)V"⟩, .methodLink "TwinRoomsModel" 244 ⟨"TwinRoomsModel", "copyLetter", "(II)V"⟩, .methodLink "TwinRoomsModel" 247 ⟨"TwinRoomsModel", "takeOut", "(I)Z"⟩, .methodLink "TwinRoomsModel" 250 ⟨"TwinRoomsModel", "receive", "(I)V"⟩, .methodLink "TwinRoomsModel" 253 ⟨"TwinRoomsModel", "isUnit", "(I)Z"⟩, .methodLink "TwinRoomsModel" 256 ⟨"TwinRoomsModel", "isRoom", "(I)Z"⟩, .constantLong "TwinRoomsModel" 259 (Int64.ofNat 2000), .methodLink "TwinRoomsModel" 261 ⟨"TwinRoomsModel", "charge", "(II)I"⟩, .methodLink "TwinRoomsModel" 265 ⟨"TwinRoomsModel", "chargeOf", "(II)I"⟩, .methodLink "TwinRoomsModel" 268 ⟨"TwinRoomsModel", "way", "(II)I"⟩, .methodLink "TwinRoomsModel" 271 ⟨"TwinRoomsModel", "alike", "(III)I"⟩, .methodLink "TwinRoomsModel" 275 ⟨"TwinRoomsModel", "change", "(II)V"⟩, .methodLink "TwinRoomsModel" 278 ⟨"TwinRoomsModel", "known", "(II)Z"⟩, .methodLink "TwinRoomsModel" 282 ⟨"TwinRoomsModel", "fitting", "(IIII)I"⟩, .methodLink "TwinRoomsModel" 286 ⟨"TwinRoomsModel", "isFree", "(II)Z"⟩, .methodLink "TwinRoomsModel" 289 ⟨"TwinRoomsModel", "unitOn", "(II)Z"⟩, .methodLink "TwinRoomsModel" 292 ⟨"TwinRoomsModel", "nearestOf", "(IIII)I"⟩]
def k_lk_11 : List Jvm.Cond := [.methodLink "TwinRoomsLaw" 7 ⟨"TwinRooms", "tick", "(I)J"⟩, .methodLink "TwinRoomsLaw" 15 ⟨"TwinRooms", "ask", "(II)V"⟩, .methodLink "TwinRoomsLaw" 21 ⟨"TwinRooms", "take", "(III)I"⟩, .methodLink "TwinRoomsLaw" 25 ⟨"TwinRooms", "answer", "(IIZ)I"⟩, .methodLink "TwinRoomsLaw" 29 ⟨"TwinRooms", "order", "(II)I"⟩, .methodLink "TwinRoomsLaw" 33 ⟨"TwinRooms", "close", "(II)V"⟩, .methodLink "TwinRoomsLaw" 36 ⟨"TwinRooms", "store", "(II)V"⟩, .classLink "TwinRoomsLaw" 8 "TwinRooms", .methodLink "TwinRoomsLaw" 39 ⟨"TwinRooms", "<init>", "()V"⟩, .classLink "TwinRoomsLaw" 40 "TwinRoomsModel", .methodLink "TwinRoomsLaw" 42 ⟨"TwinRoomsModel", "<init>", "()V"⟩, .methodLink "TwinRoomsLaw" 43 ⟨"TwinRooms", "road", "(III)Z"⟩, .methodLink "TwinRoomsLaw" 47 ⟨"TwinRoomsModel", "road", "(III)Z"⟩, .methodLink "TwinRoomsLaw" 48 ⟨"TwinRooms", "district", "(II)Z"⟩, .methodLink "TwinRoomsLaw" 52 ⟨"TwinRoomsModel", "district", "(II)Z"⟩, .methodLink "TwinRoomsLaw" 53 ⟨"TwinRooms", "card", "(IIII)Z"⟩, .methodLink "TwinRoomsLaw" 57 ⟨"TwinRoomsModel", "card", "(IIII)Z"⟩, .methodLink "TwinRoomsLaw" 58 ⟨"TwinRooms", "questions", "(I)I"⟩, .methodLink "TwinRoomsLaw" 62 ⟨"TwinRoomsModel", "questions", "(I)I"⟩, .methodLink "TwinRoomsLaw" 63 ⟨"TwinRooms", "unit", "(III)Z"⟩, .methodLink "TwinRoomsLaw" 66 ⟨"TwinRoomsModel", "unit", "(III)Z"⟩, .methodLink "TwinRoomsLaw" 67 ⟨"TwinRooms", "status", "(II)Z"⟩, .methodLink "TwinRoomsLaw" 70 ⟨"TwinRoomsModel", "status", "(II)Z"⟩, .methodLink "TwinRoomsLaw" 71 ⟨"TwinRooms", "speed", "(II)Z"⟩, .methodLink "TwinRoomsLaw" 74 ⟨"TwinRoomsModel", "speed", "(II)Z"⟩, .methodLink "TwinRoomsLaw" 75 ⟨"TwinRoomsLaw", "tick", "(LTwinRooms;I[J)I"⟩, .methodLink "TwinRoomsLaw" 80 ⟨"TwinRoomsModel", "tick", "(I)J"⟩, .methodLink "TwinRoomsLaw" 81 ⟨"TwinRoomsModel", "thrown", "()I"⟩, .methodLink "TwinRoomsLaw" 85 ⟨"TwinRoomsLaw", "ask", "(LTwinRooms;II)I"⟩, .methodLink "TwinRoomsLaw" 88 ⟨"TwinRoomsModel", "ask", "(II)V"⟩, .methodLink "TwinRoomsLaw" 89 ⟨"TwinRooms", "grantOf", "(II)I"⟩, .methodLink "TwinRoomsLaw" 92 ⟨"TwinRoomsModel", "grantOf", "(II)I"⟩, .methodLink "TwinRoomsLaw" 93 ⟨"TwinRoomsLaw", "take", "(LTwinRooms;III[J)I"⟩, .methodLink "TwinRoomsLaw" 96 ⟨"TwinRoomsModel", "take", "(III)I"⟩, .methodLink "TwinRoomsLaw" 97 ⟨"TwinRoomsLaw", "answer", "(LTwinRooms;IIZ[J)I"⟩, .methodLink "TwinRoomsLaw" 100 ⟨"TwinRoomsModel", "answer", "(IIZ)I"⟩, .methodLink "TwinRoomsLaw" 101 ⟨"TwinRoomsLaw", "order", "(LTwinRooms;II[J)I"⟩, .methodLink "TwinRoomsLaw" 104 ⟨"TwinRoomsModel", "order", "(II)I"⟩, .methodLink "TwinRoomsLaw" 105 ⟨"TwinRoomsLaw", "close", "(LTwinRooms;II)I"⟩, .methodLink "TwinRoomsLaw" 107 ⟨"TwinRoomsModel", "close", "(II)V"⟩, .methodLink "TwinRoomsLaw" 108 ⟨"TwinRoomsLaw", "store", "(LTwinRooms;II)I"⟩, .methodLink "TwinRoomsLaw" 110 ⟨"TwinRoomsModel", "store", "(II)V"⟩, .methodLink "TwinRoomsLaw" 111 ⟨"TwinRooms", "letters", "()I"⟩, .methodLink "TwinRoomsLaw" 114 ⟨"TwinRoomsModel", "letters", "()I"⟩, .methodLink "TwinRoomsLaw" 115 ⟨"TwinRooms", "letter", "(II)I"⟩, .methodLink "TwinRoomsLaw" 118 ⟨"TwinRoomsModel", "letter", "(II)I"⟩, .methodLink "TwinRoomsLaw" 119 ⟨"TwinRooms", "deliver", "(I)Z"⟩, .methodLink "TwinRoomsLaw" 123 ⟨"TwinRoomsModel", "deliver", "(I)Z"⟩, .methodLink "TwinRoomsLaw" 124 ⟨"TwinRooms", "lose", "(I)Z"⟩, .methodLink "TwinRoomsLaw" 127 ⟨"TwinRoomsModel", "lose", "(I)Z"⟩, .methodLink "TwinRoomsLaw" 128 ⟨"TwinRooms", "twin", "(I)Z"⟩, .methodLink "TwinRoomsLaw" 131 ⟨"TwinRoomsModel", "twin", "(I)Z"⟩, .methodLink "TwinRoomsLaw" 132 ⟨"TwinRooms", "crash", "(I)Z"⟩, .methodLink "TwinRoomsLaw" 135 ⟨"TwinRoomsModel", "crash", "(I)Z"⟩, .methodLink "TwinRoomsLaw" 136 ⟨"TwinRooms", "mount", "(I)Z"⟩, .methodLink "TwinRoomsLaw" 139 ⟨"TwinRoomsModel", "mount", "(I)Z"⟩, .methodLink "TwinRoomsLaw" 140 ⟨"TwinRooms", "eta", "(II)I"⟩, .methodLink "TwinRoomsLaw" 143 ⟨"TwinRoomsModel", "eta", "(II)I"⟩, .methodLink "TwinRoomsLaw" 144 ⟨"TwinRooms", "nearest", "(IIII)I"⟩, .methodLink "TwinRoomsLaw" 148 ⟨"TwinRoomsModel", "nearest", "(IIII)I"⟩, .methodLink "TwinRoomsLaw" 149 ⟨"TwinRooms", "unitIs", "(II)I"⟩, .methodLink "TwinRoomsLaw" 152 ⟨"TwinRoomsModel", "unitIs", "(II)I"⟩, .methodLink "TwinRoomsLaw" 153 ⟨"TwinRooms", "unitKnown", "(III)I"⟩, .methodLink "TwinRoomsLaw" 156 ⟨"TwinRoomsModel", "unitKnown", "(III)I"⟩, .methodLink "TwinRoomsLaw" 157 ⟨"TwinRooms", "callKnown", "(III)I"⟩, .methodLink "TwinRoomsLaw" 160 ⟨"TwinRoomsModel", "callKnown", "(III)I"⟩, .classLink "TwinRoomsLaw" 13 "java/lang/IllegalArgumentException", .classLink "TwinRoomsLaw" 19 "java/lang/IllegalStateException"]
def k_lks : List (List Jvm.Cond) := [k_lk_0, k_lk_1, k_lk_2, k_lk_3, k_lk_4, k_lk_5, k_lk_6, k_lk_7, k_lk_8, k_lk_9, k_lk_10, k_lk_11]
def k_lk (c : Nat) : List Jvm.Cond := k_lks.getD c []
def k_cw : List Jvm.Cond := [.arrayClass .int, .arrayClass .long, .arrayClass .boolean, .arrayOver (.object "TwinRooms$Ambulance"), .arrayOver (.object "TwinRooms$CallRecord"), .arrayOver (.object "TwinRooms$Letter"), .arrayOver (.object "TwinRooms$Room"), .arrayOver (.object "TwinRooms$Sighting"), .instantiable "TwinRooms$Ambulance" 7, .instantiable "TwinRooms$CallRecord" 10, .instantiable "TwinRooms$Letter" 11, .instantiable "TwinRooms$Room" 10, .instantiable "TwinRooms$Sighting" 6, .instantiable "TwinRooms" 6, .instantiable "TwinRooms$Post" 3, .instantiable "TwinRooms$QuestionCard" 4, .instantiable "TwinRooms$Referee" 5, .instantiable "TwinRooms$RoadMap" 4, .instantiable "TwinRoomsModel" 60, .initialized "TwinRooms$Ambulance", .initialized "TwinRooms$CallRecord", .initialized "TwinRooms$Letter", .initialized "TwinRooms$Room", .initialized "TwinRooms$Sighting", .initialized "TwinRooms", .initialized "TwinRooms$Post", .initialized "TwinRooms$QuestionCard", .initialized "TwinRooms$Referee", .initialized "TwinRooms$RoadMap", .initialized "TwinRoomsModel", .initialized "TwinRoomsLaw"]
def k_lay : List Jvm.Cond := (List.range k_no).flatMap (fun c => u_ws (k_cn c) (k_tf c) (k_ft c).length)
def k_mi : List Jvm.Cond := ((List.range k_nj).filter (fun j => !(k_kd j == 1))).map (fun j => Jvm.Cond.instanceMethod (k_y j))
def k_ms : List Jvm.Cond := ((List.range k_nj).filter (fun j => k_kd j == 1)).map (fun j => Jvm.Cond.static (k_y j))
def k_me : List Jvm.Cond := ((List.range k_nj).filter (fun j => k_kd j == 0)).map (fun j => Jvm.Cond.selects (k_y j).cls (k_y j) (k_y j))
def k_cwd (j : Nat) : Jvm.Cond := match k_ex j with
  | [] => .code (k_y j) (k_by j) (k_t j).2.2.1 (k_t j).2.2.2.1
  | hh => .codeWith (k_y j) (k_by j) (k_t j).2.2.1 (k_t j).2.2.2.1 hh
def k_mw : List Jvm.Cond := (List.range k_nj).map k_cwd
def k_ic (x : Nat) : Nat := if x = 0 then 112 else 126
def k_jw : List Jvm.Cond := [.instanceMethod Lib.objectInit, .code Lib.objectInit ⟨#[0xb1]⟩ 1 none, .static Lib.Math.max.name, .initialized "java/lang/Math", .code Lib.Math.max.name Lib.Math.max.code 2 (some .int)]
end
section
/-! The typed state: four tables by (object, place); the shape of the objects; the kit's list of cells that it stands for.
Object 0 is null; object i (from 1 on) lies at address B + i. Shape: .inl c an object of class number c, .inr (t, n) an array of n of type number t. -/
abbrev s_S : Type := (Nat → Nat → Int32) × (Nat → Nat → Int64) × (Nat → Nat → Nat) × (Nat → Nat → Bool)
abbrev s_R : Type := (Nat → Int32) × (Nat → Int64) × (Nat → Nat) × (Nat → Bool)
abbrev s_K : Type := Nat ⊕ (Nat × Nat)
abbrev s_M : Type := List s_K × Nat × s_S
def s_up {α : Type} (f : Nat → Nat → α) (i k : Nat) (v : α) : Nat → Nat → α := va_up f i (va_up (f i) k v)
def s_pi (σ : s_S) (i k : Nat) (v : Int32) : s_S := (s_up σ.1 i k v, σ.2.1, σ.2.2.1, σ.2.2.2)
def s_pl (σ : s_S) (i k : Nat) (v : Int64) : s_S := (σ.1, s_up σ.2.1 i k v, σ.2.2.1, σ.2.2.2)
def s_pr (σ : s_S) (i k : Nat) (v : Nat) : s_S := (σ.1, σ.2.1, s_up σ.2.2.1 i k v, σ.2.2.2)
def s_pz (σ : s_S) (i k : Nat) (v : Bool) : s_S := (σ.1, σ.2.1, σ.2.2.1, s_up σ.2.2.2 i k v)
def s_z (σ : s_S) (i : Nat) : s_S := (va_up σ.1 i (fun _ => 0), va_up σ.2.1 i (fun _ => 0), va_up σ.2.2.1 i (fun _ => 0), va_up σ.2.2.2 i (fun _ => false))
def s_row (σ : s_S) (i : Nat) : s_R := (σ.1 i, σ.2.1 i, σ.2.2.1 i, σ.2.2.2 i)
def s_b (z : Bool) : Int32 := if z = true then 1 else 0
def s_r (B r : Nat) : Option Nat := if r = 0 then none else some (B + r)
def s_v (B : Nat) (ρ : s_R) (k : Nat) : FieldType → Value
  | .int => .int (ρ.1 k)
  | .long => .long (ρ.2.1 k)
  | .boolean => .int (s_b (ρ.2.2.2 k))
  | _ => va_rf (s_r B (ρ.2.2.1 k))
def s_e (B : Nat) (dA : Nat → ClassId) (ρ : s_R) : s_K → va_E
  | .inl ci => .inr (ci, (k_ft ci).mapIdx (fun k ty => s_v B ρ k ty))
  | .inr (0, n) => .inl (dA 0, n, .inl ρ.1)
  | .inr (1, n) => .inl (dA 1, n, .inr (.inl ρ.2.1))
  | .inr (2, n) => .inl (dA 2, n, .inl (fun j => s_b (ρ.2.2.2 j)))
  | .inr (t + 3, n) => .inl (dA (t + 3), n, .inr (.inr (.inr (.inr (fun j => s_r B (ρ.2.2.1 j))))))
def s_w (B : Nat) (dA : Nat → ClassId) (sh : List s_K) (σ : s_S) : va_W := (sh.mapIdx (fun i e => (B + i, s_e B dA (s_row σ i) e))).tail
theorem s_w_get (B : Nat) (dA : Nat → ClassId) (sh : List s_K) (σ : s_S) (j : Nat) : (s_w B dA sh σ)[j]? = (sh[j + 1]?).map (fun e => (B + (j + 1), s_e B dA (s_row σ (j + 1)) e)) := by
  unfold s_w
  rw [List.getElem?_tail, List.getElem?_mapIdx]
theorem s_w_at {B : Nat} {dA : Nat → ClassId} {sh : List s_K} {σ : s_S} {j : Nat} {e : s_K} (h : sh[j + 1]? = some e) : (s_w B dA sh σ)[j]? = some (B + (j + 1), s_e B dA (s_row σ (j + 1)) e) := by
  rw [s_w_get, h]; rfl
theorem s_w_len (B : Nat) (dA : Nat → ClassId) (sh : List s_K) (σ : s_S) : (s_w B dA sh σ).length = sh.length - 1 := by simp [s_w]
theorem s_w_set {B : Nat} {dA : Nat → ClassId} {sh : List s_K} {σ σ' : s_S} {j : Nat} {e : s_K} (h : sh[j + 1]? = some e) (ho : ∀ i, i ≠ j + 1 → s_row σ' i = s_row σ i) :
    s_w B dA sh σ' = (s_w B dA sh σ).set j (B + (j + 1), s_e B dA (s_row σ' (j + 1)) e) := by
  apply List.ext_getElem?
  intro i
  rw [List.getElem?_set, s_w_get, s_w_get, s_w_len]
  by_cases hj : j = i
  · subst hj
    have hlt : j + 1 < sh.length := (List.getElem?_eq_some_iff.mp h).1
    rw [if_pos rfl, if_pos (by omega), h]
    rfl
  · rw [if_neg hj, ho (i + 1) (by omega)]
theorem s_w_push {B : Nat} {dA : Nat → ClassId} {sh : List s_K} {σ σ' : s_S} {e : s_K} (h0 : sh ≠ []) (ho : ∀ i, i ≠ sh.length → s_row σ' i = s_row σ i) :
    s_w B dA (sh ++ [e]) σ' = s_w B dA sh σ ++ [(B + sh.length, s_e B dA (s_row σ' sh.length) e)] := by
  have hl : 0 < sh.length := List.length_pos_iff.mpr h0
  apply List.ext_getElem?
  intro i
  rw [s_w_get]
  by_cases h1 : i + 1 < sh.length
  · rw [List.getElem?_append_left h1, List.getElem?_append_left (by rw [s_w_len]; omega), s_w_get, ho (i + 1) (by omega)]
  · rw [List.getElem?_append_right (by omega), List.getElem?_append_right (by rw [s_w_len]; omega), s_w_len]
    by_cases h2 : i + 1 = sh.length
    · rw [show i + 1 - sh.length = 0 by omega, show i - (sh.length - 1) = 0 by omega, ← h2]
      rfl
    · obtain ⟨d, hd⟩ : ∃ d, i + 1 - sh.length = d + 1 := ⟨i + 1 - sh.length - 1, by omega⟩
      rw [hd, show i - (sh.length - 1) = d + 1 by omega]
      rfl
theorem s_w_D (B : Nat) (dA : Nat → ClassId) (sh : List s_K) (σ : s_S) : va_D (fun q => B < q) (s_w B dA sh σ) := by
  have key : ∀ (i : Nat) (p : Nat × va_E), (s_w B dA sh σ)[i]? = some p → p.1 = B + (i + 1) := by
    intro i p h
    rw [s_w_get] at h
    cases hc : sh[i + 1]? with
    | none => rw [hc] at h; cases h
    | some e => rw [hc] at h; cases h; rfl
  refine ⟨fun i j p q hp hq he => ?_, fun k q hq => ?_⟩
  · have h1 := key i p hp
    have h2 := key j q hq
    omega
  · have h1 := key k q hq
    show B < q.1
    omega
/-! rows behind a store -/
theorem s_row_ne {α : Type} {f : Nat → Nat → α} {i j k : Nat} {v : α} (h : j ≠ i) : s_up f i k v j = f j := by simp [s_up, va_up, h]
theorem s_row_eq {α : Type} {f : Nat → Nat → α} {i k : Nat} {v : α} : s_up f i k v i = va_up (f i) k v := by simp [s_up, va_up]
theorem s_pi_off {σ : s_S} {i k : Nat} {v : Int32} : ∀ j, j ≠ i → s_row (s_pi σ i k v) j = s_row σ j := fun j h => by simp [s_row, s_pi, s_row_ne h]
theorem s_pl_off {σ : s_S} {i k : Nat} {v : Int64} : ∀ j, j ≠ i → s_row (s_pl σ i k v) j = s_row σ j := fun j h => by simp [s_row, s_pl, s_row_ne h]
theorem s_pr_off {σ : s_S} {i k : Nat} {v : Nat} : ∀ j, j ≠ i → s_row (s_pr σ i k v) j = s_row σ j := fun j h => by simp [s_row, s_pr, s_row_ne h]
theorem s_pz_off {σ : s_S} {i k : Nat} {v : Bool} : ∀ j, j ≠ i → s_row (s_pz σ i k v) j = s_row σ j := fun j h => by simp [s_row, s_pz, s_row_ne h]
theorem s_z_off {σ : s_S} {i : Nat} : ∀ j, j ≠ i → s_row (s_z σ i) j = s_row σ j := fun j h => by simp [s_row, s_z, va_up, h]
theorem s_z_at {σ : s_S} {i : Nat} : s_row (s_z σ i) i = (fun _ => 0, fun _ => 0, fun _ => 0, fun _ => false) := by simp [s_row, s_z, va_up]
theorem s_pi_at {σ : s_S} {i k : Nat} {v : Int32} : s_row (s_pi σ i k v) i = (va_up (σ.1 i) k v, σ.2.1 i, σ.2.2.1 i, σ.2.2.2 i) := by simp [s_row, s_pi, s_row_eq]
theorem s_pl_at {σ : s_S} {i k : Nat} {v : Int64} : s_row (s_pl σ i k v) i = (σ.1 i, va_up (σ.2.1 i) k v, σ.2.2.1 i, σ.2.2.2 i) := by simp [s_row, s_pl, s_row_eq]
theorem s_pr_at {σ : s_S} {i k : Nat} {v : Nat} : s_row (s_pr σ i k v) i = (σ.1 i, σ.2.1 i, va_up (σ.2.2.1 i) k v, σ.2.2.2 i) := by simp [s_row, s_pr, s_row_eq]
theorem s_pz_at {σ : s_S} {i k : Nat} {v : Bool} : s_row (s_pz σ i k v) i = (σ.1 i, σ.2.1 i, σ.2.2.1 i, va_up (σ.2.2.2 i) k v) := by simp [s_row, s_pz, s_row_eq]
theorem s_fs_set {B : Nat} {ρ ρ' : s_R} {l : List FieldType} {k : Nat} {ty : FieldType} {v : Value} (hk : l[k]? = some ty) (hv : s_v B ρ' k ty = v) (ho : ∀ j t, j ≠ k → s_v B ρ' j t = s_v B ρ j t) :
    l.mapIdx (fun j t => s_v B ρ' j t) = (l.mapIdx (fun j t => s_v B ρ j t)).set k v := by
  apply List.ext_getElem?
  intro j
  rw [List.getElem?_set, List.getElem?_mapIdx, List.getElem?_mapIdx, List.length_mapIdx]
  by_cases hj : k = j
  · subst hj
    have hlt : k < l.length := (List.getElem?_eq_some_iff.mp hk).1
    rw [if_pos rfl, if_pos hlt, hk]
    show some (s_v B ρ' k ty) = some v
    rw [hv]
  · rw [if_neg hj]
    cases hc : l[j]? with
    | none => rfl
    | some t =>
      show some (s_v B ρ' j t) = some (s_v B ρ j t)
      rw [ho j t (fun h => hj h.symm)]
theorem s_up_ne {α : Type} {f : Nat → α} {k j : Nat} {v : α} (h : j ≠ k) : va_up f k v j = f j := by simp [va_up, h]
theorem s_up_eq {α : Type} {f : Nat → α} {k : Nat} {v : α} : va_up f k v k = v := by simp [va_up]
theorem s_v_pi {B : Nat} {ρ : s_R} {k : Nat} {x : Int32} : ∀ j t, j ≠ k → s_v B (va_up ρ.1 k x, ρ.2.1, ρ.2.2.1, ρ.2.2.2) j t = s_v B ρ j t := fun j t h => by cases t <;> simp [s_v, s_up_ne h]
theorem s_v_pl {B : Nat} {ρ : s_R} {k : Nat} {x : Int64} : ∀ j t, j ≠ k → s_v B (ρ.1, va_up ρ.2.1 k x, ρ.2.2.1, ρ.2.2.2) j t = s_v B ρ j t := fun j t h => by cases t <;> simp [s_v, s_up_ne h]
theorem s_v_pr {B : Nat} {ρ : s_R} {k : Nat} {x : Nat} : ∀ j t, j ≠ k → s_v B (ρ.1, ρ.2.1, va_up ρ.2.2.1 k x, ρ.2.2.2) j t = s_v B ρ j t := fun j t h => by cases t <;> simp [s_v, s_up_ne h]
theorem s_v_pz {B : Nat} {ρ : s_R} {k : Nat} {x : Bool} : ∀ j t, j ≠ k → s_v B (ρ.1, ρ.2.1, ρ.2.2.1, va_up ρ.2.2.2 k x) j t = s_v B ρ j t := fun j t h => by cases t <;> simp [s_v, s_up_ne h]
theorem s_b01 (z : Bool) : s_b z = 0 ∨ s_b z = 1 := by cases z <;> simp [s_b]
theorem s_b_ne (z : Bool) : (!(s_b z == 0)) = z := by cases z <;> rfl
theorem s_b_of {x : Int32} (h : x = 0 ∨ x = 1) : s_b (!(x == 0)) = x := by rcases h with h | h <;> subst h <;> rfl
theorem s_r_some {B r : Nat} (h : r ≠ 0) : s_r B r = some (B + r) := by simp [s_r, h]
end
section
/-! A small machine over the typed state: what the methods' instructions do to it. A row of a method's code: (pc, instruction, length, a1, a2, place of its word). -/
abbrev i_L : Type := List (Nat × Value)
abbrev i_C : Type := Nat × i_L × List Value × s_M × Nat × Nat
abbrev i_O : Type := Option Value ⊕ Nat
def i_at (c : List i_X) (pc : Nat) : Option (Instr × Nat × Nat × Nat × Nat) := c.lookup pc
def i_ld (L : i_L) (i : Nat) : Option Value := L.lookup i
def i_s1 (L : i_L) (i : Nat) (v : Value) : i_L := (i, v) :: L.filter (fun q => !(q.1 == i) && !(q.1 + 1 == i && q.2.category == 2))
def i_s2 (L : i_L) (i : Nat) (v : Value) : i_L := (i, v) :: L.filter (fun q => !(q.1 == i) && (!(q.1 == i + 1) && !(q.1 + 1 == i && q.2.category == 2)))
def i_tg (pc : Nat) (off : Int) : Nat := ((pc : Int) + off).toNat
def i_br (c : Jvm.ClassFile.Cond) (x y : Int32) (t f : Nat) : Nat := match c with
  | .eq => if x = y then t else f
  | .ne => if x = y then f else t
  | .lt => if x < y then t else f
  | .ge => if y ≤ x then t else f
  | .gt => if y < x then t else f
  | .le => if x ≤ y then t else f
def i_rd (σ : s_S) (a k : Nat) : FieldType → Value
  | .int => .int (σ.1 a k)
  | .long => .long (σ.2.1 a k)
  | .boolean => .int (s_b (σ.2.2.2 a k))
  | _ => .ref (σ.2.2.1 a k)
def i_nn (σ : s_S) (a k : Nat) : FieldType → Prop
  | .int => True
  | .long => True
  | .boolean => True
  | _ => σ.2.2.1 a k ≠ 0
def i_wr (σ : s_S) (a k : Nat) : FieldType → Value → Option (Prop × s_S)
  | .int, .int x => some (True, s_pi σ a k x)
  | .long, .long x => some (True, s_pl σ a k x)
  | .boolean, .int x => some (x = 0 ∨ x = 1, s_pz σ a k (!(x == 0)))
  | .object _, .ref r => some (r ≠ 0, s_pr σ a k r)
  | .array _, .ref r => some (r ≠ 0, s_pr σ a k r)
  | _, _ => none
def i_ix (M : s_M) (a t : Nat) (j : Int32) : Prop := ∃ n, M.1[a]? = some (.inr (t, n)) ∧ vp_in j n
section Interp
variable (xs : Nat → Int32) (Ln : Nat)
/-- one instruction that is no call, return or throw: what it asks, and where it leads -/
def i_st (mc ms : Nat) (ins : Instr) (a1 a2 pc : Nat) (L : i_L) (st : List Value) (M : s_M) (ce sl : Nat) : Option (Prop × i_C) := match ins with
  | .iconst n => some (True, pc + 1, L, .int (Int32.ofInt n) :: st, M, ce, sl)
  | .bipush n => some (True, pc + 2, L, .int ((Int8.ofInt n).toInt32) :: st, M, ce, sl)
  | .sipush n => some (True, pc + 3, L, .int ((Int16.ofInt n).toInt32) :: st, M, ce, sl)
  | .lconst n => some (True, pc + 1, L, .long (Int64.ofNat (n : Nat)) :: st, M, ce, sl)
  | .ldc _ => some (True, pc + 2, L, .int (Int32.ofNat a1) :: st, M, ce, sl)
  | .ldc2_w _ => some (True, pc + 3, L, .long (Int64.ofNat a1) :: st, M, ce, sl)
  | .iload_n k => match i_ld L k with
    | some (.int x) => some (True, pc + 1, L, .int x :: st, M, ce, sl)
    | _ => none
  | .iload k => match i_ld L k with
    | some (.int x) => some (True, pc + 2, L, .int x :: st, M, ce, sl)
    | _ => none
  | .lload k => match i_ld L k with
    | some (.long x) => some (True, pc + 2, L, .long x :: st, M, ce, sl)
    | _ => none
  | .aload_n k => match i_ld L k with
    | some (.ref x) => some (True, pc + 1, L, .ref x :: st, M, ce, sl)
    | some (.retAddr x) => some (x = 0, pc + 1, L, .retAddr x :: st, M, ce, sl)
    | _ => none
  | .aload k => match i_ld L k with
    | some (.ref x) => some (True, pc + 2, L, .ref x :: st, M, ce, sl)
    | _ => none
  | .istore_n k => match st with
    | .int x :: r => some (True, pc + 1, i_s1 L k (.int x), r, M, ce, sl)
    | _ => none
  | .istore k => match st with
    | .int x :: r => some (True, pc + 2, i_s1 L k (.int x), r, M, ce, sl)
    | _ => none
  | .lstore k => match st with
    | .long x :: r => some (True, pc + 2, i_s2 L k (.long x), r, M, ce, sl)
    | _ => none
  | .astore_n k => match st with
    | .ref x :: r => some (True, pc + 1, i_s1 L k (.ref x), r, M, ce, sl)
    | _ => none
  | .astore k => match st with
    | .ref x :: r => some (True, pc + 2, i_s1 L k (.ref x), r, M, ce, sl)
    | _ => none
  | .iinc k n => match i_ld L k with
    | some (.int x) => some (True, pc + 3, i_s1 L k (.int (x + Int32.ofInt n)), st, M, ce, sl)
    | _ => none
  | .iadd => match st with
    | .int y :: .int x :: r => some (True, pc + 1, L, .int (x + y) :: r, M, ce, sl)
    | _ => none
  | .isub => match st with
    | .int y :: .int x :: r => some (True, pc + 1, L, .int (x - y) :: r, M, ce, sl)
    | _ => none
  | .imul => match st with
    | .int y :: .int x :: r => some (True, pc + 1, L, .int (x * y) :: r, M, ce, sl)
    | _ => none
  | .iand => match st with
    | .int y :: .int x :: r => some (True, pc + 1, L, .int (x &&& y) :: r, M, ce, sl)
    | _ => none
  | .idiv => match st with
    | .int y :: .int x :: r => some (¬ y = 0, pc + 1, L, .int (x / y) :: r, M, ce, sl)
    | _ => none
  | .irem => match st with
    | .int y :: .int x :: r => some (¬ y = 0, pc + 1, L, .int (x - x / y * y) :: r, M, ce, sl)
    | _ => none
  | .ladd => match st with
    | .long y :: .long x :: r => some (True, pc + 1, L, .long (x + y) :: r, M, ce, sl)
    | _ => none
  | .lsub => match st with
    | .long y :: .long x :: r => some (True, pc + 1, L, .long (x - y) :: r, M, ce, sl)
    | _ => none
  | .lmul => match st with
    | .long y :: .long x :: r => some (True, pc + 1, L, .long (x * y) :: r, M, ce, sl)
    | _ => none
  | .lcmp => match st with
    | .long y :: .long x :: r => some (True, pc + 1, L, .int (lg_cmp x y) :: r, M, ce, sl)
    | _ => none
  | .i2l => match st with
    | .int x :: r => some (True, pc + 1, L, .long x.toInt64 :: r, M, ce, sl)
    | _ => none
  | .dup => match st with
    | .int x :: r => some (True, pc + 1, L, .int x :: .int x :: r, M, ce, sl)
    | .ref x :: r => some (True, pc + 1, L, .ref x :: .ref x :: r, M, ce, sl)
    | _ => none
  | .dup2 => match st with
    | .int x :: .ref y :: r => some (True, pc + 1, L, .int x :: .ref y :: .int x :: .ref y :: r, M, ce, sl)
    | _ => none
  | .pop => match st with
    | .int _ :: r => some (True, pc + 1, L, r, M, ce, sl)
    | .ref _ :: r => some (True, pc + 1, L, r, M, ce, sl)
    | _ => none
  | .ifCond c off => match st with
    | .int x :: r => some (True, i_br c x 0 (i_tg pc off) (pc + 3), L, r, M, ce, sl)
    | _ => none
  | .if_icmp c off => match st with
    | .int y :: .int x :: r => some (True, i_br c x y (i_tg pc off) (pc + 3), L, r, M, ce, sl)
    | _ => none
  | .goto off => some (True, i_tg pc off, L, st, M, ce, sl)
  | .tableswitch d lo hi offs => match st with
    | .int x :: r => some (True, (if x.toInt < lo ∨ hi < x.toInt then i_tg pc d else i_tg pc (offs.getD (x.toInt - lo).toNat 0)), L, r, M, ce, sl)
    | _ => none
  | .getfield _ => match st with
    | .ref a :: r => some (M.1[a]? = some (.inl a1) ∧ i_nn M.2.2 a a2 ((k_ft a1).getD a2 .int), pc + 3, L, i_rd M.2.2 a a2 ((k_ft a1).getD a2 .int) :: r, M, ce, sl)
    | _ => none
  | .putfield _ => match st with
    | v :: .ref a :: r => match i_wr M.2.2 a a2 ((k_ft a1).getD a2 .int) v with
      | some (P, σ) => some (M.1[a]? = some (.inl a1) ∧ P, pc + 3, L, r, (M.1, M.2.1, σ), ce, sl)
      | none => none
    | _ => none
  | .iaload => match st with
    | .int j :: .ref a :: r => some (i_ix M a 0 j, pc + 1, L, .int (M.2.2.1 a j.toNatClampNeg) :: r, M, ce, sl)
    | .int j :: .retAddr x :: r => some (x = 0 ∧ vp_in j Ln, pc + 1, L, .int (xs j.toNatClampNeg) :: r, M, ce, sl)
    | _ => none
  | .laload => match st with
    | .int j :: .ref a :: r => some (i_ix M a 1 j, pc + 1, L, .long (M.2.2.2.1 a j.toNatClampNeg) :: r, M, ce, sl)
    | _ => none
  | .baload => match st with
    | .int j :: .ref a :: r => some (i_ix M a 2 j, pc + 1, L, .int (s_b (M.2.2.2.2.2 a j.toNatClampNeg)) :: r, M, ce, sl)
    | _ => none
  | .aaload => match st with
    | .int j :: .ref a :: r => some (i_ix M a (a1 + 3) j ∧ M.2.2.2.2.1 a j.toNatClampNeg ≠ 0, pc + 1, L, .ref (M.2.2.2.2.1 a j.toNatClampNeg) :: r, M, ce, sl)
    | _ => none
  | .iastore => match st with
    | .int x :: .int j :: .ref a :: r => some (i_ix M a 0 j, pc + 1, L, r, (M.1, M.2.1, s_pi M.2.2 a j.toNatClampNeg x), ce, sl)
    | _ => none
  | .lastore => match st with
    | .long x :: .int j :: .ref a :: r => some (i_ix M a 1 j, pc + 1, L, r, (M.1, M.2.1, s_pl M.2.2 a j.toNatClampNeg x), ce, sl)
    | _ => none
  | .bastore => match st with
    | .int x :: .int j :: .ref a :: r => some (i_ix M a 2 j ∧ (x = 0 ∨ x = 1), pc + 1, L, r, (M.1, M.2.1, s_pz M.2.2 a j.toNatClampNeg (!(x == 0))), ce, sl)
    | _ => none
  | .aastore => match st with
    | .ref v :: .int j :: .ref a :: r => some (i_ix M a (a1 + 3) j ∧ M.1[v]? = some (.inl a1), pc + 1, L, r, (M.1, M.2.1, s_pr M.2.2 a j.toNatClampNeg v), ce, sl)
    | _ => none
  | .arraylength => match st with
    | .retAddr x :: r => some (x = 0, pc + 1, L, .int (Int32.ofNat Ln) :: r, M, ce, sl)
    | _ => none
  | .newarray _ => match st with
    | .int n :: r => some (M.2.1 = 0 ∧ n.toInt = (a2 : Int) ∧ ce + 1 ≤ mc ∧ sl + a2 ≤ ms, pc + 2, L, .ref M.1.length :: r, (M.1 ++ [.inr (a1, a2)], 0, s_z M.2.2 M.1.length), ce + 1, sl + a2)
    | _ => none
  | .anewarray _ => match st with
    | .int n :: r => some (M.2.1 = 0 ∧ n.toInt = (a2 : Int) ∧ ce + 1 ≤ mc ∧ sl + a2 ≤ ms, pc + 3, L, .ref M.1.length :: r, (M.1 ++ [.inr (a1 + 3, a2)], 0, s_z M.2.2 M.1.length), ce + 1, sl + a2)
    | _ => none
  | .new _ => match a2 with
    | 0 => some (M.2.1 = 0 ∧ ce + 1 ≤ mc ∧ sl + (k_ft a1).length ≤ ms, pc + 3, L, .ref M.1.length :: st, (M.1 ++ [.inl a1], 0, s_z M.2.2 M.1.length), ce + 1, sl + (k_ft a1).length)
    | _ => none
  | _ => none
def i_rm (st : List Value) : Bool := Nat.ble ((st.map fun v => v.category).sum) 8
def i_rn (st as : List Value) (mx : Nat) : Bool := i_rm st && Nat.ble ((as.map fun v => v.category).sum) mx
def i_rc (ci : Nat) (M : s_M) : List Value → Prop
  | .ref a :: _ => M.1[a]? = some (.inl ci)
  | _ => False
def i_rf : List Value → Prop
  | .ref _ :: _ => True
  | _ => False
def w_ex : Nat → i_T → i_C → (i_O → s_M → Prop) → Prop
  | 0, _, _, _ => False
  | n + 1, t, (pc, L, st, M, ce, sl), Q => match i_at t.2.1 pc with
    | none => False
    | some (ins, _, a1, a2, _) => match ins with
      | .ireturn => match st with
        | [.int v] => (match t.2.2.2.1 with
          | some .int => True
          | some .boolean => v = 0 ∨ v = 1
          | _ => False) ∧ (ce ≤ t.2.2.2.2.1 ∧ sl ≤ t.2.2.2.2.2) ∧ Q (.inl (some (.int v))) M
        | _ => False
      | .lreturn => match st with
        | [.long v] => (ce ≤ t.2.2.2.2.1 ∧ sl ≤ t.2.2.2.2.2) ∧ Q (.inl (some (.long v))) M
        | _ => False
      | .areturn => match st with
        | [.ref v] => (ce ≤ t.2.2.2.2.1 ∧ sl ≤ t.2.2.2.2.2) ∧ Q (.inl (some (.ref v))) M
        | _ => False
      | .return_ => match st with
        | [] => (ce ≤ t.2.2.2.2.1 ∧ sl ≤ t.2.2.2.2.2) ∧ Q (.inl none) M
        | _ => False
      | .invokespecial _ => match a2 with
        | 0 => match st with
          | .ref _ :: r => i_rm r = true ∧ w_ex n t (pc + 3, L, r, M, ce, sl) Q
          | _ => False
        | na + 1 => i_rn (st.drop (na + 1)) (st.take (na + 1)).reverse (k_t a1).2.2.1 = true ∧ na + 1 ≤ st.length ∧ i_rf (st.take (na + 1)).reverse ∧ (ce + (k_t a1).2.2.2.2.1 ≤ t.2.2.2.2.1 ∧ sl + (k_t a1).2.2.2.2.2 ≤ t.2.2.2.2.2) ∧ w_ex n (k_t a1) (0, lv_args 0 (st.take (na + 1)).reverse, [], M, 0, 0) (fun o M' => match o with
          | .inl v => w_ex n t (pc + 3, L, v.toList ++ st.drop (na + 1), M', ce + (k_t a1).2.2.2.2.1, sl + (k_t a1).2.2.2.2.2) Q
          | .inr _ => False)
      | .invokestatic _ => match a2 with
        | 0 => match st with
          | .int y :: .int x :: r => i_rm r = true ∧ (ce ≤ t.2.2.2.2.1 ∧ sl ≤ t.2.2.2.2.2) ∧ w_ex n t (pc + 3, L, .int (if x < y then y else x) :: r, M, ce, sl) Q
          | _ => False
        | na + 1 => i_rn (st.drop na) (st.take na).reverse (k_t a1).2.2.1 = true ∧ na ≤ st.length ∧ (ce + (k_t a1).2.2.2.2.1 ≤ t.2.2.2.2.1 ∧ sl + (k_t a1).2.2.2.2.2 ≤ t.2.2.2.2.2) ∧ w_ex n (k_t a1) (0, lv_args 0 (st.take na).reverse, [], M, 0, 0) (fun o M' => match o with
          | .inl v => w_ex n t (pc + 3, L, v.toList ++ st.drop na, M', ce + (k_t a1).2.2.2.2.1, sl + (k_t a1).2.2.2.2.2) Q
          | .inr _ => False)
      | .invokevirtual _ => i_rn (st.drop (a2 + 1)) (st.take (a2 + 1)).reverse (k_t a1).2.2.1 = true ∧ a2 + 1 ≤ st.length ∧ i_rc (k_rc a1) M (st.take (a2 + 1)).reverse ∧ (ce + (k_t a1).2.2.2.2.1 ≤ t.2.2.2.2.1 ∧ sl + (k_t a1).2.2.2.2.2 ≤ t.2.2.2.2.2) ∧ w_ex n (k_t a1) (0, lv_args 0 (st.take (a2 + 1)).reverse, [], M, 0, 0) (fun o M' => match o with
          | .inl v => w_ex n t (pc + 3, L, v.toList ++ st.drop (a2 + 1), M', ce + (k_t a1).2.2.2.2.1, sl + (k_t a1).2.2.2.2.2) Q
          | .inr x => match k_hd t.1 x with
            | none => k_ex t.1 = [] ∧ Q (.inr x) M'
            | some (pc', k) => w_ex n t (pc', L.filter (fun q => !(q.1 == k) && !(q.1 + 1 == k && q.2.category == 2)), [], M', ce + (k_t a1).2.2.2.2.1, sl + (k_t a1).2.2.2.2.2) Q)
      | .new _ => match a2 with
        | 0 => match i_st xs Ln t.2.2.2.2.1 t.2.2.2.2.2 ins a1 0 pc L st M ce sl with
          | none => False
          | some (P, c') => P ∧ w_ex n t c' Q
        | _ => i_rm st = true ∧ (ce + 1 ≤ t.2.2.2.2.1 ∧ sl + 6 ≤ t.2.2.2.2.2) ∧ Q (.inr a1) (M.1, M.2.1 + 1, M.2.2)
      | ins => match i_st xs Ln t.2.2.2.2.1 t.2.2.2.2.2 ins a1 a2 pc L st M ce sl with
        | none => False
        | some (P, c') => P ∧ w_ex n t c' Q
def w_P (t : i_T) (c : i_C) (Q : i_O → s_M → Prop) : Prop := ∃ n, w_ex xs Ln n t c Q
/-! the run's end is one, and more time does no harm -/
theorem w_mono : ∀ (n : Nat) (t : i_T) (x : i_C) (Q Q' : i_O → s_M → Prop), (∀ o M, Q o M → Q' o M) → w_ex xs Ln n t x Q → w_ex xs Ln n t x Q' := by
  intro n
  induction n with
  | zero => intro t x Q Q' _ h; exact absurd h (by unfold w_ex; exact id)
  | succ n ih =>
    intro t x Q Q' hQ h
    obtain ⟨pc, L, st, M, ce, sl⟩ := x
    unfold w_ex at h ⊢
    split at h
    · exact h.elim
    · rename_i ins len a1 a2 pl hat
      split at h
      · split at h
        · exact ⟨h.1, h.2.1, hQ _ _ h.2.2⟩
        · exact h.elim
      · split at h
        · exact ⟨h.1, hQ _ _ h.2⟩
        · exact h.elim
      · split at h
        · exact ⟨h.1, hQ _ _ h.2⟩
        · exact h.elim
      · split at h
        · exact ⟨h.1, hQ _ _ h.2⟩
        · exact h.elim
      · split at h
        · split at h
          · exact ⟨h.1, ih _ _ _ _ hQ h.2⟩
          · exact h.elim
        · refine ⟨h.1, h.2.1, h.2.2.1, h.2.2.2.1, ih _ _ _ _ (fun o M' ho => ?_) h.2.2.2.2⟩
          cases o with
          | inl v => exact ih _ _ _ _ hQ ho
          | inr x => exact ho
      · split at h
        · split at h
          · exact ⟨h.1, h.2.1, ih _ _ _ _ hQ h.2.2⟩
          · exact h.elim
        · refine ⟨h.1, h.2.1, h.2.2.1, ih _ _ _ _ (fun o M' ho => ?_) h.2.2.2⟩
          cases o with
          | inl v => exact ih _ _ _ _ hQ ho
          | inr x => exact ho
      · refine ⟨h.1, h.2.1, h.2.2.1, h.2.2.2.1, ih _ _ _ _ (fun o M' ho => ?_) h.2.2.2.2⟩
        cases o with
        | inl v => exact ih _ _ _ _ hQ ho
        | inr x =>
          revert ho
          show (match k_hd t.1 x with
            | none => _
            | some (pc', k) => _) → (match k_hd t.1 x with
            | none => _
            | some (pc', k) => _)
          split
          · exact fun ho => ⟨ho.1, hQ _ _ ho.2⟩
          · exact fun ho => ih _ _ _ _ hQ ho
      · split at h
        · split at h
          · exact h.elim
          · exact ⟨h.1, ih _ _ _ _ hQ h.2⟩
        · exact ⟨h.1, h.2.1, hQ _ _ h.2.2⟩
      · split at h
        · exact h.elim
        · exact ⟨h.1, ih _ _ _ _ hQ h.2⟩
end Interp
end
section
/-! What the tables say, checked by the kernel. -/
def k_hw : List Jvm.Cond := [.isRef (.static "java/lang/Throwable" "UNASSIGNED_STACK" "[Ljava/lang/StackTraceElement;"), .isRef (.static "java/lang/Throwable" "SUPPRESSED_SENTINEL" "Ljava/util/List;"), .laysStatic "java/lang/Throwable" "UNASSIGNED_STACK" "[Ljava/lang/StackTraceElement;", .laysStatic "java/lang/Throwable" "SUPPRESSED_SENTINEL" "Ljava/util/List;"]
def k_hwb (w : Jvm.Cond) : Bool := match w with
  | .isRef _ => true
  | .laysStatic _ _ _ => true
  | _ => false
def k_xn : List String := ["java/lang/RuntimeException", "java/lang/Exception"]
def k_xa (x : Nat) : List Jvm.Cond := Jvm.Bundle.ownAtoms0 "TwinRooms" (k_ic x) (k_en x) k_xn
def k_nw : List Jvm.Cond := [.not (.castable (k_en 1) (k_en 0))]
def k_xw : List Jvm.Cond := (k_xa 0).filter (fun w => !k_hwb w) ++ ((k_xa 1).filter (fun w => !k_hwb w) ++ ([.initialized (k_en 0), .initialized (k_en 1), .castable (k_en 0) (k_en 0), .castable (k_en 1) (k_en 1)] ++ k_nw))
def k_all : List Jvm.Cond := k_lks.flatten ++ (k_cw ++ (k_lay ++ (k_mi ++ (k_ms ++ (k_me ++ (k_mw ++ (k_jw ++ k_xw)))))))
def k_ws (m : Nat) : List Jvm.Cond := k_cwd m :: k_all
/-- words that hold on, however the tables are warmed -/
def k_gw : Jvm.Cond → Bool
  | .arrayOver (.object _) => true
  | .methodLinkNest _ _ _ _ => true
  | .castable _ _ => true
  | .declares _ => true
  | .not (.castable _ _) => true
  | w => goodWord w
theorem k_move {w : Jvm.Cond} {args a' : Array Value} {s U : State} (hg : k_gw w = true) (hW : s.WarmedH U.vm) (h : w.before args s = true) : w.before a' U = true := by
  unfold k_gw at hg
  split at hg
  · exact va_AO.use (va_AO.moved hW.alike (va_AO.of h))
  · exact va_Nw.use rfl (va_Nw.warmM hW (va_Nw.of rfl h))
  · exact va_Nw.use rfl (va_Nw.warmC hW (va_Nw.of rfl h))
  · exact va_Nw.use rfl (va_Nw.warmD hW (va_Nw.of rfl h))
  · obtain ⟨c, t, h1, h2, h3⟩ := va_Nc.moved hW.alike (va_Nc.of h)
    refine Cond.holds_not_iff.mpr ?_
    simp only [Cond.value, h1, h2, h3]
  · exact word_at hW (good_of_word hg) h
theorem k_good1 : k_all.all k_gw = true := by decide +kernel
theorem k_good : ∀ w ∈ k_all, k_gw w = true := fun w hw => List.all_eq_true.mp k_good1 w hw
theorem k_in_lk {c : Nat} {w : Jvm.Cond} (h : w ∈ k_lk c) : w ∈ k_all := by
  refine List.mem_append_left _ (List.mem_flatten.mpr ⟨k_lk c, ?_, h⟩)
  unfold k_lk at h ⊢
  rw [List.getD_eq_getElem?_getD] at h ⊢
  cases hc : k_lks[c]? with
  | none => rw [hc] at h; cases h
  | some l => exact List.mem_of_getElem? hc
theorem k_in_cw {w : Jvm.Cond} (h : w ∈ k_cw) : w ∈ k_all := List.mem_append_right _ (List.mem_append_left _ h)
theorem k_in_lay {w : Jvm.Cond} (h : w ∈ k_lay) : w ∈ k_all := List.mem_append_right _ (List.mem_append_right _ (List.mem_append_left _ h))
theorem k_in_mi {w : Jvm.Cond} (h : w ∈ k_mi) : w ∈ k_all := List.mem_append_right _ (List.mem_append_right _ (List.mem_append_right _ (List.mem_append_left _ h)))
theorem k_in_ms {w : Jvm.Cond} (h : w ∈ k_ms) : w ∈ k_all := List.mem_append_right _ (List.mem_append_right _ (List.mem_append_right _ (List.mem_append_right _ (List.mem_append_left _ h))))
theorem k_in_me {w : Jvm.Cond} (h : w ∈ k_me) : w ∈ k_all := List.mem_append_right _ (List.mem_append_right _ (List.mem_append_right _ (List.mem_append_right _ (List.mem_append_right _ (List.mem_append_left _ h)))))
theorem k_in_mw {w : Jvm.Cond} (h : w ∈ k_mw) : w ∈ k_all := List.mem_append_right _ (List.mem_append_right _ (List.mem_append_right _ (List.mem_append_right _ (List.mem_append_right _ (List.mem_append_right _ (List.mem_append_left _ h))))))
theorem k_in_jw {w : Jvm.Cond} (h : w ∈ k_jw) : w ∈ k_all := List.mem_append_right _ (List.mem_append_right _ (List.mem_append_right _ (List.mem_append_right _ (List.mem_append_right _ (List.mem_append_right _ (List.mem_append_right _ (List.mem_append_left _ h)))))))
theorem k_lays {ci : Nat} (h : ci < k_no) : ∀ w ∈ u_ws (k_cn ci) (k_tf ci) (k_ft ci).length, w ∈ k_all := fun w hw => k_in_lay (List.mem_flatMap.mpr ⟨ci, List.mem_range.mpr h, hw⟩)
theorem k_types1 : ∀ ci, ci < k_no → ∀ k, k < (k_ft ci).length → parseFieldDescriptor (k_tf ci k).2.2.1 = some ((k_ft ci).getD k .int) := by decide +kernel
theorem k_types {ci : Nat} (h : ci < k_no) : ∀ k, k < (k_ft ci).length → parseFieldDescriptor (k_tf ci k).2.2.1 = some ((k_ft ci).getD k .int) := k_types1 ci h
theorem k_names1 : ∀ ci, ci < k_no → ∀ a, a < (k_ft ci).length → ∀ b, b < (k_ft ci).length → a ≠ b → (k_tf ci a).2.1 ≠ (k_tf ci b).2.1 := by decide +kernel
theorem k_names {ci : Nat} (h : ci < k_no) : ∀ a, a < (k_ft ci).length → ∀ b, b < (k_ft ci).length → a ≠ b → (k_tf ci a).2.1 ≠ (k_tf ci b).2.1 := k_names1 ci h
def s_tyok : FieldType → Bool
  | .int => true
  | .long => true
  | .boolean => true
  | .object _ => true
  | .array _ => true
  | _ => false
theorem k_tyok : ∀ ci, ci < k_no → ∀ k, k < (k_ft ci).length → s_tyok ((k_ft ci).getD k .int) = true := by decide +kernel
theorem k_dflt {B ci k : Nat} (h : ci < k_no) (hk : k < (k_ft ci).length) : defaultValue ((k_ft ci).getD k .int) = s_v B ((fun _ => 0, fun _ => 0, fun _ => 0, fun _ => false) : s_R) k ((k_ft ci).getD k .int) := by
  have h1 := k_tyok ci h k hk
  generalize (k_ft ci).getD k .int = ty at h1
  cases ty <;> first | rfl | (cases h1)
theorem k_num1 : ∀ m, m < k_nm → (k_t m).1 = m := by decide +kernel
theorem k_num {m : Nat} (h : m < k_nm) : (k_t m).1 = m := k_num1 m h
theorem k_rmC {m : Nat} (h : m < k_nm) : (k_rm m).cells = (k_t m).2.2.2.2.1 := by
  unfold k_rm
  split
  · rename_i h1; subst h1; decide +kernel
  · rfl
theorem k_rmS {m : Nat} (h : m < k_nm) : (k_rm m).slots = (k_t m).2.2.2.2.2 := by
  unfold k_rm
  split
  · rename_i h1; subst h1; decide +kernel
  · rfl
theorem k_plain1 : ∀ m, m < k_nj → plainName (k_y m).cls = true ∧ (k_y m).cls = k_own m ∧ (k_y m).cls ≠ "java/lang/invoke/MethodHandle" ∧ (k_y m).cls ≠ "java/lang/invoke/VarHandle" := by decide +kernel
theorem k_plain {m : Nat} (h : m < k_nj) : plainName (k_y m).cls = true := (k_plain1 m h).1
theorem k_ycls {m : Nat} (h : m < k_nj) : (k_y m).cls = k_own m := (k_plain1 m h).2.1
theorem k_jmh {m : Nat} (h : m < k_nj) : (k_y m).cls ≠ "java/lang/invoke/MethodHandle" ∧ (k_y m).cls ≠ "java/lang/invoke/VarHandle" := (k_plain1 m h).2.2
theorem k_wsSub (m : Nat) (hm : m < k_nj) : ∀ w ∈ k_ws m, w ∈ k_all := by
  intro w hw
  rcases List.mem_cons.mp hw with h | h
  · rw [h]; exact k_in_mw (List.mem_map.mpr ⟨m, List.mem_range.mpr hm, rfl⟩)
  · exact h
theorem k_allSub (m : Nat) : ∀ w ∈ k_all, w ∈ k_ws m := fun w h => List.mem_cons_of_mem _ h
theorem k_cd {m : Nat} {args : Array Value} {s : State} (hw : ∀ w ∈ k_ws m, w.before args s = true) : x_cd (k_y m) (k_by m) (k_t m).2.2.1 (k_t m).2.2.2.1 (k_ex m) s := by
  have h := hw (k_cwd m) List.mem_cons_self
  unfold k_cwd at h
  split at h
  · rename_i h1; rw [h1]; exact x_cd_code h
  · exact x_cd_with h
theorem k_jini1 : ∀ j, j < k_nj → Jvm.Cond.initialized (k_y j).cls ∈ k_cw := by decide +kernel
theorem k_jini {j : Nat} (h : j < k_nj) : Jvm.Cond.initialized (k_y j).cls ∈ k_all := k_in_cw (k_jini1 j h)
theorem k_jstat {j : Nat} (h : j < k_nj) (hk : k_kd j = 1) : Jvm.Cond.static (k_y j) ∈ k_all := k_in_ms (List.mem_map.mpr ⟨j, List.mem_filter.mpr ⟨List.mem_range.mpr h, by rw [hk]; rfl⟩, rfl⟩)
theorem k_jinst {j : Nat} (h : j < k_nj) (hk : k_kd j ≠ 1) : Jvm.Cond.instanceMethod (k_y j) ∈ k_all := k_in_mi (List.mem_map.mpr ⟨j, List.mem_filter.mpr ⟨List.mem_range.mpr h, by simpa using hk⟩, rfl⟩)
theorem k_jsel {j : Nat} (h : j < k_nj) (hk : k_kd j = 0) : Jvm.Cond.selects (k_y j).cls (k_y j) (k_y j) ∈ k_all := k_in_me (List.mem_map.mpr ⟨j, List.mem_filter.mpr ⟨List.mem_range.mpr h, by rw [hk]; rfl⟩, rfl⟩)
theorem k_jvirt1 : ∀ j, j < k_nj → k_kd j = 0 → k_rc j < k_no ∧ k_cn (k_rc j) = (k_y j).cls := by decide +kernel
theorem k_jvirt {j : Nat} (h : j < k_nj) (hk : k_kd j = 0) : Jvm.Cond.instanceMethod (k_y j) ∈ k_all ∧ Jvm.Cond.selects (k_y j).cls (k_y j) (k_y j) ∈ k_all ∧ k_rc j < k_no ∧ k_cn (k_rc j) = (k_y j).cls := ⟨k_jinst h (by rw [hk]; decide), k_jsel h hk, (k_jvirt1 j h hk).1, (k_jvirt1 j h hk).2⟩
theorem k_jspec1 : ∀ j, j < k_nj → k_kd j = 2 → (k_y j).name = "<init>" ∧ k_ex j = [] ∧ (k_t j).2.2.2.1 = none := by decide +kernel
theorem k_jspec {j : Nat} (h : j < k_nj) (hk : k_kd j = 2) : (k_y j).name = "<init>" ∧ Jvm.Cond.instanceMethod (k_y j) ∈ k_all ∧ Jvm.Cond.code (k_y j) (k_by j) (k_t j).2.2.1 none ∈ k_all := by
  obtain ⟨h1, h2, h3⟩ := k_jspec1 j h hk
  refine ⟨h1, k_jinst h (by rw [hk]; decide), k_in_mw (List.mem_map.mpr ⟨j, List.mem_range.mpr h, ?_⟩)⟩
  unfold k_cwd
  rw [h2, h3]
theorem k_jpn1 : ∀ j, j < k_nj → (parseMethodDescriptor (k_y j).desc).map (fun d => d.parameters.length) = some (k_pn j) := by decide +kernel
theorem k_jpn {j : Nat} (h : j < k_nj) {sig : MethodDescriptor} (hs : parseMethodDescriptor (k_y j).desc = some sig) : k_pn j = sig.parameters.length := by
  have h1 := k_jpn1 j h
  rw [hs] at h1
  exact (Option.some.inj h1).symm
def k_rt (m : Nat) : Bool := (k_t m).2.1.all (fun x => match x.2.1 with
  | .lreturn => decide ((k_t m).2.2.2.1 = some .long)
  | .areturn => match (k_t m).2.2.2.1 with
    | some (.object _) => true
    | _ => false
  | .return_ => decide ((k_t m).2.2.2.1 = none)
  | _ => true)
theorem k_rt1 : ∀ m, m < k_nm → k_rt m = true := by decide +kernel
theorem k_retl {m pc len a1 a2 pl : Nat} (h : m < k_nm) (hx : (pc, Instr.lreturn, len, a1, a2, pl) ∈ (k_t m).2.1) : (k_t m).2.2.2.1 = some .long := by
  have h1 := List.all_eq_true.mp (k_rt1 m h) _ hx
  simpa using h1
theorem k_retv {m pc len a1 a2 pl : Nat} (h : m < k_nm) (hx : (pc, Instr.return_, len, a1, a2, pl) ∈ (k_t m).2.1) : (k_t m).2.2.2.1 = none := by
  have h1 := List.all_eq_true.mp (k_rt1 m h) _ hx
  simpa using h1
theorem k_reta {m pc len a1 a2 pl : Nat} (h : m < k_nm) (hx : (pc, Instr.areturn, len, a1, a2, pl) ∈ (k_t m).2.1) : ∃ n, (k_t m).2.2.2.1 = some (.object n) := by
  have h1 := List.all_eq_true.mp (k_rt1 m h) _ hx
  simp only at h1
  split at h1
  · rename_i n hn; exact ⟨n, hn⟩
  · cases h1
theorem k_oi1 : Jvm.Cond.instanceMethod Lib.objectInit ∈ k_all := k_in_jw (List.mem_cons_self)
theorem k_oi2 : Jvm.Cond.code Lib.objectInit ⟨#[0xb1]⟩ 1 none ∈ k_all := k_in_jw (List.mem_cons_of_mem _ List.mem_cons_self)
theorem k_mm1 : Jvm.Cond.static Lib.Math.max.name ∈ k_all := k_in_jw (List.mem_cons_of_mem _ (List.mem_cons_of_mem _ List.mem_cons_self))
theorem k_mm2 : Jvm.Cond.initialized "java/lang/Math" ∈ k_all := k_in_jw (List.mem_cons_of_mem _ (List.mem_cons_of_mem _ (List.mem_cons_of_mem _ List.mem_cons_self)))
theorem k_mm3 : Jvm.Cond.code Lib.Math.max.name Lib.Math.max.code 2 (some .int) ∈ k_all := k_in_jw (List.mem_cons_of_mem _ (List.mem_cons_of_mem _ (List.mem_cons_of_mem _ (List.mem_cons_of_mem _ List.mem_cons_self))))
end
section
/-! What the heap holds of a typed state, and that each store keeps it. -/
def k_A (B : Nat) : Nat → Prop := fun q => B < q
def k_cv (B b : Nat) : Value → Value
  | .ref a => .ref (B + a)
  | .retAddr _ => .ref b
  | v => v
def k_cp (B b : Nat) (q : Nat × Value) : Nat × Value := (q.1, k_cv B b q.2)
theorem k_cv_cat (B b : Nat) (v : Value) : (k_cv B b v).category = v.category := by cases v <;> rfl
def k_ty (dA : Nat → ClassId) : List (ClassId × FieldType) := (List.range k_na).map (fun t => (dA t, k_aty t))
theorem k_ty_at {dA : Nat → ClassId} {t : Nat} (h : t < k_na) : (k_ty dA)[t]? = some (dA t, k_aty t) := by simp [k_ty, h]
/-- words that speak of the heap below the base -/
def k_Z (B : Nat) (U : State) (H : Heap) : Prop := ∀ (V : State) (a' : Array Value), U.vm.Alike V.vm → (∀ q : Nat, q ≤ B → V.heap[q]? = H[q]?) → ∀ w ∈ k_hw, w.before a' V = true
def k_I (B b Ln : Nat) (xs : Nat → Int32) (dA : Nat → ClassId) (D : va_G) (M : s_M) (U : State) (H : Heap) : Prop :=
  H.size = B + M.1.length + M.2.1 ∧ M.1[0]? = some (.inr (99, 0)) ∧ va_P D k_cl (s_w B dA M.1 M.2.2) H ∧ va_K D k_cl (k_ty dA) U ∧ (∀ (q : Nat) (cell : Cell), B < q → H[q]? = some cell → cell.vm = .none) ∧ k_Z B U H ∧ va_X b Ln xs U H ∧ b ≤ B
section Hold
variable {B b Ln : Nat} {xs : Nat → Int32} {dA : Nat → ClassId} {D : va_G}
theorem k_I.moved {M : s_M} {u U : State} {H : Heap} (hvm : u.vm.Alike U.vm) (h : k_I B b Ln xs dA D M u H) : k_I B b Ln xs dA D M U H := by
  obtain ⟨h1, h2, h3, h4, h5, h6, h7, h8⟩ := h
  exact ⟨h1, h2, h3, h4.moved hvm, h5, fun V a' hV => h6 V a' (hvm.trans hV), h7.moved hvm, h8⟩
theorem k_at_vm {cl : List vw_C} {q : Nat × va_E} {H : Heap} (h : va_at D cl q H) : ∃ cell, H[q.1]? = some cell ∧ cell.vm = .none := by
  obtain ⟨a, e⟩ := q
  cases e with
  | inl x =>
    refine ⟨_, h, ?_⟩
    obtain ⟨c, n, f⟩ := x
    rcases f with f | f | f | f | f <;> rfl
  | inr o =>
    obtain ⟨r, -, cell, h1, -, h3, -⟩ := h
    exact ⟨cell, h1, h3⟩
theorem k_I_set {M : s_M} {σ' : s_S} {U : State} {H H1 : Heap} {j : Nat} {e : s_K} (hI : k_I B b Ln xs dA D M U H) (he : M.1[j + 1]? = some e) (ho : ∀ i, i ≠ j + 1 → s_row σ' i = s_row M.2.2 i) (hz : H1.size = H.size)
    (oq : ∀ q : Nat, q ≠ B + (j + 1) → H1[q]? = H[q]?) (hat : va_at D k_cl (B + (j + 1), s_e B dA (s_row σ' (j + 1)) e) H1) : k_I B b Ln xs dA D (M.1, M.2.1, σ') U H1 := by
  obtain ⟨h1, h2, h3, h4, h5, h6, h7, h8⟩ := hI
  refine ⟨by rw [hz]; exact h1, h2, ?_, h4, fun q cell hq hc => ?_, fun V a' hV hq => h6 V a' hV (fun q hB => (hq q hB).trans (oq q (by omega))), h7.kept (oq b (by omega)), h8⟩
  · show va_P D k_cl (s_w B dA M.1 σ') H1
    rw [s_w_set he ho]
    exact h3.set (s_w_D B dA M.1 M.2.2) (s_w_at he) hat oq
  · by_cases h : q = B + (j + 1)
    · obtain ⟨c', hc', hv⟩ := k_at_vm hat
      rw [h] at hc
      cases Option.some.inj (hc'.symm.trans hc)
      exact hv
    · rw [oq q h] at hc
      exact h5 q cell hq hc
theorem k_I_push {M : s_M} {σ' : s_S} {U : State} {H H1 : Heap} {e : s_K} (hI : k_I B b Ln xs dA D M U H) (h0 : M.2.1 = 0) (ho : ∀ i, i ≠ M.1.length → s_row σ' i = s_row M.2.2 i) (hz : H1.size = H.size + 1)
    (oq : ∀ q : Nat, q < H.size → H1[q]? = H[q]?) (hat : va_at D k_cl (H.size, s_e B dA (s_row σ' M.1.length) e) H1) : k_I B b Ln xs dA D (M.1 ++ [e], 0, σ') U H1 := by
  obtain ⟨h1, h2, h3, h4, h5, h6, h7, h8⟩ := hI
  have hlen : 0 < M.1.length := (List.getElem?_eq_some_iff.mp h2).1
  have hsz : H.size = B + M.1.length := by omega
  refine ⟨?_, ?_, ?_, h4, fun q cell hq hc => ?_, fun V a' hV hq => h6 V a' hV (fun q hB => (hq q hB).trans (oq q (by omega))), h7.kept (oq b (by omega)), h8⟩
  · show H1.size = B + (M.1 ++ [e]).length + 0
    rw [List.length_append, hz, hsz]
    simp; omega
  · show (M.1 ++ [e])[0]? = _
    rw [List.getElem?_append_left hlen]
    exact h2
  · show va_P D k_cl (s_w B dA (M.1 ++ [e]) σ') H1
    rw [s_w_push (List.length_pos_iff.mp hlen) ho]
    refine (h3.kept (fun k q hk => oq q.1 ((h3 k q hk).lt))).app (fun k x hx => ?_)
    have hk : k < 1 := (List.getElem?_eq_some_iff.mp hx).1
    rw [show k = 0 by omega] at hx
    cases hx
    rw [← hsz]
    exact hat
  · by_cases h : q = H.size
    · obtain ⟨c', hc', hv⟩ := k_at_vm hat
      rw [h] at hc
      cases Option.some.inj (hc'.symm.trans hc)
      exact hv
    · have hlt : q < H1.size := (Array.getElem?_eq_some_iff.mp hc).1
      rw [oq q (by omega)] at hc
      exact h5 q cell hq hc
theorem k_I_more {M : s_M} {U : State} {H H1 : Heap} (hI : k_I B b Ln xs dA D M U H) (hz : H1.size = H.size + 1)
    (oq : ∀ q : Nat, q < H.size → H1[q]? = H[q]?) (hn : ∀ cell, H1[H.size]? = some cell → cell.vm = .none) : k_I B b Ln xs dA D (M.1, M.2.1 + 1, M.2.2) U H1 := by
  obtain ⟨h1, h2, h3, h4, h5, h6, h7, h8⟩ := hI
  have hlen : 0 < M.1.length := (List.getElem?_eq_some_iff.mp h2).1
  refine ⟨by show H1.size = B + M.1.length + (M.2.1 + 1); omega, h2, h3.kept (fun k q hk => oq q.1 ((h3 k q hk).lt)), h4, fun q cell hq hc => ?_, fun V a' hV hq => h6 V a' hV (fun q hB => (hq q hB).trans (oq q (by omega))), h7.kept (oq b (by omega)), h8⟩
  by_cases h : q = H.size
  · rw [h] at hc
    exact hn cell hc
  · have hlt : q < H1.size := (Array.getElem?_eq_some_iff.mp hc).1
    rw [oq q (by omega)] at hc
    exact h5 q cell hq hc
/-- an object's or array's number isn't 0 -/
theorem k_pos {M : s_M} {U : State} {H : Heap} (hI : k_I B b Ln xs dA D M U H) {a : Nat} {e : s_K} (h : M.1[a]? = some e) (hne : e ≠ .inr (99, 0)) : ∃ j, a = j + 1 := by
  cases a with
  | zero => exact absurd (Option.some.inj (h.symm.trans hI.2.1)) hne
  | succ j => exact ⟨j, rfl⟩
end Hold
/-! locals -/
theorem i_mem {β : Type} {c : List (Nat × β)} {k : Nat} {v : β} (h : c.lookup k = some v) : (k, v) ∈ c := by
  induction c with
  | nil => simp at h
  | cons q r ih =>
    obtain ⟨a, w⟩ := q
    simp only [List.lookup] at h
    split at h
    · rename_i he
      have h1 : k = a := by simpa using he
      cases h
      rw [h1]
      exact List.mem_cons_self
    · exact List.mem_cons_of_mem _ (ih h)
section Loc
variable {B b nL : Nat} {ls : Array Slot} {L : i_L}
theorem i_ld_at {i : Nat} {v : Value} (hl : lv_has ls nL (L.map (k_cp B b))) (h : i_ld L i = some v) : ls[i]? = some (.val (k_cv B b v)) :=
  hl.2.2 (i, k_cv B b v) (List.mem_map.mpr ⟨(i, v), i_mem h, rfl⟩)
theorem i_s1_map (i : Nat) (v : Value) : (i, k_cv B b v) :: (L.map (k_cp B b)).filter (fun q => !(q.1 == i) && !(q.1 + 1 == i && q.2.category == 2)) = (i_s1 L i v).map (k_cp B b) := by
  show _ = (i, k_cv B b v) :: (L.filter _).map (k_cp B b)
  rw [List.filter_map]
  congr 3
  funext q
  simp [k_cp, k_cv_cat]
theorem i_s2_map (i : Nat) (v : Value) : (i, k_cv B b v) :: (L.map (k_cp B b)).filter (fun q => !(q.1 == i) && (!(q.1 == i + 1) && !(q.1 + 1 == i && q.2.category == 2))) = (i_s2 L i v).map (k_cp B b) := by
  show _ = (i, k_cv B b v) :: (L.filter _).map (k_cp B b)
  rw [List.filter_map]
  congr 3
  funext q
  simp [k_cp, k_cv_cat]
theorem i_drop_map (i : Nat) {v : Value} (h : lv_has ls nL ((i, v) :: (L.map (k_cp B b)).filter (fun q => !(q.1 == i) && !(q.1 + 1 == i && q.2.category == 2)))) : lv_has ls nL ((L.filter (fun q => !(q.1 == i) && !(q.1 + 1 == i && q.2.category == 2))).map (k_cp B b)) := by
  refine ⟨h.1, h.2.1, fun q hq => h.2.2 q (List.mem_cons_of_mem _ ?_)⟩
  rw [List.filter_map]
  have e : (fun q : Nat × Value => !(q.1 == i) && !(q.1 + 1 == i && q.2.category == 2)) ∘ k_cp B b = (fun q : Nat × Value => !(q.1 == i) && !(q.1 + 1 == i && q.2.category == 2)) := by
    funext q
    simp [k_cp, k_cv_cat]
  rw [e]
  exact hq
theorem i_cat (B b : Nat) (st : List Value) : ((st.map (k_cv B b)).map fun v => v.category).sum = (st.map fun v => v.category).sum := by
  rw [List.map_map]
  congr 1
  apply List.map_congr_left
  intro v _
  exact k_cv_cat B b v
end Loc
end
section
/-! Each instruction of the small machine is one of the real one. -/
def i_okb (m pc : Nat) (ins : Instr) (len a1 a2 pl : Nat) : Bool := match ins with
  | .iconst _ => decide (len = 1)
  | .bipush _ => decide (len = 2)
  | .sipush _ => decide (len = 3)
  | .lconst _ => decide (len = 1)
  | .ldc i => decide (len = 2) && decide ((k_lk (k_ci m))[pl]? = some (Jvm.Cond.constant (k_own m) i (Int32.ofNat a1)))
  | .ldc2_w i => decide (len = 3) && decide ((k_lk (k_ci m))[pl]? = some (Jvm.Cond.constantLong (k_own m) i (Int64.ofNat a1)))
  | .iload_n _ => decide (len = 1)
  | .iload _ => decide (len = 2)
  | .lload _ => decide (len = 2)
  | .aload_n _ => decide (len = 1)
  | .aload _ => decide (len = 2)
  | .istore_n k => decide (len = 1) && decide ((k : Nat) < (k_t m).2.2.1)
  | .istore k => decide (len = 2) && decide (k < (k_t m).2.2.1)
  | .lstore k => decide (len = 2) && decide (k + 1 < (k_t m).2.2.1)
  | .astore_n k => decide (len = 1) && decide ((k : Nat) < (k_t m).2.2.1)
  | .astore k => decide (len = 2) && decide (k < (k_t m).2.2.1)
  | .iinc k _ => decide (len = 3) && decide (k < (k_t m).2.2.1)
  | .iadd => decide (len = 1)
  | .isub => decide (len = 1)
  | .imul => decide (len = 1)
  | .iand => decide (len = 1)
  | .idiv => decide (len = 1)
  | .irem => decide (len = 1)
  | .ladd => decide (len = 1)
  | .lsub => decide (len = 1)
  | .lmul => decide (len = 1)
  | .lcmp => decide (len = 1)
  | .i2l => decide (len = 1)
  | .dup => decide (len = 1)
  | .dup2 => decide (len = 1)
  | .pop => decide (len = 1)
  | .ifCond _ off => decide (len = 3) && decide (0 ≤ (pc : Int) + off)
  | .if_icmp _ off => decide (len = 3) && decide (0 ≤ (pc : Int) + off)
  | .goto off => decide (len = 3) && decide (0 ≤ (pc : Int) + off)
  | .tableswitch d lo hi offs => decide (0 ≤ (pc : Int) + d) && decide (hi - lo < (offs.size : Int)) && offs.toList.all (fun o => decide (0 ≤ (pc : Int) + o))
  | .getfield i => decide (len = 3) && decide (a1 < k_no) && decide (a2 < (k_ft a1).length) && decide ((k_lk (k_ci m))[pl]? = some (Jvm.Cond.fieldLink (k_own m) i (k_cn a1) (k_tf a1 a2).2.1 (k_tf a1 a2).2.2.1))
  | .putfield i => decide (len = 3) && decide (a1 < k_no) && decide (a2 < (k_ft a1).length) && decide ((k_lk (k_ci m))[pl]? = some (Jvm.Cond.fieldLink (k_own m) i (k_cn a1) (k_tf a1 a2).2.1 (k_tf a1 a2).2.2.1)) && (!(k_tf a1 a2).2.2.2 || (decide ((k_y m).name = "<init>") && decide (k_cn a1 = k_own m)))
  | .iaload => decide (len = 1)
  | .laload => decide (len = 1)
  | .baload => decide (len = 1)
  | .aaload => decide (len = 1) && decide (a1 + 3 < k_na)
  | .iastore => decide (len = 1)
  | .lastore => decide (len = 1)
  | .bastore => decide (len = 1)
  | .aastore => decide (len = 1) && decide (a1 + 3 < k_na)
  | .arraylength => decide (len = 1)
  | .newarray ty => decide (len = 2) && decide (a2 ≤ 1000) && decide (a1 < 3) && decide (newarray.typeOf ty = k_aty a1) && decide (Jvm.Cond.arrayClass (k_aty a1) ∈ k_cw)
  | .anewarray i => decide (len = 3) && decide (a2 ≤ 1000) && decide (a1 + 3 < k_na) && decide ((k_lk (k_ci m))[pl]? = some (Jvm.Cond.classLink (k_own m) i (k_cn a1))) && decide (Jvm.Cond.arrayOver (.object (k_cn a1)) ∈ k_cw)
  | .new i => decide (len = 3) && (match a2 with
    | 0 => decide ((k_lk (k_ci m))[pl]? = some (Jvm.Cond.classLink (k_own m) i (k_cn a1))) && (decide (a1 < k_no) && decide (Jvm.Cond.instantiable (k_cn a1) (k_ft a1).length ∈ k_cw) && decide (Jvm.Cond.initialized (k_cn a1) ∈ k_cw))
    | ic + 1 => decide ((k_lk (k_ci m))[pl]? = some (Jvm.Cond.classLink (k_own m) i (k_en a1))) && decide (a1 < 2) && decide (k_ic a1 = ic + 1) && decide (k_own m = "TwinRooms") && decide (decode (k_by m) (pc + 3) = .ok (.dup, 1)) && decide (decode (k_by m) (pc + 4) = .ok (.invokespecial (ic + 1), 3)) && decide (decode (k_by m) (pc + 7) = .ok (.athrow, 1)) && decide (5 < (k_rm m).frames) && decide (89 ≤ (k_rm m).locals) && decide (k_ex m = []))
  | .ireturn => decide (len = 1)
  | .lreturn => decide (len = 1)
  | .areturn => decide (len = 1)
  | .return_ => decide (len = 1)
  | .invokevirtual i => decide (len = 3) && decide (a1 < k_nj) && decide (k_kd a1 = 0) && decide (k_pn a1 = a2) && decide ((k_lk (k_ci m))[pl]? = some (Jvm.Cond.methodLink (k_own m) i (k_y a1))) && decide ((k_rm a1).frames + 1 ≤ (k_rm m).frames) && decide (8 + ((k_t a1).2.2.1 + 11) + (k_rm a1).locals ≤ (k_rm m).locals)
  | .invokestatic i => match a2 with
    | 0 => decide (len = 3) && decide ((k_lk (k_ci m))[pl]? = some (Jvm.Cond.methodLink (k_own m) i Lib.Math.max.name)) && decide (1 ≤ (k_rm m).frames) && decide (21 ≤ (k_rm m).locals)
    | na + 1 => decide (len = 3) && decide (a1 < k_nj) && decide (k_kd a1 = 1) && decide (k_pn a1 = na) && decide ((k_lk (k_ci m))[pl]? = some (Jvm.Cond.methodLink (k_own m) i (k_y a1))) && decide ((k_rm a1).frames + 1 ≤ (k_rm m).frames) && decide (8 + ((k_t a1).2.2.1 + 11) + (k_rm a1).locals ≤ (k_rm m).locals)
  | .invokespecial i => match a2 with
    | 0 => decide (len = 3) && decide ((k_lk (k_ci m))[pl]? = some (Jvm.Cond.methodLink (k_own m) i Lib.objectInit)) && decide (1 ≤ (k_rm m).frames) && decide (21 ≤ (k_rm m).locals)
    | na + 1 => decide (len = 3) && decide (a1 < k_nj) && decide (k_kd a1 = 2) && decide (k_pn a1 = na) && (decide ((k_lk (k_ci m))[pl]? = some (Jvm.Cond.methodLink (k_own m) i (k_y a1))) || decide ((k_lk (k_ci m))[pl]? = some (Jvm.Cond.methodLinkNest (k_own m) i (k_y a1) k_host))) && decide ((k_rm a1).frames + 1 ≤ (k_rm m).frames) && decide (8 + ((k_t a1).2.2.1 + 11) + (k_rm a1).locals ≤ (k_rm m).locals)
  | _ => true
def x_C (m : Nat) (p : Program) (s : State) (mI : MethodId) (args : Array Value) (meth : Method) (c : Code) : Prop :=
  p.tables.exec = Jvm.exec ∧ c.code = k_by m ∧ c.maxLocals = (k_t m).2.2.1 ∧ s.vm.findClass (k_own m) = some mI.cls ∧ (∀ w ∈ k_all, w.before args s = true) ∧ meth.sig.returnType = (k_t m).2.2.2.1 ∧ meth.locks = false ∧ meth.name = (k_y m).name ∧ c.exceptionTable.toList = tableOf (k_ex m)
section Sound
variable {p : Program} {l : Launch} {e : Env} {R : Room} {s : State} {mI : MethodId} {args : Array Value} {below : List Frame} {meth : Method} {c : Code} {Qw : State → Prop}
variable {B b Ln : Nat} {xs : Nat → Int32} {dA : Nat → ClassId} {D : va_G} {m : Nat}
/-- from this point of the small machine the real one comes to Qw -/
def i_N (p : Program) (l : Launch) (e : Env) (R : Room) (s : State) (mI : MethodId) (args : Array Value) (below : List Frame) (meth : Method) (c : Code) (Qw : State → Prop) (B b Ln : Nat) (xs : Nat → Int32) (dA : Nat → ClassId) (D : va_G) (m : Nat) (x : i_C) : Prop :=
  ∀ (ls : Array Slot) (H : Heap) (locs : List Loc), lv_has ls (k_t m).2.2.1 (x.2.1.map (k_cp B b)) → k_I B b Ln xs dA D x.2.2.2.1 s H → va_S (k_A B) s.heap H locs →
    W p l e R s mI args below meth c H locs x.2.2.2.2.1 x.2.2.2.2.2 Qw (F0 mI x.1 ls (x.2.2.1.map (k_cv B b)))
theorem i_tg_eq {pc : Nat} {off : Int} (h : 0 ≤ (pc : Int) + off) : (pc : Int) + off = ((i_tg pc off : Nat) : Int) := by
  unfold i_tg
  omega
theorem i_word {w : Jvm.Cond} {ci pl : Nat} (hts : ∀ w ∈ k_all, w.before args s = true) (h : (k_lk ci)[pl]? = some w) : w.before args s = true := hts w (k_in_lk (List.mem_of_getElem? h))
theorem k_cl_at {ci : Nat} (h : ci < k_no) : k_cl[ci]? = some (k_cn ci, k_tf ci, (k_ft ci).length) := by simp [k_cl, h]
theorem i_fs_at {ρ : s_R} {ci k : Nat} (h : k < (k_ft ci).length) : ((k_ft ci).mapIdx (fun j ty => s_v B ρ j ty))[k]? = some (s_v B ρ k ((k_ft ci).getD k .int)) := by
  rw [List.getElem?_mapIdx, List.getElem?_eq_getElem h, List.getD_eq_getElem?_getD, List.getElem?_eq_getElem h]
  rfl
theorem i_get {pc i a1 a2 a : Nat} {ls : Array Slot} {H : Heap} {locs : List Loc} {cells slots : Nat} {rest : List Value} {M : s_M} (CX : x_C m p s mI args meth c) (h1 : a1 < k_no) (h2 : a2 < (k_ft a1).length) (hw : (Jvm.Cond.fieldLink (k_own m) i (k_cn a1) (k_tf a1 a2).2.1 (k_tf a1 a2).2.2.1).before args s = true)
    (hd : decode (k_by m) pc = .ok (.getfield i, 3)) (hI : k_I B b Ln xs dA D M s H) (hM : M.1[a]? = some (.inl a1))
    (kk : W p l e R s mI args below meth c H locs cells slots Qw (F0 mI (pc + 3) ls (s_v B (s_row M.2.2 a) a2 ((k_ft a1).getD a2 .int) :: rest))) : W p l e R s mI args below meth c H locs cells slots Qw (F0 mI pc ls (.ref (B + a) :: rest)) := by
  obtain ⟨hx, hb, -, hown, hts, -⟩ := CX
  obtain ⟨j, rfl⟩ := k_pos hI hM (by intro h; cases h)
  refine va_get (D := D) (cl := k_cl) (tys := k_ty dA) (ws := s_w B dA M.1 M.2.2) (ci := a1) (C := k_cn a1) (T := k_tf a1) (N := (k_ft a1).length) (own := k_own m) (ref := k_cn a1) (index := i) hx hb hts (k_lays h1) hown hI.2.2.2.1 hI.2.2.1 j (s_w_at hM) (k_cl_at h1) a2 h2 hw (fun x h => h) (i_fs_at h2) hd kk
theorem i_put {pc i a1 a2 a : Nat} {ls : Array Slot} {H : Heap} {locs : List Loc} {cells slots : Nat} {rest : List Value} {M : s_M} {σ' : s_S} {v : Value} (CX : x_C m p s mI args meth c) (h1 : a1 < k_no) (h2 : a2 < (k_ft a1).length) (hw : (Jvm.Cond.fieldLink (k_own m) i (k_cn a1) (k_tf a1 a2).2.1 (k_tf a1 a2).2.2.1).before args s = true)
    (hfin : (k_tf a1 a2).2.2.2 = false ∨ ((k_y m).name = "<init>" ∧ k_cn a1 = k_own m)) (hd : decode (k_by m) pc = .ok (.putfield i, 3)) (hI : k_I B b Ln xs dA D M s H) (hS : va_S (k_A B) s.heap H locs) (hM : M.1[a]? = some (.inl a1))
    (hn : narrow ((k_ft a1).getD a2 .int) v = v) (hfit : fits ((k_ft a1).getD a2 .int) v = true) (ho : ∀ i, i ≠ a → s_row σ' i = s_row M.2.2 i) (hv : s_v B (s_row σ' a) a2 ((k_ft a1).getD a2 .int) = v) (hrest : ∀ j t, j ≠ a2 → s_v B (s_row σ' a) j t = s_v B (s_row M.2.2 a) j t)
    (kk : ∀ (H1 : Heap) (locs1 : List Loc), k_I B b Ln xs dA D (M.1, M.2.1, σ') s H1 → va_S (k_A B) s.heap H1 locs1 → W p l e R s mI args below meth c H1 locs1 cells slots Qw (F0 mI (pc + 3) ls rest)) : W p l e R s mI args below meth c H locs cells slots Qw (F0 mI pc ls (v :: .ref (B + a) :: rest)) := by
  obtain ⟨hx, hb, -, hown, hts, -, -, hnm, -⟩ := CX
  obtain ⟨j, rfl⟩ := k_pos hI hM (by intro h; cases h)
  have hK := hI.2.2.2.1
  have hc := k_cl_at h1
  have hty := k_types h1
  have hap := va_apart (own := k_own m) (D := D) (tys := k_ty dA) hts (k_lays h1) (fun k => (k_ft a1).getD k .int) hty (k_names h1) hK hc
  obtain ⟨r, hr1, cell, q1, q2, q3, q4⟩ := hI.2.2.1 j _ (s_w_at hM)
  have hr : r = (k_cn a1, k_tf a1, (k_ft a1).length) := Option.some.inj (hr1.symm.trans hc)
  subst hr
  obtain ⟨hSl, hfc, kC, hkC, hkind⟩ := hK.1 a1 _ hc
  obtain ⟨cf, kf, fi, f, hi, hsl⟩ := hSl a2 h2
  have hst := (u_facts hfc hkC (u_lays hts (k_lays h1) h2) hi).1
  have key : ∀ H1 : Heap, H1[B + (j + 1)]? = some (cell.setSlot f.slot v) → H1.size = H.size → (∀ q, q ≠ B + (j + 1) → H1[q]? = H[q]?) →
      W p l e R s mI args below meth c H1 (locs ++ [⟨B + (j + 1), f.slot⟩]) cells slots Qw (F0 mI (pc + 3) ls rest) := by
    intro H1 e1 z1 o1
    rw [hsl] at e1
    refine kk H1 _ (k_I_set hI hM ho z1 o1 ?_) (hS.put z1 o1 (show B < B + (j + 1) by omega))
    refine ⟨_, hc, t_OB.to (V := updV (vp_V ((k_ft a1).mapIdx (fun k ty => s_v B (s_row M.2.2 (j + 1)) k ty))) a2 v) ⟨_, e1, q2, q3, t_set q4 hap h2 v⟩ (fun k _ => ?_)⟩
    rw [vp_updV_set (by rw [List.length_mapIdx]; exact h2), s_fs_set (B := B) (ρ := s_row M.2.2 (j + 1)) (ρ' := s_row σ' (j + 1)) (k := a2) (ty := (k_ft a1).getD a2 .int) (v := v) (by rw [List.getD_eq_getElem?_getD, List.getElem?_eq_getElem h2]; rfl) hv hrest]
  by_cases hf : (k_tf a1 a2).2.2.2 = false
  · have hlay := hts _ (k_lays h1 _ (u_in_lay h2))
    unfold u_lay at hlay
    rw [if_neg (by rw [hf]; decide)] at hlay
    exact W.putK hx hb (f := f) ⟨hown, hw, ⟨_, _, _, hi⟩, hst⟩ (by rw [q2]; exact u_store hfc hkC hkind hlay hi (hty a2 h2) hn hfit) q1 q3 (by rw [hsl]; exact k2_hasslot (q4 a2 h2)) rfl rfl hd key
  · obtain ⟨hin, hcn⟩ := hfin.resolve_left hf
    have hft : (k_tf a1 a2).2.2.2 = true := by simpa using hf
    have hlay := hts _ (k_lays h1 _ (u_in_lay h2))
    unfold u_lay at hlay
    rw [if_pos hft] at hlay
    have hcf : mI.cls = cf := by
      obtain ⟨_, _, c', _, _, _, -, -, hf', -, -, -, hown2, -⟩ := Cond.laysFinal_spec hlay
      have e1 : c' = cf := by have := hi.symm.trans hf'; simp at this; exact this.1.symm
      rw [show (k_tf a1 a2).1 = k_own m from hcn] at hown2
      rw [← e1]; exact Option.some.inj (hown.symm.trans hown2)
    exact W.putFinK hx hb hown hw hi hst hcf (hnm.trans hin) (by rw [q2]; exact u_fits hfc hkC hkind (Or.inr hlay) hi (hty a2 h2) hn hfit) q1 q3 (by rw [hsl]; exact k2_hasslot (q4 a2 h2)) rfl rfl hd key
theorem i_arr {M : s_M} {H : Heap} {a t n : Nat} {j : Int32} (hI : k_I B b Ln xs dA D M s H) (hM : M.1[a]? = some (.inr (t, n))) (hin : vp_in j n) : ∃ k, a = k + 1 ∧ (s_w B dA M.1 M.2.2)[k]? = some (B + a, s_e B dA (s_row M.2.2 a) (.inr (t, n))) := by
  have hne : (Sum.inr (t, n) : s_K) ≠ .inr (99, 0) := by
    intro h
    cases h
    exact hin (Or.inr (Nat.zero_le _))
  obtain ⟨k, rfl⟩ := k_pos hI hM hne
  exact ⟨k, rfl, s_w_at hM⟩
theorem i_ast {M : s_M} {H H1 : Heap} {a t n k : Nat} {σ' : s_S} {locs : List Loc} {i : Nat} (hI : k_I B b Ln xs dA D M s H) (hS : va_S (k_A B) s.heap H locs) (ha : a = k + 1) (hM : M.1[a]? = some (.inr (t, n))) (ho : ∀ i, i ≠ a → s_row σ' i = s_row M.2.2 i)
    (z : H1.size = H.size) (oq : ∀ q : Nat, q ≠ B + a → H1[q]? = H[q]?) (hat : va_at D k_cl (B + a, s_e B dA (s_row σ' a) (.inr (t, n))) H1) : k_I B b Ln xs dA D (M.1, M.2.1, σ') s H1 ∧ va_S (k_A B) s.heap H1 (locs ++ [⟨B + a, i⟩]) := by
  subst ha
  exact ⟨k_I_set hI hM ho z oq hat, hS.put z oq (show B < B + (k + 1) by omega)⟩
end Sound
end
section
/-! Arrays and new cells. -/
section Arrs
variable {p : Program} {l : Launch} {e : Env} {R : Room} {s : State} {mI : MethodId} {args : Array Value} {below : List Frame} {meth : Method} {c : Code} {Qw : State → Prop}
variable {B b Ln : Nat} {xs : Nat → Int32} {dA : Nat → ClassId} {D : va_G} {m : Nat}
variable {pc a : Nat} {ls : Array Slot} {H : Heap} {locs : List Loc} {cells slots : Nat} {rest : List Value} {M : s_M} {j : Int32}
theorem i_inx {j : Int32} {n : Nat} (cA : ClassId) (f : Nat → Value) (h : vp_in j n) : ¬ (j < 0 ∨ (arrV cA n f).slots.size ≤ j.toNatClampNeg) := by rw [arrV_size]; exact h
theorem i_iald (CX : x_C m p s mI args meth c) (hI : k_I B b Ln xs dA D M s H) (hix : i_ix M a 0 j) (hd : decode (k_by m) pc = .ok (.iaload, 1))
    (kk : W p l e R s mI args below meth c H locs cells slots Qw (F0 mI (pc + 1) ls (.int (M.2.2.1 a j.toNatClampNeg) :: rest))) : W p l e R s mI args below meth c H locs cells slots Qw (F0 mI pc ls (.int j :: .ref (B + a) :: rest)) := by
  obtain ⟨n, hM, hin⟩ := hix
  obtain ⟨k0, -, hat⟩ := i_arr hI hM hin
  exact va_iald CX.1 CX.2.1 hI.2.2.2.1 hI.2.2.1 k0 0 (f := M.2.2.1 a) (n := n) (cA := dA 0) hat (k_ty_at (by decide)) hin hd kk
theorem i_lald (CX : x_C m p s mI args meth c) (hI : k_I B b Ln xs dA D M s H) (hix : i_ix M a 1 j) (hd : decode (k_by m) pc = .ok (.laload, 1))
    (kk : W p l e R s mI args below meth c H locs cells slots Qw (F0 mI (pc + 1) ls (.long (M.2.2.2.1 a j.toNatClampNeg) :: rest))) : W p l e R s mI args below meth c H locs cells slots Qw (F0 mI pc ls (.int j :: .ref (B + a) :: rest)) := by
  obtain ⟨n, hM, hin⟩ := hix
  obtain ⟨k0, -, hat⟩ := i_arr hI hM hin
  exact va_lald CX.1 CX.2.1 hI.2.2.2.1 hI.2.2.1 k0 1 (f := M.2.2.2.1 a) (n := n) (cA := dA 1) hat (k_ty_at (by decide)) hin hd kk
theorem i_zald (CX : x_C m p s mI args meth c) (hI : k_I B b Ln xs dA D M s H) (hix : i_ix M a 2 j) (hd : decode (k_by m) pc = .ok (.baload, 1))
    (kk : W p l e R s mI args below meth c H locs cells slots Qw (F0 mI (pc + 1) ls (.int (s_b (M.2.2.2.2.2 a j.toNatClampNeg)) :: rest))) : W p l e R s mI args below meth c H locs cells slots Qw (F0 mI pc ls (.int j :: .ref (B + a) :: rest)) := by
  obtain ⟨n, hM, hin⟩ := hix
  obtain ⟨k0, -, hat⟩ := i_arr hI hM hin
  exact va_zald CX.1 CX.2.1 hI.2.2.2.1 hI.2.2.1 k0 2 (f := fun q => s_b (M.2.2.2.2.2 a q)) (n := n) (cA := dA 2) hat (k_ty_at (by decide)) hin hd kk
theorem i_aald {t : Nat} (CX : x_C m p s mI args meth c) (ht : t + 3 < k_na) (hI : k_I B b Ln xs dA D M s H) (hix : i_ix M a (t + 3) j) (hnn : M.2.2.2.2.1 a j.toNatClampNeg ≠ 0) (hd : decode (k_by m) pc = .ok (.aaload, 1))
    (kk : W p l e R s mI args below meth c H locs cells slots Qw (F0 mI (pc + 1) ls (.ref (B + M.2.2.2.2.1 a j.toNatClampNeg) :: rest))) : W p l e R s mI args below meth c H locs cells slots Qw (F0 mI pc ls (.int j :: .ref (B + a) :: rest)) := by
  obtain ⟨n, hM, hin⟩ := hix
  obtain ⟨k0, -, hat⟩ := i_arr hI hM hin
  refine va_aldq CX.1 CX.2.1 hI.2.2.2.1 hI.2.2.1 k0 (t + 3) (f := fun q => s_r B (M.2.2.2.2.1 a q)) (n := n) (cA := dA (t + 3)) (C := k_cn t) hat (k_ty_at ht) hin hd ?_
  show W p l e R s mI args below meth c H locs cells slots Qw (F0 mI (pc + 1) ls (va_rf (s_r B (M.2.2.2.2.1 a j.toNatClampNeg)) :: rest))
  rw [s_r_some hnn]
  exact kk
theorem i_iast {x : Int32} (CX : x_C m p s mI args meth c) (hI : k_I B b Ln xs dA D M s H) (hS : va_S (k_A B) s.heap H locs) (hix : i_ix M a 0 j) (hd : decode (k_by m) pc = .ok (.iastore, 1))
    (kk : ∀ (H1 : Heap) (locs1 : List Loc), k_I B b Ln xs dA D (M.1, M.2.1, s_pi M.2.2 a j.toNatClampNeg x) s H1 → va_S (k_A B) s.heap H1 locs1 → W p l e R s mI args below meth c H1 locs1 cells slots Qw (F0 mI (pc + 1) ls rest)) : W p l e R s mI args below meth c H locs cells slots Qw (F0 mI pc ls (.int x :: .int j :: .ref (B + a) :: rest)) := by
  obtain ⟨n, hM, hin⟩ := hix
  obtain ⟨k0, hk0, hat⟩ := i_arr hI hM hin
  have hcell : H[B + a]? = some (arrV (dA 0) n (fun q => .int (M.2.2.1 a q))) := hI.2.2.1 k0 _ hat
  refine W.iast CX.1 CX.2.1 hcell ((hI.2.2.2.1.2 0 _ (k_ty_at (by decide))).1 n _) (fun q => by cases q) (i_inx _ _ hin) rfl rfl hd fun H1 e1 z oq => ?_
  obtain ⟨g1, g2⟩ := i_ast (i := j.toNatClampNeg) hI hS hk0 hM (s_pi_off (k := j.toNatClampNeg) (v := x)) z oq (by
    show H1[B + a]? = some (vp_cell (dA 0) (n, .inl (s_row (s_pi M.2.2 a j.toNatClampNeg x) a).1))
    rw [e1, arrV_store, vp_cell_i, s_pi_at]
    congr 2
    funext q
    by_cases hq : q = j.toNatClampNeg
    · subst hq; simp [updV, va_up]
    · simp [updV, va_up, hq])
  exact kk H1 _ g1 g2
theorem i_last {x : Int64} (CX : x_C m p s mI args meth c) (hI : k_I B b Ln xs dA D M s H) (hS : va_S (k_A B) s.heap H locs) (hix : i_ix M a 1 j) (hd : decode (k_by m) pc = .ok (.lastore, 1))
    (kk : ∀ (H1 : Heap) (locs1 : List Loc), k_I B b Ln xs dA D (M.1, M.2.1, s_pl M.2.2 a j.toNatClampNeg x) s H1 → va_S (k_A B) s.heap H1 locs1 → W p l e R s mI args below meth c H1 locs1 cells slots Qw (F0 mI (pc + 1) ls rest)) : W p l e R s mI args below meth c H locs cells slots Qw (F0 mI pc ls (.long x :: .int j :: .ref (B + a) :: rest)) := by
  obtain ⟨n, hM, hin⟩ := hix
  obtain ⟨k0, hk0, hat⟩ := i_arr hI hM hin
  have hcell : H[B + a]? = some (arrV (dA 1) n (fun q => .long (M.2.2.2.1 a q))) := hI.2.2.1 k0 _ hat
  refine W.last CX.1 CX.2.1 hcell ((hI.2.2.2.1.2 1 _ (k_ty_at (by decide))).1 n _) (fun q => by cases q) (i_inx _ _ hin) rfl rfl hd fun H1 e1 z oq => ?_
  obtain ⟨g1, g2⟩ := i_ast (i := j.toNatClampNeg) hI hS hk0 hM (s_pl_off (k := j.toNatClampNeg) (v := x)) z oq (by
    show H1[B + a]? = some (vp_cell (dA 1) (n, .inr (.inl (s_row (s_pl M.2.2 a j.toNatClampNeg x) a).2.1)))
    rw [e1, arrV_store, vp_cell_l, s_pl_at]
    congr 2
    funext q
    by_cases hq : q = j.toNatClampNeg
    · subst hq; simp [updV, va_up]
    · simp [updV, va_up, hq])
  exact kk H1 _ g1 g2
theorem i_zast {x : Int32} (CX : x_C m p s mI args meth c) (hI : k_I B b Ln xs dA D M s H) (hS : va_S (k_A B) s.heap H locs) (hix : i_ix M a 2 j) (hx01 : x = 0 ∨ x = 1) (hd : decode (k_by m) pc = .ok (.bastore, 1))
    (kk : ∀ (H1 : Heap) (locs1 : List Loc), k_I B b Ln xs dA D (M.1, M.2.1, s_pz M.2.2 a j.toNatClampNeg (!(x == 0))) s H1 → va_S (k_A B) s.heap H1 locs1 → W p l e R s mI args below meth c H1 locs1 cells slots Qw (F0 mI (pc + 1) ls rest)) : W p l e R s mI args below meth c H locs cells slots Qw (F0 mI pc ls (.int x :: .int j :: .ref (B + a) :: rest)) := by
  obtain ⟨n, hM, hin⟩ := hix
  obtain ⟨k0, hk0, hat⟩ := i_arr hI hM hin
  have hcell : H[B + a]? = some (arrV (dA 2) n (fun q => .int (s_b (M.2.2.2.2.2 a q)))) := hI.2.2.1 k0 _ hat
  have hnar : narrow .boolean (.int x) = .int x := by rcases hx01 with h | h <;> subst h <;> rfl
  refine W.zast CX.1 CX.2.1 hcell ((hI.2.2.2.1.2 2 _ (k_ty_at (by decide))).1 n _) (fun q => by cases q) (i_inx _ _ hin) rfl rfl hd fun H1 e1 z oq => ?_
  rw [hnar] at e1
  obtain ⟨g1, g2⟩ := i_ast (i := j.toNatClampNeg) hI hS hk0 hM (s_pz_off (k := j.toNatClampNeg) (v := !(x == 0))) z oq (by
    show H1[B + a]? = some (vp_cell (dA 2) (n, .inl (fun q => s_b ((s_row (s_pz M.2.2 a j.toNatClampNeg (!(x == 0))) a).2.2.2 q))))
    rw [e1, arrV_store, vp_cell_i, s_pz_at]
    congr 2
    funext q
    by_cases hq : q = j.toNatClampNeg
    · subst hq; simp only [updV, va_up, if_true]; rw [s_b_of hx01]
    · simp [updV, va_up, hq])
  exact kk H1 _ g1 g2
theorem i_aast {t v : Nat} (CX : x_C m p s mI args meth c) (ht : t + 3 < k_na) (hI : k_I B b Ln xs dA D M s H) (hS : va_S (k_A B) s.heap H locs) (hix : i_ix M a (t + 3) j) (hv : M.1[v]? = some (.inl t)) (hd : decode (k_by m) pc = .ok (.aastore, 1))
    (kk : ∀ (H1 : Heap) (locs1 : List Loc), k_I B b Ln xs dA D (M.1, M.2.1, s_pr M.2.2 a j.toNatClampNeg v) s H1 → va_S (k_A B) s.heap H1 locs1 → W p l e R s mI args below meth c H1 locs1 cells slots Qw (F0 mI (pc + 1) ls rest)) : W p l e R s mI args below meth c H locs cells slots Qw (F0 mI pc ls (.ref (B + v) :: .int j :: .ref (B + a) :: rest)) := by
  obtain ⟨n, hM, hin⟩ := hix
  obtain ⟨k0, hk0, hat⟩ := i_arr hI hM hin
  have hcell : H[B + a]? = some (arrV (dA (t + 3)) n (fun q => va_rf (s_r B (M.2.2.2.2.1 a q)))) := hI.2.2.1 k0 _ hat
  obtain ⟨kv, rfl⟩ := k_pos hI hv (by intro h; cases h)
  have hlt : j.toNatClampNeg < n := Nat.not_le.mp fun q => hin (Or.inr q)
  have h0 : ¬ j < 0 := fun q => hin (Or.inl q)
  obtain ⟨r', hr', cellV, g1, g2, g3, -⟩ := hI.2.2.1 kv _ (s_w_at hv)
  have hnn : k_na ≤ k_no + 3 := by decide
  have hc := k_cl_at (ci := t) (by omega)
  have hcls := (hI.2.2.2.1.1 t _ hc).2
  obtain ⟨kA, comp, c1, c2, c3, -⟩ := (hI.2.2.2.1.2 (t + 3) _ (k_ty_at ht)).2
  have hcomp : comp = D.1 t := Option.some.inj (c3.symm.trans hcls.1)
  subst hcomp
  obtain ⟨kC, hkC, -⟩ := hcls.2
  refine W.aast CX.1 CX.2.1 hcell (fun q h => by cases h) (fun h => by cases h) c1 c2 rfl hkC ⟨h0, by rw [arrV_size]; exact hlt⟩ g1 (fun q h => by rw [g3] at h; cases h) (by rw [g2]; exact hkC) (by rw [g2]; exact va_assign hcls) rfl rfl hd fun H1 e1 z oq => ?_
  obtain ⟨g1, g2⟩ := i_ast (i := j.toNatClampNeg) hI hS hk0 hM (s_pr_off (k := j.toNatClampNeg) (v := kv + 1)) z oq (by
    show H1[B + a]? = some (vp_cell (dA (t + 3)) (n, .inr (.inr (.inr (.inr (fun q => s_r B ((s_row (s_pr M.2.2 a j.toNatClampNeg (kv + 1)) a).2.2.1 q)))))))
    rw [e1, arrV_store, vp_cell_q, s_pr_at]
    congr 2
    funext q
    by_cases hq : q = j.toNatClampNeg
    · subst hq; simp only [updV, va_up, if_true]; rw [s_r_some (Nat.succ_ne_zero kv)]; rfl
    · simp [updV, va_up, hq])
  exact kk H1 _ g1 g2
theorem i_newa {ty : ArrayType} {t n : Nat} {z : Int32} (CX : x_C m p s mI args meth c) (ht : t < 3) (hty : newarray.typeOf ty = k_aty t) (hw : (Jvm.Cond.arrayClass (k_aty t)).before args s = true) (hn : n ≤ 1000) (hz : z.toInt = (n : Int)) (h0 : M.2.1 = 0) (hcells : cells + 1 ≤ R.cells) (hslots : slots + n ≤ R.slots)
    (hI : k_I B b Ln xs dA D M s H) (hS : va_S (k_A B) s.heap H locs) (hd : decode (k_by m) pc = .ok (.newarray ty, 2))
    (kk : ∀ (H1 : Heap), k_I B b Ln xs dA D (M.1 ++ [.inr (t, n)], 0, s_z M.2.2 M.1.length) s H1 → va_S (k_A B) s.heap H1 locs → W p l e R s mI args below meth c H1 locs (cells + 1) (slots + n) Qw (F0 mI (pc + 2) ls (.ref (B + M.1.length) :: rest))) : W p l e R s mI args below meth c H locs cells slots Qw (F0 mI pc ls (.int z :: rest)) := by
  have hz0 : ¬ z < 0 := by
    intro h
    have h1 := Int32.lt_iff_toInt_lt.mp h
    rw [hz] at h1
    have h2 : (0 : Int32).toInt = 0 := rfl
    rw [h2] at h1
    omega
  have hzn : z.toNatClampNeg = n := by
    show z.toInt.toNat = n
    rw [hz]; rfl
  have hB : B < H.size := by
    have h1 := hI.1
    have h2 : 0 < M.1.length := (List.getElem?_eq_some_iff.mp hI.2.1).1
    omega
  have hsz : H.size = B + M.1.length := by have h1 := hI.1; omega
  refine va_newaK CX.1 CX.2.1 (by rw [hty]; exact hw) rfl hd rfl hz0 hzn (by rw [hty]; rcases (by omega : t = 0 ∨ t = 1 ∨ t = 2) with h | h | h <;> subst h <;> (show n * _ ≤ _) <;> simp [k_aty, componentBytes] <;> omega) hcells hslots (h := H.size) rfl fun H1 cA e1 z1 o1 hAr hNm => ?_
  rw [hty] at e1 hNm
  have hcA : cA = dA t := by
    have h1 := (hI.2.2.2.1.2 t _ (k_ty_at (Nat.lt_of_lt_of_le ht (by decide)))).2
    rcases (by omega : t = 0 ∨ t = 1 ∨ t = 2) with h | h | h <;> subst h <;> exact Option.some.inj (hNm.symm.trans h1)
  subst hcA
  have hk := k_I_push (e := .inr (t, n)) (σ' := s_z M.2.2 M.1.length) hI h0 s_z_off z1 o1 (by
    rw [s_z_at]
    rcases (by omega : t = 0 ∨ t = 1 ∨ t = 2) with h | h | h <;> subst h <;> exact e1)
  rw [hsz]
  exact kk H1 hk ⟨Nat.le_trans hS.1 (by omega), fun x h1 h2 => (o1 x (Nat.lt_of_lt_of_le h1 hS.1)).trans (hS.2.1 x h1 h2), hS.2.2⟩
theorem i_anew {i t n : Nat} {z : Int32} (CX : x_C m p s mI args meth c) (ht : t + 3 < k_na) (hw : (Jvm.Cond.classLink (k_own m) i (k_cn t)).before args s = true) (hw2 : (Jvm.Cond.arrayOver (.object (k_cn t))).before args s = true) (hn : n ≤ 1000) (hz : z.toInt = (n : Int)) (h0 : M.2.1 = 0) (hcells : cells + 1 ≤ R.cells) (hslots : slots + n ≤ R.slots)
    (hI : k_I B b Ln xs dA D M s H) (hS : va_S (k_A B) s.heap H locs) (hd : decode (k_by m) pc = .ok (.anewarray i, 3))
    (kk : ∀ (H1 : Heap), k_I B b Ln xs dA D (M.1 ++ [.inr (t + 3, n)], 0, s_z M.2.2 M.1.length) s H1 → va_S (k_A B) s.heap H1 locs → W p l e R s mI args below meth c H1 locs (cells + 1) (slots + n) Qw (F0 mI (pc + 3) ls (.ref (B + M.1.length) :: rest))) : W p l e R s mI args below meth c H locs cells slots Qw (F0 mI pc ls (.int z :: rest)) := by
  have hz0 : ¬ z < 0 := by
    intro h
    have h1 := Int32.lt_iff_toInt_lt.mp h
    rw [hz] at h1
    have h2 : (0 : Int32).toInt = 0 := rfl
    rw [h2] at h1
    omega
  have hzn : z.toNatClampNeg = n := by
    show z.toInt.toNat = n
    rw [hz]; rfl
  have hsz : H.size = B + M.1.length := by have h1 := hI.1; omega
  refine W.anew CX.1 CX.2.1 CX.2.2.2.1 hw hw2 rfl hd rfl hz0 (by rw [hzn]; omega) hcells (by rw [hzn]; exact hslots) fun cA kA comp f1 f2 f3 f4 => ?_
  rw [hzn]
  have hcA : cA = dA (t + 3) := by
    obtain ⟨kA', comp', -, -, -, h4⟩ := (hI.2.2.2.1.2 (t + 3) _ (k_ty_at ht)).2
    exact Option.some.inj (f1.symm.trans h4)
  subst hcA
  generalize hH1 : H.push ({ cls := dA (t + 3), slots := Array.replicate n .null, vm := .none } : Cell) = H1
  have z1 : H1.size = H.size + 1 := by rw [← hH1, Array.size_push]
  have e1 : H1[H.size]? = some (arrV (dA (t + 3)) n (fun _ => .null)) := by rw [← hH1, Array.getElem?_push_size, ← arrV_new]
  have o1 : ∀ q : Nat, q < H.size → H1[q]? = H[q]? := fun q hq => by rw [← hH1, Array.getElem?_push, if_neg (Nat.ne_of_lt hq)]
  have hk := k_I_push (e := .inr (t + 3, n)) (σ' := s_z M.2.2 M.1.length) hI h0 s_z_off z1 o1 (by
    rw [s_z_at]
    show H1[H.size]? = some _
    rw [e1]
    rfl)
  rw [hsz]
  exact kk H1 hk ⟨Nat.le_trans hS.1 (by omega), fun x h1 h2 => (o1 x (Nat.lt_of_lt_of_le h1 hS.1)).trans (hS.2.1 x h1 h2), hS.2.2⟩
theorem i_new {i ci : Nat} (CX : x_C m p s mI args meth c) (hci : ci < k_no) (hw : (Jvm.Cond.classLink (k_own m) i (k_cn ci)).before args s = true) (hw2 : (Jvm.Cond.instantiable (k_cn ci) (k_ft ci).length).before args s = true) (hw3 : (Jvm.Cond.initialized (k_cn ci)).before args s = true) (h0 : M.2.1 = 0) (hcells : cells + 1 ≤ R.cells) (hslots : slots + (k_ft ci).length ≤ R.slots)
    (hI : k_I B b Ln xs dA D M s H) (hS : va_S (k_A B) s.heap H locs) (hd : decode (k_by m) pc = .ok (.new i, 3))
    (kk : ∀ (H1 : Heap), k_I B b Ln xs dA D (M.1 ++ [.inl ci], 0, s_z M.2.2 M.1.length) s H1 → va_S (k_A B) s.heap H1 locs → W p l e R s mI args below meth c H1 locs (cells + 1) (slots + (k_ft ci).length) Qw (F0 mI (pc + 3) ls (.ref (B + M.1.length) :: rest))) : W p l e R s mI args below meth c H locs cells slots Qw (F0 mI pc ls rest) := by
  have hsz : H.size = B + M.1.length := by have h1 := hI.1; omega
  have hc := k_cl_at hci
  have hKn := hI.2.2.2.1.1 ci _ hc
  refine W.newcK CX.1 CX.2.1 CX.2.2.2.1 hw hw2 hw3 rfl hd hcells hslots hKn.2.1 (h := H.size) rfl fun H1 kC hkC e1 z1 o1 => ?_
  have hk := k_I_push (e := .inl ci) (σ' := s_z M.2.2 M.1.length) hI h0 s_z_off z1 o1 (by
    rw [s_z_at]
    refine ⟨_, hc, (u_born (fun k => (k_ft ci).getD k .int) CX.2.2.2.2.1 (k_lays hci) hKn hkC e1 (k_types hci)).to (fun k hk => ?_)⟩
    show defaultValue _ = vp_V ((k_ft ci).mapIdx _) k
    unfold vp_V
    rw [List.getD_eq_getElem?_getD (l := List.mapIdx _ _), i_fs_at (B := B) hk]
    exact k_dflt hci hk)
  rw [hsz]
  exact kk H1 hk ⟨Nat.le_trans hS.1 (by omega), fun x h1 h2 => (o1 x (Nat.lt_of_lt_of_le h1 hS.1)).trans (hS.2.1 x h1 h2), hS.2.2⟩
theorem i_sld (CX : x_C m p s mI args meth c) (hI : k_I B b Ln xs dA D M s H) (hin : vp_in j Ln) (hd : decode (k_by m) pc = .ok (.iaload, 1))
    (kk : W p l e R s mI args below meth c H locs cells slots Qw (F0 mI (pc + 1) ls (.int (xs j.toNatClampNeg) :: rest))) : W p l e R s mI args below meth c H locs cells slots Qw (F0 mI pc ls (.int j :: .ref b :: rest)) := by
  obtain ⟨scr, h1, h2, h3, h4, h5⟩ := hI.2.2.2.2.2.2.1
  have hlt : j.toNatClampNeg < Ln := Nat.not_le.mp fun q => hin (Or.inr q)
  exact W.iald CX.1 CX.2.1 h1 h2 h3 (by rw [h4]; exact hin) (h5 _ hlt) rfl rfl hd kk
theorem i_slen (CX : x_C m p s mI args meth c) (hI : k_I B b Ln xs dA D M s H) (hd : decode (k_by m) pc = .ok (.arraylength, 1))
    (kk : W p l e R s mI args below meth c H locs cells slots Qw (F0 mI (pc + 1) ls (.int (Int32.ofNat Ln) :: rest))) : W p l e R s mI args below meth c H locs cells slots Qw (F0 mI pc ls (.ref b :: rest)) := by
  obtain ⟨scr, h1, h2, h3, h4, h5⟩ := hI.2.2.2.2.2.2.1
  exact W.alen CX.1 CX.2.1 h1 h2 (by rw [h4]) rfl rfl hd kk
end Arrs
end
section
/-! One instruction: from the point behind it to the point ahead of it. -/
section Step
variable {p : Program} {l : Launch} {e : Env} {R : Room} {s : State} {mI : MethodId} {args : Array Value} {below : List Frame} {meth : Method} {c : Code} {Qw : State → Prop}
variable {B b Ln : Nat} {xs : Nat → Int32} {dA : Nat → ClassId} {D : va_G} {m : Nat}
theorem i_rd_eq {σ : s_S} {a k : Nat} {ty : FieldType} (h : i_nn σ a k ty) : k_cv B b (i_rd σ a k ty) = s_v B (s_row σ a) k ty := by
  cases ty <;> first | rfl | (show Value.ref (B + σ.2.2.1 a k) = va_rf (s_r B (σ.2.2.1 a k)); rw [s_r_some h]; rfl)
set_option maxHeartbeats 4000000 in
theorem i_go {ins : Instr} {len a1 a2 pl pc : Nat} {L : i_L} {st : List Value} {M : s_M} {ce sl : Nat} {P : Prop} {x' : i_C} (CX : x_C m p s mI args meth c) (hRc : R.cells = (k_t m).2.2.2.2.1) (hRs : R.slots = (k_t m).2.2.2.2.2)
    (hok : i_okb m pc ins len a1 a2 pl = true) (hd : decode (k_by m) pc = .ok (ins, len)) (hs : i_st xs Ln (k_t m).2.2.2.2.1 (k_t m).2.2.2.2.2 ins a1 a2 pc L st M ce sl = some (P, x')) (hP : P)
    (k : i_N p l e R s mI args below meth c Qw B b Ln xs dA D m x') : i_N p l e R s mI args below meth c Qw B b Ln xs dA D m (pc, L, st, M, ce, sl) := by
  intro ls H locs hl hI hS
  have hl : lv_has ls (k_t m).2.2.1 (L.map (k_cp B b)) := hl
  have hI : k_I B b Ln xs dA D M s H := hI
  show W p l e R s mI args below meth c H locs ce sl Qw (F0 mI pc ls (st.map (k_cv B b)))
  obtain ⟨hx, hb, hml, hown, hts, hret, hlk, hnm, hex⟩ := id CX
  have hKt := hI.2.2.2.1
  cases ins with
  | iconst n =>
    simp only [i_okb, decide_eq_true_eq] at hok
    subst hok
    simp only [i_st] at hs
    cases hs
    exact lv_iconst hx hb hd rfl (k ls H locs hl hI hS)
  | bipush n =>
    simp only [i_okb, decide_eq_true_eq] at hok
    subst hok
    simp only [i_st] at hs
    cases hs
    exact lv_bipush hx hb hd rfl (k ls H locs hl hI hS)
  | sipush n =>
    simp only [i_okb, decide_eq_true_eq] at hok
    subst hok
    simp only [i_st] at hs
    cases hs
    exact lv_sipush hx hb hd rfl (k ls H locs hl hI hS)
  | lconst n =>
    simp only [i_okb, decide_eq_true_eq] at hok
    subst hok
    simp only [i_st] at hs
    cases hs
    exact lv_lconst hx hb hd rfl (k ls H locs hl hI hS)
  | ldc n =>
    simp only [i_okb, Bool.and_eq_true, decide_eq_true_eq] at hok
    obtain ⟨rfl, hw⟩ := hok
    simp only [i_st] at hs
    cases hs
    exact lv_ldc hx hb hown (i_word hts hw) hd (k ls H locs hl hI hS)
  | ldc2_w n =>
    simp only [i_okb, Bool.and_eq_true, decide_eq_true_eq] at hok
    obtain ⟨rfl, hw⟩ := hok
    simp only [i_st] at hs
    cases hs
    exact lv_ldc2 hx hb hown (i_word hts hw) hd (k ls H locs hl hI hS)
  | iload_n n =>
    simp only [i_okb, decide_eq_true_eq] at hok
    subst hok
    simp only [i_st] at hs
    split at hs
    · rename_i x h1
      cases hs
      exact lv_iload_n hx hb hd rfl (i_ld_at hl h1) (k ls H locs hl hI hS)
    · cases hs
  | iload n =>
    simp only [i_okb, decide_eq_true_eq] at hok
    subst hok
    simp only [i_st] at hs
    split at hs
    · rename_i x h1
      cases hs
      exact lv_iload hx hb hd (i_ld_at hl h1) (k ls H locs hl hI hS)
    · cases hs
  | lload n =>
    simp only [i_okb, decide_eq_true_eq] at hok
    subst hok
    simp only [i_st] at hs
    split at hs
    · rename_i x h1
      cases hs
      exact lv_lload hx hb hd (i_ld_at hl h1) (k ls H locs hl hI hS)
    · cases hs
  | aload_n n =>
    simp only [i_okb, decide_eq_true_eq] at hok
    subst hok
    simp only [i_st] at hs
    split at hs
    · rename_i x h1
      cases hs
      exact lv_aload_n hx hb hd rfl (i_ld_at hl h1) (k ls H locs hl hI hS)
    · rename_i x h1
      cases hs
      exact lv_aload_n hx hb hd rfl (i_ld_at hl h1) (k ls H locs hl hI hS)
    · cases hs
  | aload n =>
    simp only [i_okb, decide_eq_true_eq] at hok
    subst hok
    simp only [i_st] at hs
    split at hs
    · rename_i x h1
      cases hs
      exact lv_aload hx hb hd (i_ld_at hl h1) (k ls H locs hl hI hS)
    · cases hs
  | istore_n n =>
    simp only [i_okb, Bool.and_eq_true, decide_eq_true_eq] at hok
    obtain ⟨rfl, hn⟩ := hok
    simp only [i_st] at hs
    split at hs
    · rename_i x r
      cases hs
      exact lv_istore_n hx hb hd rfl hl hn (i_s1_map (n : Nat) (.int x)) (fun ls' h' => k ls' H locs h' hI hS)
    · cases hs
  | istore n =>
    simp only [i_okb, Bool.and_eq_true, decide_eq_true_eq] at hok
    obtain ⟨rfl, hn⟩ := hok
    simp only [i_st] at hs
    split at hs
    · rename_i x r
      cases hs
      exact lv_istore hx hb hd hl hn (i_s1_map n (.int x)) (fun ls' h' => k ls' H locs h' hI hS)
    · cases hs
  | lstore n =>
    simp only [i_okb, Bool.and_eq_true, decide_eq_true_eq] at hok
    obtain ⟨rfl, hn⟩ := hok
    simp only [i_st] at hs
    split at hs
    · rename_i x r
      cases hs
      exact lv_lstore hx hb hd hl hn (i_s2_map n (.long x)) (fun ls' h' => k ls' H locs h' hI hS)
    · cases hs
  | astore_n n =>
    simp only [i_okb, Bool.and_eq_true, decide_eq_true_eq] at hok
    obtain ⟨rfl, hn⟩ := hok
    simp only [i_st] at hs
    split at hs
    · rename_i x r
      cases hs
      exact lv_astore_n hx hb hd rfl hl hn (i_s1_map (n : Nat) (.ref x)) (fun ls' h' => k ls' H locs h' hI hS)
    · cases hs
  | astore n =>
    simp only [i_okb, Bool.and_eq_true, decide_eq_true_eq] at hok
    obtain ⟨rfl, hn⟩ := hok
    simp only [i_st] at hs
    split at hs
    · rename_i x r
      cases hs
      exact lv_astore hx hb hd hl hn (i_s1_map n (.ref x)) (fun ls' h' => k ls' H locs h' hI hS)
    · cases hs
  | iinc n d =>
    simp only [i_okb, Bool.and_eq_true, decide_eq_true_eq] at hok
    obtain ⟨rfl, hn⟩ := hok
    simp only [i_st] at hs
    split at hs
    · rename_i x h1
      cases hs
      obtain ⟨q, hq⟩ := List.getElem?_of_mem (List.mem_map.mpr ⟨(n, .int x), i_mem h1, rfl⟩ : (k_cp B b (n, .int x)) ∈ L.map (k_cp B b))
      exact lv_iinc hx hb hd hl hq rfl hn (i_s1_map n (.int (x + Int32.ofInt d))) (fun ls' h' => k ls' H locs h' hI hS)
    · cases hs
  | iadd =>
    simp only [i_okb, decide_eq_true_eq] at hok
    subst hok
    simp only [i_st] at hs
    split at hs
    · cases hs
      exact lv_iadd hx hb hd (k ls H locs hl hI hS)
    · cases hs
  | isub =>
    simp only [i_okb, decide_eq_true_eq] at hok
    subst hok
    simp only [i_st] at hs
    split at hs
    · cases hs
      exact lv_isub hx hb hd (k ls H locs hl hI hS)
    · cases hs
  | imul =>
    simp only [i_okb, decide_eq_true_eq] at hok
    subst hok
    simp only [i_st] at hs
    split at hs
    · cases hs
      exact lv_imul hx hb hd (k ls H locs hl hI hS)
    · cases hs
  | iand =>
    simp only [i_okb, decide_eq_true_eq] at hok
    subst hok
    simp only [i_st] at hs
    split at hs
    · cases hs
      exact lv_iand hx hb hd (k ls H locs hl hI hS)
    · cases hs
  | idiv =>
    simp only [i_okb, decide_eq_true_eq] at hok
    subst hok
    simp only [i_st] at hs
    split at hs
    · cases hs
      exact lv_idiv hx hb hd hP (k ls H locs hl hI hS)
    · cases hs
  | irem =>
    simp only [i_okb, decide_eq_true_eq] at hok
    subst hok
    simp only [i_st] at hs
    split at hs
    · cases hs
      exact lv_irem hx hb hd hP (k ls H locs hl hI hS)
    · cases hs
  | ladd =>
    simp only [i_okb, decide_eq_true_eq] at hok
    subst hok
    simp only [i_st] at hs
    split at hs
    · cases hs
      exact lv_ladd hx hb hd (k ls H locs hl hI hS)
    · cases hs
  | lsub =>
    simp only [i_okb, decide_eq_true_eq] at hok
    subst hok
    simp only [i_st] at hs
    split at hs
    · cases hs
      exact lv_lsub hx hb hd (k ls H locs hl hI hS)
    · cases hs
  | lmul =>
    simp only [i_okb, decide_eq_true_eq] at hok
    subst hok
    simp only [i_st] at hs
    split at hs
    · cases hs
      exact lv_lmul hx hb hd (k ls H locs hl hI hS)
    · cases hs
  | lcmp =>
    simp only [i_okb, decide_eq_true_eq] at hok
    subst hok
    simp only [i_st] at hs
    split at hs
    · cases hs
      exact W.lcmp hx hb hd (k ls H locs hl hI hS)
    · cases hs
  | i2l =>
    simp only [i_okb, decide_eq_true_eq] at hok
    subst hok
    simp only [i_st] at hs
    split at hs
    · cases hs
      exact lv_i2l hx hb hd rfl (k ls H locs hl hI hS)
    · cases hs
  | dup =>
    simp only [i_okb, decide_eq_true_eq] at hok
    subst hok
    simp only [i_st] at hs
    split at hs
    · cases hs
      exact lv_dup hx hb hd rfl (k ls H locs hl hI hS)
    · cases hs
      exact lv_dup hx hb hd rfl (k ls H locs hl hI hS)
    · cases hs
  | dup2 =>
    simp only [i_okb, decide_eq_true_eq] at hok
    subst hok
    simp only [i_st] at hs
    split at hs
    · cases hs
      exact lv_dup2_11 hx hb hd rfl rfl (k ls H locs hl hI hS)
    · cases hs
  | pop =>
    simp only [i_okb, decide_eq_true_eq] at hok
    subst hok
    simp only [i_st] at hs
    split at hs
    · cases hs
      exact lv_pop hx hb hd rfl (k ls H locs hl hI hS)
    · cases hs
      exact lv_pop hx hb hd rfl (k ls H locs hl hI hS)
    · cases hs
  | ifCond cd off =>
    simp only [i_okb, Bool.and_eq_true, decide_eq_true_eq] at hok
    obtain ⟨rfl, ho⟩ := hok
    have ht := i_tg_eq ho
    simp only [i_st] at hs
    split at hs
    · cases hs
      have k1 := k ls H locs hl hI hS
      cases cd with
      | eq => exact lv_if_eq hx hb hd ht (fun h => by simp only [i_br, if_pos h] at k1; exact k1) (fun h => by simp only [i_br, if_neg h] at k1; exact k1)
      | ne => exact lv_if_ne hx hb hd ht (fun h => by simp only [i_br, if_neg h] at k1; exact k1) (fun h => by simp only [i_br, if_pos h] at k1; exact k1)
      | lt => exact lv_if_lt hx hb hd ht (fun h => by simp only [i_br, if_pos h] at k1; exact k1) (fun h => by simp only [i_br, if_neg h] at k1; exact k1)
      | ge => exact lv_if_ge hx hb hd ht (fun h => by simp only [i_br, if_pos h] at k1; exact k1) (fun h => by simp only [i_br, if_neg h] at k1; exact k1)
      | gt => exact lv_if_gt hx hb hd ht (fun h => by simp only [i_br, if_pos h] at k1; exact k1) (fun h => by simp only [i_br, if_neg h] at k1; exact k1)
      | le => exact lv_if_le hx hb hd ht (fun h => by simp only [i_br, if_pos h] at k1; exact k1) (fun h => by simp only [i_br, if_neg h] at k1; exact k1)
    · cases hs
  | if_icmp cd off =>
    simp only [i_okb, Bool.and_eq_true, decide_eq_true_eq] at hok
    obtain ⟨rfl, ho⟩ := hok
    have ht := i_tg_eq ho
    simp only [i_st] at hs
    split at hs
    · cases hs
      have k1 := k ls H locs hl hI hS
      cases cd with
      | eq => exact lv_icmp_eq hx hb hd ht (fun h => by simp only [i_br, if_pos h] at k1; exact k1) (fun h => by simp only [i_br, if_neg h] at k1; exact k1)
      | ne => exact lv_icmp_ne hx hb hd ht (fun h => by simp only [i_br, if_neg h] at k1; exact k1) (fun h => by simp only [i_br, if_pos h] at k1; exact k1)
      | lt => exact lv_icmp_lt hx hb hd ht (fun h => by simp only [i_br, if_pos h] at k1; exact k1) (fun h => by simp only [i_br, if_neg h] at k1; exact k1)
      | ge => exact lv_icmp_ge hx hb hd ht (fun h => by simp only [i_br, if_pos h] at k1; exact k1) (fun h => by simp only [i_br, if_neg h] at k1; exact k1)
      | gt => exact lv_icmp_gt hx hb hd ht (fun h => by simp only [i_br, if_pos h] at k1; exact k1) (fun h => by simp only [i_br, if_neg h] at k1; exact k1)
      | le => exact lv_icmp_le hx hb hd ht (fun h => by simp only [i_br, if_pos h] at k1; exact k1) (fun h => by simp only [i_br, if_neg h] at k1; exact k1)
    · cases hs
  | goto off =>
    simp only [i_okb, Bool.and_eq_true, decide_eq_true_eq] at hok
    obtain ⟨rfl, ho⟩ := hok
    simp only [i_st] at hs
    cases hs
    exact lv_goto hx hb hd (i_tg_eq ho) (k ls H locs hl hI hS)
  | tableswitch d lo hi offs =>
    simp only [i_okb, Bool.and_eq_true, decide_eq_true_eq, List.all_eq_true] at hok
    obtain ⟨⟨h0, h1⟩, h2⟩ := hok
    simp only [i_st] at hs
    split at hs
    · rename_i x r
      cases hs
      have k1 := k ls H locs hl hI hS
      by_cases hr : x.toInt < lo ∨ hi < x.toInt
      · simp only [if_pos hr] at k1
        exact lv_tableOut hx hb hd hr (i_tg_eq h0) k1
      · simp only [if_neg hr] at k1
        have h3 : ¬ x.toInt < lo := fun h => hr (Or.inl h)
        have h4 : ¬ hi < x.toInt := fun h => hr (Or.inr h)
        have h5 : (x.toInt - lo).toNat < offs.size := by omega
        have h6 : offs[(x.toInt - lo).toNat]? = some (offs.getD (x.toInt - lo).toNat 0) := by
          rw [Array.getD_eq_getD_getElem?, Array.getElem?_eq_getElem h5]
          rfl
        refine lv_tableIn hx hb hd h3 h4 h6 (i_tg_eq (h2 _ ?_)) k1
        rw [Array.getD_eq_getD_getElem?, Array.getElem?_eq_getElem h5]
        exact Array.getElem_mem_toList h5
    · cases hs
  | getfield i =>
    simp only [i_okb, Bool.and_eq_true, decide_eq_true_eq] at hok
    obtain ⟨⟨⟨rfl, g1⟩, g2⟩, hw⟩ := hok
    simp only [i_st] at hs
    split at hs
    · cases hs
      have k1 := k ls H locs hl hI hS
      simp only [List.map_cons, i_rd_eq hP.2] at k1
      exact i_get CX g1 g2 (i_word hts hw) hd hI hP.1 k1
    · cases hs
  | putfield i =>
    simp only [i_okb, Bool.and_eq_true, Bool.or_eq_true, Bool.not_eq_true', decide_eq_true_eq] at hok
    obtain ⟨⟨⟨⟨rfl, g1⟩, g2⟩, hw⟩, hf⟩ := hok
    simp only [i_st] at hs
    split at hs
    · rename_i v a r
      split at hs
      · rename_i P1 σ1 hwr
        cases hs
        obtain ⟨hM, hP1⟩ := hP
        generalize hty : (k_ft a1).getD a2 .int = ty at hwr
        unfold i_wr at hwr
        split at hwr
        · cases hwr
          exact i_put CX g1 g2 (i_word hts hw) hf hd hI hS hM (by rw [hty]; rfl) (by rw [hty]; rfl) s_pi_off (by rw [s_pi_at, hty]; show Value.int (va_up _ a2 _ a2) = _; rw [s_up_eq]; rfl) (by rw [s_pi_at]; exact s_v_pi (ρ := s_row M.2.2 a)) (fun H1 locs1 hI1 hS1 => k ls H1 locs1 hl hI1 hS1)
        · cases hwr
          exact i_put CX g1 g2 (i_word hts hw) hf hd hI hS hM (by rw [hty]; rfl) (by rw [hty]; rfl) s_pl_off (by rw [s_pl_at, hty]; show Value.long (va_up _ a2 _ a2) = _; rw [s_up_eq]; rfl) (by rw [s_pl_at]; exact s_v_pl (ρ := s_row M.2.2 a)) (fun H1 locs1 hI1 hS1 => k ls H1 locs1 hl hI1 hS1)
        · rename_i y
          cases hwr
          have hn : narrow .boolean (.int y) = .int y ∧ fits .boolean (.int y) = true := by rcases hP1 with h | h <;> subst h <;> exact ⟨rfl, rfl⟩
          exact i_put CX g1 g2 (i_word hts hw) hf hd hI hS hM (by rw [hty]; exact hn.1) (by rw [hty]; exact hn.2) s_pz_off (by rw [s_pz_at, hty]; show Value.int (s_b (va_up _ a2 _ a2)) = _; rw [s_up_eq, s_b_of hP1]; rfl) (by rw [s_pz_at]; exact s_v_pz (ρ := s_row M.2.2 a)) (fun H1 locs1 hI1 hS1 => k ls H1 locs1 hl hI1 hS1)
        · cases hwr
          exact i_put CX g1 g2 (i_word hts hw) hf hd hI hS hM (by rw [hty]; rfl) (by rw [hty]; rfl) s_pr_off (by rw [s_pr_at, hty]; show va_rf (s_r B (va_up _ a2 _ a2)) = _; rw [s_up_eq, s_r_some hP1]; rfl) (by rw [s_pr_at]; exact s_v_pr (ρ := s_row M.2.2 a)) (fun H1 locs1 hI1 hS1 => k ls H1 locs1 hl hI1 hS1)
        · cases hwr
          exact i_put CX g1 g2 (i_word hts hw) hf hd hI hS hM (by rw [hty]; rfl) (by rw [hty]; rfl) s_pr_off (by rw [s_pr_at, hty]; show va_rf (s_r B (va_up _ a2 _ a2)) = _; rw [s_up_eq, s_r_some hP1]; rfl) (by rw [s_pr_at]; exact s_v_pr (ρ := s_row M.2.2 a)) (fun H1 locs1 hI1 hS1 => k ls H1 locs1 hl hI1 hS1)
        · cases hwr
      · cases hs
    · cases hs
  | iaload =>
    simp only [i_okb, decide_eq_true_eq] at hok
    subst hok
    simp only [i_st] at hs
    split at hs
    · cases hs
      exact i_iald CX hI hP hd (k ls H locs hl hI hS)
    · rename_i j y r
      cases hs
      obtain ⟨-, hin⟩ := hP
      exact i_sld CX hI hin hd (k ls H locs hl hI hS)
    · cases hs
  | laload =>
    simp only [i_okb, decide_eq_true_eq] at hok
    subst hok
    simp only [i_st] at hs
    split at hs
    · cases hs
      exact i_lald CX hI hP hd (k ls H locs hl hI hS)
    · cases hs
  | baload =>
    simp only [i_okb, decide_eq_true_eq] at hok
    subst hok
    simp only [i_st] at hs
    split at hs
    · cases hs
      exact i_zald CX hI hP hd (k ls H locs hl hI hS)
    · cases hs
  | aaload =>
    simp only [i_okb, Bool.and_eq_true, decide_eq_true_eq] at hok
    obtain ⟨rfl, ht⟩ := hok
    simp only [i_st] at hs
    split at hs
    · cases hs
      exact i_aald CX ht hI hP.1 hP.2 hd (k ls H locs hl hI hS)
    · cases hs
  | iastore =>
    simp only [i_okb, decide_eq_true_eq] at hok
    subst hok
    simp only [i_st] at hs
    split at hs
    · cases hs
      exact i_iast CX hI hS hP hd (fun H1 locs1 hI1 hS1 => k ls H1 locs1 hl hI1 hS1)
    · cases hs
  | lastore =>
    simp only [i_okb, decide_eq_true_eq] at hok
    subst hok
    simp only [i_st] at hs
    split at hs
    · cases hs
      exact i_last CX hI hS hP hd (fun H1 locs1 hI1 hS1 => k ls H1 locs1 hl hI1 hS1)
    · cases hs
  | bastore =>
    simp only [i_okb, decide_eq_true_eq] at hok
    subst hok
    simp only [i_st] at hs
    split at hs
    · cases hs
      exact i_zast CX hI hS hP.1 hP.2 hd (fun H1 locs1 hI1 hS1 => k ls H1 locs1 hl hI1 hS1)
    · cases hs
  | aastore =>
    simp only [i_okb, Bool.and_eq_true, decide_eq_true_eq] at hok
    obtain ⟨rfl, ht⟩ := hok
    simp only [i_st] at hs
    split at hs
    · cases hs
      exact i_aast CX ht hI hS hP.1 hP.2 hd (fun H1 locs1 hI1 hS1 => k ls H1 locs1 hl hI1 hS1)
    · cases hs
  | arraylength =>
    simp only [i_okb, decide_eq_true_eq] at hok
    subst hok
    simp only [i_st] at hs
    split at hs
    · cases hs
      exact i_slen CX hI hd (k ls H locs hl hI hS)
    · cases hs
  | newarray ty =>
    simp only [i_okb, Bool.and_eq_true, decide_eq_true_eq] at hok
    obtain ⟨⟨⟨⟨rfl, h1⟩, h2⟩, h3⟩, hw⟩ := hok
    simp only [i_st] at hs
    split at hs
    · cases hs
      obtain ⟨q1, q2, q3, q4⟩ := hP
      exact i_newa CX h2 h3 (hts _ (k_in_cw hw)) h1 q2 q1 (by rw [hRc]; exact q3) (by rw [hRs]; exact q4) hI hS hd (fun H1 hI1 hS1 => k ls H1 locs hl hI1 hS1)
    · cases hs
  | anewarray i =>
    simp only [i_okb, Bool.and_eq_true, decide_eq_true_eq] at hok
    obtain ⟨⟨⟨⟨rfl, h1⟩, h2⟩, hw⟩, hw2⟩ := hok
    simp only [i_st] at hs
    split at hs
    · cases hs
      obtain ⟨q1, q2, q3, q4⟩ := hP
      exact i_anew CX h2 (i_word hts hw) (hts _ (k_in_cw hw2)) h1 q2 q1 (by rw [hRc]; exact q3) (by rw [hRs]; exact q4) hI hS hd (fun H1 hI1 hS1 => k ls H1 locs hl hI1 hS1)
    · cases hs
  | new i =>
    simp only [i_st] at hs
    split at hs
    · cases hs
      simp only [i_okb, Bool.and_eq_true, decide_eq_true_eq] at hok
      obtain ⟨rfl, hw, ⟨g1, g2⟩, g3⟩ := hok
      obtain ⟨q1, q3, q4⟩ := hP
      exact i_new CX g1 (i_word hts hw) (hts _ (k_in_cw g2)) (hts _ (k_in_cw g3)) q1 (by rw [hRc]; exact q3) (by rw [hRs]; exact q4) hI hS hd (fun H1 hI1 hS1 => k ls H1 locs hl hI1 hS1)
    · cases hs
  | _ => simp only [i_st] at hs; cases hs
end Step
end
section
/-! Each row of each method's code, checked by the kernel; printed by wip/gen/codes.py. -/
def k_chk (m : Nat) (l : List i_X) : Bool := l.all (fun x => decide (decode (k_by m) x.1 = .ok (x.2.1, x.2.2.1)) && i_okb m x.1 x.2.1 x.2.2.1 x.2.2.2.1 x.2.2.2.2.1 x.2.2.2.2.2)
theorem k_chk_app {m : Nat} {l : List i_X} (n : Nat) (h1 : k_chk m (l.take n) = true) (h2 : k_chk m (l.drop n) = true) : k_chk m l = true := by
  rw [← List.take_append_drop n l]
  unfold k_chk at *
  rw [List.all_append, h1, h2]
  rfl
theorem ok_0 : k_chk 0 c_0 = true := by decide +kernel
theorem ok_1 : k_chk 1 c_1 = true := by decide +kernel
theorem ok_2 : k_chk 2 c_2 = true := by decide +kernel
theorem ok_3 : k_chk 3 c_3 = true := by decide +kernel
theorem ok_4 : k_chk 4 c_4 = true := by decide +kernel
theorem ok_5 : k_chk 5 c_5 = true := by decide +kernel
theorem ok_6 : k_chk 6 c_6 = true := by decide +kernel
theorem ok_7 : k_chk 7 c_7 = true := by decide +kernel
theorem ok_8 : k_chk 8 c_8 = true := by decide +kernel
theorem ok_9 : k_chk 9 c_9 = true := by decide +kernel
theorem ok_10 : k_chk 10 c_10 = true := by decide +kernel
theorem ok_11 : k_chk 11 c_11 = true := by decide +kernel
theorem ok_12 : k_chk 12 c_12 = true := by decide +kernel
theorem ok_13 : k_chk 13 c_13 = true := by decide +kernel
theorem ok_14 : k_chk 14 c_14 = true := by decide +kernel
theorem ok_15 : k_chk 15 c_15 = true := by decide +kernel
theorem ok_16 : k_chk 16 c_16 = true := by decide +kernel
theorem ok_17 : k_chk 17 c_17 = true := by decide +kernel
theorem ok_18 : k_chk 18 c_18 = true := by decide +kernel
theorem ok_19 : k_chk 19 c_19 = true := by decide +kernel
theorem ok_20 : k_chk 20 c_20 = true := by decide +kernel
theorem ok_21 : k_chk 21 c_21 = true := by decide +kernel
theorem ok_22 : k_chk 22 c_22 = true := by decide +kernel
theorem ok_23 : k_chk 23 c_23 = true := by decide +kernel
theorem ok_24 : k_chk 24 c_24 = true := by decide +kernel
theorem ok_25 : k_chk 25 c_25 = true := by decide +kernel
theorem ok_26 : k_chk 26 c_26 = true := by decide +kernel
theorem ok_27 : k_chk 27 c_27 = true := by decide +kernel
theorem ok_28 : k_chk 28 c_28 = true := by decide +kernel
theorem ok_29 : k_chk 29 c_29 = true := by decide +kernel
theorem ok_30 : k_chk 30 c_30 = true := by decide +kernel
theorem ok_31 : k_chk 31 c_31 = true := by decide +kernel
theorem ok_32 : k_chk 32 c_32 = true := by decide +kernel
theorem ok_33 : k_chk 33 c_33 = true := by decide +kernel
theorem ok_34 : k_chk 34 c_34 = true := by decide +kernel
theorem ok_35 : k_chk 35 c_35 = true := by decide +kernel
theorem ok_36 : k_chk 36 c_36 = true := by decide +kernel
theorem ok_37 : k_chk 37 c_37 = true := by decide +kernel
theorem ok_38 : k_chk 38 c_38 = true := by decide +kernel
theorem ok_39 : k_chk 39 c_39 = true := by decide +kernel
theorem ok_40 : k_chk 40 c_40 = true := by decide +kernel
theorem ok_41 : k_chk 41 c_41 = true := by decide +kernel
theorem ok_42 : k_chk 42 c_42 = true := by decide +kernel
theorem ok_43 : k_chk 43 c_43 = true := by decide +kernel
theorem ok_44 : k_chk 44 c_44 = true := by decide +kernel
theorem ok_45 : k_chk 45 c_45 = true := by decide +kernel
theorem ok_46 : k_chk 46 c_46 = true := by decide +kernel
theorem ok_47 : k_chk 47 c_47 = true := by decide +kernel
theorem ok_48 : k_chk 48 c_48 = true := by decide +kernel
theorem ok_49 : k_chk 49 c_49 = true := by decide +kernel
theorem ok_50 : k_chk 50 c_50 = true := by decide +kernel
end
section
theorem ok_51 : k_chk 51 c_51 = true := by decide +kernel
theorem ok_52 : k_chk 52 c_52 = true := by decide +kernel
theorem ok_53 : k_chk 53 c_53 = true := by decide +kernel
theorem ok_54 : k_chk 54 c_54 = true := by decide +kernel
theorem ok_55 : k_chk 55 c_55 = true := by decide +kernel
theorem ok_56 : k_chk 56 c_56 = true := by decide +kernel
theorem ok_57 : k_chk 57 c_57 = true := by decide +kernel
theorem ok_58 : k_chk 58 c_58 = true := by decide +kernel
theorem ok_59 : k_chk 59 c_59 = true := by decide +kernel
theorem ok_60 : k_chk 60 c_60 = true := by decide +kernel
theorem ok_61 : k_chk 61 c_61 = true := by decide +kernel
theorem ok_62 : k_chk 62 c_62 = true := by decide +kernel
theorem ok_63 : k_chk 63 c_63 = true := by decide +kernel
theorem ok_64 : k_chk 64 c_64 = true := by decide +kernel
theorem ok_65 : k_chk 65 c_65 = true := by decide +kernel
theorem ok_66 : k_chk 66 c_66 = true := by decide +kernel
theorem ok_67 : k_chk 67 c_67 = true := by decide +kernel
theorem ok_68 : k_chk 68 c_68 = true := by decide +kernel
theorem ok_69 : k_chk 69 c_69 = true := by decide +kernel
theorem ok_70 : k_chk 70 c_70 = true := by decide +kernel
theorem ok_71 : k_chk 71 c_71 = true := by decide +kernel
theorem ok_72 : k_chk 72 c_72 = true := by decide +kernel
theorem ok_73 : k_chk 73 c_73 = true := by decide +kernel
theorem ok_74 : k_chk 74 c_74 = true := by decide +kernel
theorem ok_75 : k_chk 75 c_75 = true := by decide +kernel
theorem ok_76 : k_chk 76 c_76 = true := by decide +kernel
theorem ok_77 : k_chk 77 c_77 = true := by decide +kernel
theorem ok_78 : k_chk 78 c_78 = true := by decide +kernel
theorem ok_79 : k_chk 79 c_79 = true := by decide +kernel
theorem ok_80 : k_chk 80 c_80 = true := by decide +kernel
theorem ok_81 : k_chk 81 c_81 = true := by decide +kernel
theorem ok_82 : k_chk 82 c_82 = true := by decide +kernel
theorem ok_83 : k_chk 83 c_83 = true := by decide +kernel
theorem ok_84 : k_chk 84 c_84 = true := by decide +kernel
theorem ok_85 : k_chk 85 c_85 = true := by decide +kernel
theorem ok_86 : k_chk 86 c_86 = true := by decide +kernel
theorem ok_87 : k_chk 87 c_87 = true := by decide +kernel
theorem ok_88 : k_chk 88 c_88 = true := by decide +kernel
theorem ok_89 : k_chk 89 c_89 = true := by decide +kernel
theorem ok_90 : k_chk 90 c_90 = true := by decide +kernel
theorem ok_91 : k_chk 91 c_91 = true := by decide +kernel
theorem ok_92 : k_chk 92 c_92 = true := by decide +kernel
theorem ok_93 : k_chk 93 c_93 = true := by decide +kernel
theorem ok_94 : k_chk 94 c_94 = true := by decide +kernel
theorem ok_95 : k_chk 95 c_95 = true := by decide +kernel
theorem ok_96 : k_chk 96 c_96 = true := by decide +kernel
theorem ok_97 : k_chk 97 c_97 = true := by decide +kernel
theorem ok_98 : k_chk 98 c_98 = true := by decide +kernel
theorem ok_99 : k_chk 99 c_99 = true := by decide +kernel
theorem ok_100 : k_chk 100 c_100 = true := by decide +kernel
theorem ok_101 : k_chk 101 c_101 = true := by decide +kernel
theorem ok_102 : k_chk 102 c_102 = true := by decide +kernel
theorem ok_103 : k_chk 103 c_103 = true := by decide +kernel
theorem ok_104_0 : k_chk 104 (c_104.take 60) = true := by decide +kernel
theorem ok_104_1 : k_chk 104 ((c_104.drop 60).take 60) = true := by decide +kernel
theorem ok_104_2 : k_chk 104 (((c_104.drop 60).drop 60).take 60) = true := by decide +kernel
theorem ok_104_3 : k_chk 104 ((((c_104.drop 60).drop 60).drop 60).take 60) = true := by decide +kernel
theorem ok_104_4 : k_chk 104 ((((c_104.drop 60).drop 60).drop 60).drop 60) = true := by decide +kernel
theorem ok_104 : k_chk 104 c_104 = true := (k_chk_app 60 ok_104_0 (k_chk_app 60 ok_104_1 (k_chk_app 60 ok_104_2 (k_chk_app 60 ok_104_3 ok_104_4))))
end
section
theorem ok_105 : k_chk 105 c_105 = true := by decide +kernel
theorem ok_106 : k_chk 106 c_106 = true := by decide +kernel
theorem ok_107 : k_chk 107 c_107 = true := by decide +kernel
theorem ok_108 : k_chk 108 c_108 = true := by decide +kernel
theorem ok_109 : k_chk 109 c_109 = true := by decide +kernel
theorem ok_110 : k_chk 110 c_110 = true := by decide +kernel
theorem ok_111 : k_chk 111 c_111 = true := by decide +kernel
theorem ok_112 : k_chk 112 c_112 = true := by decide +kernel
theorem ok_113 : k_chk 113 c_113 = true := by decide +kernel
theorem ok_114 : k_chk 114 c_114 = true := by decide +kernel
theorem ok_115_0 : k_chk 115 (c_115.take 60) = true := by decide +kernel
theorem ok_115_1 : k_chk 115 (c_115.drop 60) = true := by decide +kernel
theorem ok_115 : k_chk 115 c_115 = true := (k_chk_app 60 ok_115_0 ok_115_1)
theorem ok_116_0 : k_chk 116 (c_116.take 60) = true := by decide +kernel
theorem ok_116_1 : k_chk 116 (c_116.drop 60) = true := by decide +kernel
theorem ok_116 : k_chk 116 c_116 = true := (k_chk_app 60 ok_116_0 ok_116_1)
theorem ok_117 : k_chk 117 c_117 = true := by decide +kernel
theorem ok_118_0 : k_chk 118 (c_118.take 60) = true := by decide +kernel
theorem ok_118_1 : k_chk 118 (c_118.drop 60) = true := by decide +kernel
theorem ok_118 : k_chk 118 c_118 = true := (k_chk_app 60 ok_118_0 ok_118_1)
theorem ok_119_0 : k_chk 119 (c_119.take 60) = true := by decide +kernel
theorem ok_119_1 : k_chk 119 ((c_119.drop 60).take 60) = true := by decide +kernel
theorem ok_119_2 : k_chk 119 ((c_119.drop 60).drop 60) = true := by decide +kernel
theorem ok_119 : k_chk 119 c_119 = true := (k_chk_app 60 ok_119_0 (k_chk_app 60 ok_119_1 ok_119_2))
theorem ok_120 : k_chk 120 c_120 = true := by decide +kernel
theorem ok_121 : k_chk 121 c_121 = true := by decide +kernel
theorem ok_122 : k_chk 122 c_122 = true := by decide +kernel
theorem ok_123_0 : k_chk 123 (c_123.take 60) = true := by decide +kernel
theorem ok_123_1 : k_chk 123 (c_123.drop 60) = true := by decide +kernel
theorem ok_123 : k_chk 123 c_123 = true := (k_chk_app 60 ok_123_0 ok_123_1)
theorem ok_124 : k_chk 124 c_124 = true := by decide +kernel
theorem ok_125 : k_chk 125 c_125 = true := by decide +kernel
theorem ok_126 : k_chk 126 c_126 = true := by decide +kernel
theorem ok_127 : k_chk 127 c_127 = true := by decide +kernel
theorem ok_128_0 : k_chk 128 (c_128.take 60) = true := by decide +kernel
theorem ok_128_1 : k_chk 128 (c_128.drop 60) = true := by decide +kernel
theorem ok_128 : k_chk 128 c_128 = true := (k_chk_app 60 ok_128_0 ok_128_1)
theorem ok_129 : k_chk 129 c_129 = true := by decide +kernel
theorem ok_130 : k_chk 130 c_130 = true := by decide +kernel
theorem ok_131 : k_chk 131 c_131 = true := by decide +kernel
theorem ok_132 : k_chk 132 c_132 = true := by decide +kernel
theorem ok_133 : k_chk 133 c_133 = true := by decide +kernel
theorem ok_134 : k_chk 134 c_134 = true := by decide +kernel
end
section
theorem ok_135 : k_chk 135 c_135 = true := by decide +kernel
theorem ok_136_0 : k_chk 136 (c_136.take 60) = true := by decide +kernel
theorem ok_136_1 : k_chk 136 (c_136.drop 60) = true := by decide +kernel
theorem ok_136 : k_chk 136 c_136 = true := (k_chk_app 60 ok_136_0 ok_136_1)
theorem ok_137 : k_chk 137 c_137 = true := by decide +kernel
theorem ok_138 : k_chk 138 c_138 = true := by decide +kernel
theorem ok_139 : k_chk 139 c_139 = true := by decide +kernel
theorem ok_140 : k_chk 140 c_140 = true := by decide +kernel
theorem ok_141 : k_chk 141 c_141 = true := by decide +kernel
theorem ok_142 : k_chk 142 c_142 = true := by decide +kernel
theorem ok_143 : k_chk 143 c_143 = true := by decide +kernel
theorem ok_144 : k_chk 144 c_144 = true := by decide +kernel
theorem ok_145 : k_chk 145 c_145 = true := by decide +kernel
theorem ok_146_0 : k_chk 146 (c_146.take 60) = true := by decide +kernel
theorem ok_146_1 : k_chk 146 ((c_146.drop 60).take 60) = true := by decide +kernel
theorem ok_146_2 : k_chk 146 ((c_146.drop 60).drop 60) = true := by decide +kernel
theorem ok_146 : k_chk 146 c_146 = true := (k_chk_app 60 ok_146_0 (k_chk_app 60 ok_146_1 ok_146_2))
theorem ok_147_0 : k_chk 147 (c_147.take 60) = true := by decide +kernel
theorem ok_147_1 : k_chk 147 (c_147.drop 60) = true := by decide +kernel
theorem ok_147 : k_chk 147 c_147 = true := (k_chk_app 60 ok_147_0 ok_147_1)
theorem ok_148 : k_chk 148 c_148 = true := by decide +kernel
theorem ok_149 : k_chk 149 c_149 = true := by decide +kernel
theorem ok_150 : k_chk 150 c_150 = true := by decide +kernel
theorem ok_151 : k_chk 151 c_151 = true := by decide +kernel
theorem ok_152_0 : k_chk 152 (c_152.take 60) = true := by decide +kernel
theorem ok_152_1 : k_chk 152 (c_152.drop 60) = true := by decide +kernel
theorem ok_152 : k_chk 152 c_152 = true := (k_chk_app 60 ok_152_0 ok_152_1)
theorem ok_153 : k_chk 153 c_153 = true := by decide +kernel
theorem ok_154 : k_chk 154 c_154 = true := by decide +kernel
theorem ok_155 : k_chk 155 c_155 = true := by decide +kernel
theorem ok_156 : k_chk 156 c_156 = true := by decide +kernel
theorem ok_157 : k_chk 157 c_157 = true := by decide +kernel
theorem ok_158 : k_chk 158 c_158 = true := by decide +kernel
theorem ok_159 : k_chk 159 c_159 = true := by decide +kernel
theorem ok_160 : k_chk 160 c_160 = true := by decide +kernel
theorem ok_161_0 : k_chk 161 (c_161.take 60) = true := by decide +kernel
theorem ok_161_1 : k_chk 161 (c_161.drop 60) = true := by decide +kernel
theorem ok_161 : k_chk 161 c_161 = true := (k_chk_app 60 ok_161_0 ok_161_1)
end
section
theorem ok_162 : k_chk 162 c_162 = true := by decide +kernel
theorem ok_163 : k_chk 163 c_163 = true := by decide +kernel
theorem ok_164 : k_chk 164 c_164 = true := by decide +kernel
theorem ok_165 : k_chk 165 c_165 = true := by decide +kernel
theorem ok_166 : k_chk 166 c_166 = true := by decide +kernel
theorem ok_167 : k_chk 167 c_167 = true := by decide +kernel
theorem ok_168 : k_chk 168 c_168 = true := by decide +kernel
theorem ok_169_0 : k_chk 169 (c_169.take 60) = true := by decide +kernel
theorem ok_169_1 : k_chk 169 ((c_169.drop 60).take 60) = true := by decide +kernel
theorem ok_169_2 : k_chk 169 (((c_169.drop 60).drop 60).take 60) = true := by decide +kernel
theorem ok_169_3 : k_chk 169 ((((c_169.drop 60).drop 60).drop 60).take 60) = true := by decide +kernel
theorem ok_169_4 : k_chk 169 (((((c_169.drop 60).drop 60).drop 60).drop 60).take 60) = true := by decide +kernel
theorem ok_169_5 : k_chk 169 ((((((c_169.drop 60).drop 60).drop 60).drop 60).drop 60).take 60) = true := by decide +kernel
theorem ok_169_6 : k_chk 169 (((((((c_169.drop 60).drop 60).drop 60).drop 60).drop 60).drop 60).take 60) = true := by decide +kernel
theorem ok_169_7 : k_chk 169 ((((((((c_169.drop 60).drop 60).drop 60).drop 60).drop 60).drop 60).drop 60).take 60) = true := by decide +kernel
theorem ok_169_8 : k_chk 169 (((((((((c_169.drop 60).drop 60).drop 60).drop 60).drop 60).drop 60).drop 60).drop 60).take 60) = true := by decide +kernel
theorem ok_169_9 : k_chk 169 ((((((((((c_169.drop 60).drop 60).drop 60).drop 60).drop 60).drop 60).drop 60).drop 60).drop 60).take 60) = true := by decide +kernel
theorem ok_169_10 : k_chk 169 (((((((((((c_169.drop 60).drop 60).drop 60).drop 60).drop 60).drop 60).drop 60).drop 60).drop 60).drop 60).take 60) = true := by decide +kernel
theorem ok_169_11 : k_chk 169 ((((((((((((c_169.drop 60).drop 60).drop 60).drop 60).drop 60).drop 60).drop 60).drop 60).drop 60).drop 60).drop 60).take 60) = true := by decide +kernel
theorem ok_169_12 : k_chk 169 (((((((((((((c_169.drop 60).drop 60).drop 60).drop 60).drop 60).drop 60).drop 60).drop 60).drop 60).drop 60).drop 60).drop 60).take 60) = true := by decide +kernel
theorem ok_169_13 : k_chk 169 ((((((((((((((c_169.drop 60).drop 60).drop 60).drop 60).drop 60).drop 60).drop 60).drop 60).drop 60).drop 60).drop 60).drop 60).drop 60).take 60) = true := by decide +kernel
theorem ok_169_14 : k_chk 169 ((((((((((((((c_169.drop 60).drop 60).drop 60).drop 60).drop 60).drop 60).drop 60).drop 60).drop 60).drop 60).drop 60).drop 60).drop 60).drop 60) = true := by decide +kernel
theorem ok_169 : k_chk 169 c_169 = true := (k_chk_app 60 ok_169_0 (k_chk_app 60 ok_169_1 (k_chk_app 60 ok_169_2 (k_chk_app 60 ok_169_3 (k_chk_app 60 ok_169_4 (k_chk_app 60 ok_169_5 (k_chk_app 60 ok_169_6 (k_chk_app 60 ok_169_7 (k_chk_app 60 ok_169_8 (k_chk_app 60 ok_169_9 (k_chk_app 60 ok_169_10 (k_chk_app 60 ok_169_11 (k_chk_app 60 ok_169_12 (k_chk_app 60 ok_169_13 ok_169_14))))))))))))))
theorem k_allc {P : i_T → Prop} {a : i_T} {l : List i_T} (h : P a) (t : ∀ x ∈ l, P x) : ∀ x ∈ a :: l, P x := List.forall_mem_cons.mpr ⟨h, t⟩
set_option maxRecDepth 100000 in
theorem k_chks : ∀ t ∈ k_tl, k_chk t.1 t.2.1 = true := k_allc (P := fun t => k_chk t.1 t.2.1 = true) ok_0 (k_allc (P := fun t => k_chk t.1 t.2.1 = true) ok_1 (k_allc (P := fun t => k_chk t.1 t.2.1 = true) ok_2 (k_allc (P := fun t => k_chk t.1 t.2.1 = true) ok_3 (k_allc (P := fun t => k_chk t.1 t.2.1 = true) ok_4 (k_allc (P := fun t => k_chk t.1 t.2.1 = true) ok_5 (k_allc (P := fun t => k_chk t.1 t.2.1 = true) ok_6 (k_allc (P := fun t => k_chk t.1 t.2.1 = true) ok_7 (k_allc (P := fun t => k_chk t.1 t.2.1 = true) ok_8 (k_allc (P := fun t => k_chk t.1 t.2.1 = true) ok_9 (k_allc (P := fun t => k_chk t.1 t.2.1 = true) ok_10 (k_allc (P := fun t => k_chk t.1 t.2.1 = true) ok_11 (k_allc (P := fun t => k_chk t.1 t.2.1 = true) ok_12 (k_allc (P := fun t => k_chk t.1 t.2.1 = true) ok_13 (k_allc (P := fun t => k_chk t.1 t.2.1 = true) ok_14 (k_allc (P := fun t => k_chk t.1 t.2.1 = true) ok_15 (k_allc (P := fun t => k_chk t.1 t.2.1 = true) ok_16 (k_allc (P := fun t => k_chk t.1 t.2.1 = true) ok_17 (k_allc (P := fun t => k_chk t.1 t.2.1 = true) ok_18 (k_allc (P := fun t => k_chk t.1 t.2.1 = true) ok_19 (k_allc (P := fun t => k_chk t.1 t.2.1 = true) ok_20 (k_allc (P := fun t => k_chk t.1 t.2.1 = true) ok_21 (k_allc (P := fun t => k_chk t.1 t.2.1 = true) ok_22 (k_allc (P := fun t => k_chk t.1 t.2.1 = true) ok_23 (k_allc (P := fun t => k_chk t.1 t.2.1 = true) ok_24 (k_allc (P := fun t => k_chk t.1 t.2.1 = true) ok_25 (k_allc (P := fun t => k_chk t.1 t.2.1 = true) ok_26 (k_allc (P := fun t => k_chk t.1 t.2.1 = true) ok_27 (k_allc (P := fun t => k_chk t.1 t.2.1 = true) ok_28 (k_allc (P := fun t => k_chk t.1 t.2.1 = true) ok_29 (k_allc (P := fun t => k_chk t.1 t.2.1 = true) ok_30 (k_allc (P := fun t => k_chk t.1 t.2.1 = true) ok_31 (k_allc (P := fun t => k_chk t.1 t.2.1 = true) ok_32 (k_allc (P := fun t => k_chk t.1 t.2.1 = true) ok_33 (k_allc (P := fun t => k_chk t.1 t.2.1 = true) ok_34 (k_allc (P := fun t => k_chk t.1 t.2.1 = true) ok_35 (k_allc (P := fun t => k_chk t.1 t.2.1 = true) ok_36 (k_allc (P := fun t => k_chk t.1 t.2.1 = true) ok_37 (k_allc (P := fun t => k_chk t.1 t.2.1 = true) ok_38 (k_allc (P := fun t => k_chk t.1 t.2.1 = true) ok_39 (k_allc (P := fun t => k_chk t.1 t.2.1 = true) ok_40 (k_allc (P := fun t => k_chk t.1 t.2.1 = true) ok_41 (k_allc (P := fun t => k_chk t.1 t.2.1 = true) ok_42 (k_allc (P := fun t => k_chk t.1 t.2.1 = true) ok_43 (k_allc (P := fun t => k_chk t.1 t.2.1 = true) ok_44 (k_allc (P := fun t => k_chk t.1 t.2.1 = true) ok_45 (k_allc (P := fun t => k_chk t.1 t.2.1 = true) ok_46 (k_allc (P := fun t => k_chk t.1 t.2.1 = true) ok_47 (k_allc (P := fun t => k_chk t.1 t.2.1 = true) ok_48 (k_allc (P := fun t => k_chk t.1 t.2.1 = true) ok_49 (k_allc (P := fun t => k_chk t.1 t.2.1 = true) ok_50 (k_allc (P := fun t => k_chk t.1 t.2.1 = true) ok_51 (k_allc (P := fun t => k_chk t.1 t.2.1 = true) ok_52 (k_allc (P := fun t => k_chk t.1 t.2.1 = true) ok_53 (k_allc (P := fun t => k_chk t.1 t.2.1 = true) ok_54 (k_allc (P := fun t => k_chk t.1 t.2.1 = true) ok_55 (k_allc (P := fun t => k_chk t.1 t.2.1 = true) ok_56 (k_allc (P := fun t => k_chk t.1 t.2.1 = true) ok_57 (k_allc (P := fun t => k_chk t.1 t.2.1 = true) ok_58 (k_allc (P := fun t => k_chk t.1 t.2.1 = true) ok_59 (k_allc (P := fun t => k_chk t.1 t.2.1 = true) ok_60 (k_allc (P := fun t => k_chk t.1 t.2.1 = true) ok_61 (k_allc (P := fun t => k_chk t.1 t.2.1 = true) ok_62 (k_allc (P := fun t => k_chk t.1 t.2.1 = true) ok_63 (k_allc (P := fun t => k_chk t.1 t.2.1 = true) ok_64 (k_allc (P := fun t => k_chk t.1 t.2.1 = true) ok_65 (k_allc (P := fun t => k_chk t.1 t.2.1 = true) ok_66 (k_allc (P := fun t => k_chk t.1 t.2.1 = true) ok_67 (k_allc (P := fun t => k_chk t.1 t.2.1 = true) ok_68 (k_allc (P := fun t => k_chk t.1 t.2.1 = true) ok_69 (k_allc (P := fun t => k_chk t.1 t.2.1 = true) ok_70 (k_allc (P := fun t => k_chk t.1 t.2.1 = true) ok_71 (k_allc (P := fun t => k_chk t.1 t.2.1 = true) ok_72 (k_allc (P := fun t => k_chk t.1 t.2.1 = true) ok_73 (k_allc (P := fun t => k_chk t.1 t.2.1 = true) ok_74 (k_allc (P := fun t => k_chk t.1 t.2.1 = true) ok_75 (k_allc (P := fun t => k_chk t.1 t.2.1 = true) ok_76 (k_allc (P := fun t => k_chk t.1 t.2.1 = true) ok_77 (k_allc (P := fun t => k_chk t.1 t.2.1 = true) ok_78 (k_allc (P := fun t => k_chk t.1 t.2.1 = true) ok_79 (k_allc (P := fun t => k_chk t.1 t.2.1 = true) ok_80 (k_allc (P := fun t => k_chk t.1 t.2.1 = true) ok_81 (k_allc (P := fun t => k_chk t.1 t.2.1 = true) ok_82 (k_allc (P := fun t => k_chk t.1 t.2.1 = true) ok_83 (k_allc (P := fun t => k_chk t.1 t.2.1 = true) ok_84 (k_allc (P := fun t => k_chk t.1 t.2.1 = true) ok_85 (k_allc (P := fun t => k_chk t.1 t.2.1 = true) ok_86 (k_allc (P := fun t => k_chk t.1 t.2.1 = true) ok_87 (k_allc (P := fun t => k_chk t.1 t.2.1 = true) ok_88 (k_allc (P := fun t => k_chk t.1 t.2.1 = true) ok_89 (k_allc (P := fun t => k_chk t.1 t.2.1 = true) ok_90 (k_allc (P := fun t => k_chk t.1 t.2.1 = true) ok_91 (k_allc (P := fun t => k_chk t.1 t.2.1 = true) ok_92 (k_allc (P := fun t => k_chk t.1 t.2.1 = true) ok_93 (k_allc (P := fun t => k_chk t.1 t.2.1 = true) ok_94 (k_allc (P := fun t => k_chk t.1 t.2.1 = true) ok_95 (k_allc (P := fun t => k_chk t.1 t.2.1 = true) ok_96 (k_allc (P := fun t => k_chk t.1 t.2.1 = true) ok_97 (k_allc (P := fun t => k_chk t.1 t.2.1 = true) ok_98 (k_allc (P := fun t => k_chk t.1 t.2.1 = true) ok_99 (k_allc (P := fun t => k_chk t.1 t.2.1 = true) ok_100 (k_allc (P := fun t => k_chk t.1 t.2.1 = true) ok_101 (k_allc (P := fun t => k_chk t.1 t.2.1 = true) ok_102 (k_allc (P := fun t => k_chk t.1 t.2.1 = true) ok_103 (k_allc (P := fun t => k_chk t.1 t.2.1 = true) ok_104 (k_allc (P := fun t => k_chk t.1 t.2.1 = true) ok_105 (k_allc (P := fun t => k_chk t.1 t.2.1 = true) ok_106 (k_allc (P := fun t => k_chk t.1 t.2.1 = true) ok_107 (k_allc (P := fun t => k_chk t.1 t.2.1 = true) ok_108 (k_allc (P := fun t => k_chk t.1 t.2.1 = true) ok_109 (k_allc (P := fun t => k_chk t.1 t.2.1 = true) ok_110 (k_allc (P := fun t => k_chk t.1 t.2.1 = true) ok_111 (k_allc (P := fun t => k_chk t.1 t.2.1 = true) ok_112 (k_allc (P := fun t => k_chk t.1 t.2.1 = true) ok_113 (k_allc (P := fun t => k_chk t.1 t.2.1 = true) ok_114 (k_allc (P := fun t => k_chk t.1 t.2.1 = true) ok_115 (k_allc (P := fun t => k_chk t.1 t.2.1 = true) ok_116 (k_allc (P := fun t => k_chk t.1 t.2.1 = true) ok_117 (k_allc (P := fun t => k_chk t.1 t.2.1 = true) ok_118 (k_allc (P := fun t => k_chk t.1 t.2.1 = true) ok_119 (k_allc (P := fun t => k_chk t.1 t.2.1 = true) ok_120 (k_allc (P := fun t => k_chk t.1 t.2.1 = true) ok_121 (k_allc (P := fun t => k_chk t.1 t.2.1 = true) ok_122 (k_allc (P := fun t => k_chk t.1 t.2.1 = true) ok_123 (k_allc (P := fun t => k_chk t.1 t.2.1 = true) ok_124 (k_allc (P := fun t => k_chk t.1 t.2.1 = true) ok_125 (k_allc (P := fun t => k_chk t.1 t.2.1 = true) ok_126 (k_allc (P := fun t => k_chk t.1 t.2.1 = true) ok_127 (k_allc (P := fun t => k_chk t.1 t.2.1 = true) ok_128 (k_allc (P := fun t => k_chk t.1 t.2.1 = true) ok_129 (k_allc (P := fun t => k_chk t.1 t.2.1 = true) ok_130 (k_allc (P := fun t => k_chk t.1 t.2.1 = true) ok_131 (k_allc (P := fun t => k_chk t.1 t.2.1 = true) ok_132 (k_allc (P := fun t => k_chk t.1 t.2.1 = true) ok_133 (k_allc (P := fun t => k_chk t.1 t.2.1 = true) ok_134 (k_allc (P := fun t => k_chk t.1 t.2.1 = true) ok_135 (k_allc (P := fun t => k_chk t.1 t.2.1 = true) ok_136 (k_allc (P := fun t => k_chk t.1 t.2.1 = true) ok_137 (k_allc (P := fun t => k_chk t.1 t.2.1 = true) ok_138 (k_allc (P := fun t => k_chk t.1 t.2.1 = true) ok_139 (k_allc (P := fun t => k_chk t.1 t.2.1 = true) ok_140 (k_allc (P := fun t => k_chk t.1 t.2.1 = true) ok_141 (k_allc (P := fun t => k_chk t.1 t.2.1 = true) ok_142 (k_allc (P := fun t => k_chk t.1 t.2.1 = true) ok_143 (k_allc (P := fun t => k_chk t.1 t.2.1 = true) ok_144 (k_allc (P := fun t => k_chk t.1 t.2.1 = true) ok_145 (k_allc (P := fun t => k_chk t.1 t.2.1 = true) ok_146 (k_allc (P := fun t => k_chk t.1 t.2.1 = true) ok_147 (k_allc (P := fun t => k_chk t.1 t.2.1 = true) ok_148 (k_allc (P := fun t => k_chk t.1 t.2.1 = true) ok_149 (k_allc (P := fun t => k_chk t.1 t.2.1 = true) ok_150 (k_allc (P := fun t => k_chk t.1 t.2.1 = true) ok_151 (k_allc (P := fun t => k_chk t.1 t.2.1 = true) ok_152 (k_allc (P := fun t => k_chk t.1 t.2.1 = true) ok_153 (k_allc (P := fun t => k_chk t.1 t.2.1 = true) ok_154 (k_allc (P := fun t => k_chk t.1 t.2.1 = true) ok_155 (k_allc (P := fun t => k_chk t.1 t.2.1 = true) ok_156 (k_allc (P := fun t => k_chk t.1 t.2.1 = true) ok_157 (k_allc (P := fun t => k_chk t.1 t.2.1 = true) ok_158 (k_allc (P := fun t => k_chk t.1 t.2.1 = true) ok_159 (k_allc (P := fun t => k_chk t.1 t.2.1 = true) ok_160 (k_allc (P := fun t => k_chk t.1 t.2.1 = true) ok_161 (k_allc (P := fun t => k_chk t.1 t.2.1 = true) ok_162 (k_allc (P := fun t => k_chk t.1 t.2.1 = true) ok_163 (k_allc (P := fun t => k_chk t.1 t.2.1 = true) ok_164 (k_allc (P := fun t => k_chk t.1 t.2.1 = true) ok_165 (k_allc (P := fun t => k_chk t.1 t.2.1 = true) ok_166 (k_allc (P := fun t => k_chk t.1 t.2.1 = true) ok_167 (k_allc (P := fun t => k_chk t.1 t.2.1 = true) ok_168 (k_allc (P := fun t => k_chk t.1 t.2.1 = true) ok_169 (fun _ h => absurd h List.not_mem_nil))))))))))))))))))))))))))))))))))))))))))))))))))))))))))))))))))))))))))))))))))))))))))))))))))))))))))))))))))))))))))))))))))))))))))))))))))))))))))))))))))))))))))
theorem k_code {m : Nat} (h : m < k_nm) : ∀ x ∈ (k_t m).2.1, decode (k_by m) x.1 = .ok (x.2.1, x.2.2.1) ∧ i_okb m x.1 x.2.1 x.2.2.1 x.2.2.2.1 x.2.2.2.2.1 x.2.2.2.2.2 = true := by
  intro x hx
  have h1 : k_t m ∈ k_tl := by
    unfold k_t
    rw [List.getD_eq_getElem?_getD]
    have hl : m < k_tl.length := h
    rw [List.getElem?_eq_getElem hl]
    exact List.getElem_mem hl
  have h2 := k_chks (k_t m) h1
  rw [k_num h] at h2
  have h3 := List.all_eq_true.mp h2 x hx
  simpa using h3
end
section
/-! 'throw new E()', and what is caught. -/
section Throw
variable {p : Program} {l : Launch} {e : Env} {R : Room} {s : State} {m : MethodId} {args : Array Value} {below : List Frame} {meth : Method} {c : Code} {locs : List Loc} {cells slots : Nat}
/-- the walk, seen from here: as if the method were entered with the heap that there is now -/
theorem x_again {T : State} (X : Stand p l e R s m args below meth c T locs cells slots) {R' : Room} (hf : R'.frames ≤ R.frames) (hl : R'.locals ≤ R.locals) (hc : cells + R'.cells ≤ R.cells) (hs : slots + R'.slots ≤ R.slots) :
    Stand p l e R' ((T.setVm s.vm).setFrames (.invoking m args :: below)) m args below meth c T [] 0 0 := by
  have htop : (T.setVm s.vm).topJava?.isSome := X.here.top
  have hfr : ((T.setVm s.vm).setFrames (.invoking m args :: below)).frames = .invoking m args :: below := State.frames_setFrames _ (State.cur_lt_of_top htop)
  obtain ⟨g₀, hg⟩ := Option.isSome_iff_exists.mp htop
  obtain ⟨r, hr⟩ := State.topJava?_eq_some.mp hg
  obtain ⟨th, hth, -⟩ := State.frames_cons hr
  have hli : e.platform.stackLimits (T.setVm s.vm).me = e.platform.stackLimits s.me := X.limits
  have hby : (T.setVm s.vm).me.stackBytes = s.me.stackBytes := X.bytes
  have hin : ((T.setVm s.vm).setFrames (.invoking m args :: below)).localsInUse = s.localsInUse := by
    rw [State.localsInUse_invoking hfr (meth := meth) (c := c) X.method X.code, State.localsInUse_invoking X.frames X.method X.code]
  have hnil : (T.heap.toList.drop T.heap.size) = [] := List.drop_eq_nil_of_le (Nat.le_of_eq Array.length_toList)
  refine ⟨X.admits, X.cas, X.clock, hfr, ?_, X.hears, X.method, X.code, X.here, X.tail, X.warmed, (State.stackLimits_setFrames _ _ _).symm, (State.stackBytes_setFrames _ _).symm, ?_⟩
  · have h := X.room
    simp only [State.hasRoom, Bool.and_eq_true, decide_eq_true_eq] at h ⊢
    obtain ⟨⟨⟨⟨h1, h2, h3, h4, h5, h6⟩, h7⟩, h8⟩, -⟩ := h
    rw [X.frames, List.length_cons] at h2 h3
    have q1 := X.heapSize
    have q2 := X.used
    simp only [hfr, hin, List.length_cons, State.stackLimits_setFrames, State.stackBytes_setFrames, hli, hby]
    refine ⟨⟨⟨⟨by omega, by omega, by omega, by omega, by omega, h6⟩, ?_⟩, ?_⟩, X.book⟩
    · show T.heap.size + R'.cells ≤ e.platform.maxCells
      omega
    · show T.slotsUsed + R'.slots ≤ e.platform.maxSlots
      omega
  · refine ⟨?_, Nat.le_refl _, Nat.le_refl _, ?_, ?_, fun a cl hcl => ⟨cl, hcl, rfl, rfl, fun _ _ => rfl⟩⟩
    · show T.setVm s.vm = { ((T.setVm s.vm).setFrames (.invoking m args :: below)).setFrames (T.setVm s.vm).frames with heap := T.heap, slotsUsed := T.slotsUsed }
      rw [State.setFrames_setFrames, State.setFrames_self hth]
      rfl
    · show T.slotsUsed = T.slotsUsed + ((T.heap.toList.drop T.heap.size).map (·.slots.size)).sum
      rw [hnil]; rfl
    · show ((T.heap.toList.drop T.heap.size).map (·.slots.size)).sum ≤ 0
      rw [hnil]; exact Nat.le_refl _
theorem x_kept {U V : State} {k n : Nat} (h : V.sameButNew ({ U with vm := V.vm } : State) [] k n) : V.heap.size ≤ U.heap.size ∧ U.heap.size ≤ V.heap.size + k ∧ ∀ q : Nat, q < V.heap.size → U.heap[q]? = V.heap[q]? := by
  obtain ⟨-, h2, h3, -, -, h6⟩ := h
  refine ⟨h2, h3, fun q hq => ?_⟩
  obtain ⟨c', e1, e2, -, e4⟩ := h6 q _ (Array.getElem?_eq_getElem hq)
  have hs : c'.slots = (V.heap[q]).slots := Array.ext_getElem? fun i => e4 i (fun hm => by cases hm)
  have he : c' = V.heap[q] := by rw [hs] at e2; exact e2
  have e5 : U.heap[q]? = some c' := e1
  rw [e5, he, Array.getElem?_eq_getElem hq]
theorem k_xhw : ∀ x, x < 2 → ∀ w ∈ (k_xa x).filter k_hwb, w ∈ k_hw := by decide +kernel
theorem k_xin {x : Nat} (hx : x < 2) {w : Jvm.Cond} (hw : w ∈ k_xa x) (hn : k_hwb w = false) : w ∈ k_all := by
  have h1 : w ∈ (k_xa x).filter (fun w => !k_hwb w) := List.mem_filter.mpr ⟨hw, by rw [hn]; rfl⟩
  have h2 : w ∈ k_xw := by
    rcases (by omega : x = 0 ∨ x = 1) with h | h <;> subst h
    · exact List.mem_append_left _ h1
    · exact List.mem_append_right _ (List.mem_append_left _ h1)
  exact List.mem_append_right _ (List.mem_append_right _ (List.mem_append_right _ (List.mem_append_right _ (List.mem_append_right _ (List.mem_append_right _ (List.mem_append_right _ (List.mem_append_right _ h2)))))))
theorem k_in_xw {w : Jvm.Cond} (h2 : w ∈ k_xw) : w ∈ k_all := List.mem_append_right _ (List.mem_append_right _ (List.mem_append_right _ (List.mem_append_right _ (List.mem_append_right _ (List.mem_append_right _ (List.mem_append_right _ (List.mem_append_right _ h2)))))))
theorem k_xini {x : Nat} (hx : x < 2) : Jvm.Cond.initialized (k_en x) ∈ k_all ∧ Jvm.Cond.castable (k_en x) (k_en x) ∈ k_all := by
  rcases (by omega : x = 0 ∨ x = 1) with h | h <;> subst h
  · exact ⟨k_in_xw (List.mem_append_right _ (List.mem_append_right _ (List.mem_append_left _ (by simp)))), k_in_xw (List.mem_append_right _ (List.mem_append_right _ (List.mem_append_left _ (by simp))))⟩
  · exact ⟨k_in_xw (List.mem_append_right _ (List.mem_append_right _ (List.mem_append_left _ (by simp)))), k_in_xw (List.mem_append_right _ (List.mem_append_right _ (List.mem_append_left _ (by simp))))⟩
theorem k_xfit : ∀ x, x < 2 → Jvm.Bundle.fit (k_en x) = true := by decide +kernel
theorem k_nfit : ∀ n ∈ k_xn, Jvm.Bundle.fit n = true := by decide +kernel
/-- one row of the table: its class is linked, and takes the object or doesn't -/
theorem x_row {x : ExceptionTableEntry} {t : List ExceptionTableEntry} {ci : ClassId} {cell : Cell} {Q : Handler → Pre} {E : CtlPost} {d : Bool} {acts : List Action} {S : State} {f : JFrame} {a : Addr} (hx : covers x f.pc = true) (h0 : x.catchType ≠ 0)
    (hl : S.vm.ClassLinks e.platform f.method.cls x.catchType ci) (hcell : S.heap[a]? = some cell) (hobj : ∀ k, cell.vm ≠ .statics k) (hk : ∃ k, S.vm.classes[cell.cls]? = some k) (hc : ∃ k, S.vm.classes[ci]? = some k) :
    wp (findHandler.go f a (x :: t)) Q E e d acts S ↔ if S.vm.assignable cell.cls ci = true then Q (.found x.handlerPc) d acts (S.setVm (S.vm.noted f.method.cls x.catchType (.cls ci))) else wp (findHandler.go f a t) Q E e d acts (S.setVm (S.vm.noted f.method.cls x.catchType (.cls ci))) := by
  simp only [covers] at hx
  obtain ⟨ha, ht⟩ := (resolveClass_links e.toSetting hl).op (op := VmOp.resolveClass f.method.cls x.catchType) rfl
  have hal : S.vm.Alike (S.vm.noted f.method.cls x.catchType (.cls ci)) := (Vm.Alike.refl S.vm).noted _ _ _
  obtain ⟨k1, hk1⟩ := hk
  obtain ⟨k2, hk2⟩ := hc
  obtain ⟨k1', hk1', -⟩ := hal.2.2 _ _ hk1
  obtain ⟨k2', hk2', -⟩ := hal.2.2 _ _ hk2
  have he := hal.assignable cell.cls ci
  cases hfit : S.vm.assignable cell.cls ci <;> rw [hfit] at he <;> simp [findHandler.go, hx, h0, ha, ht, hcell, hobj, hk1', hk2', he, VmOp.dirties, VmOp.acts]
/-- the search leads to a handler of the method's own: the walk goes on there -/
theorem x_found {T target : State} {g : JFrame} {a : Addr} {pc : Nat} {vm' : Vm} (h : At T g.method c below)
    (hf : ∀ (Q : Handler → Pre) (E : CtlPost) (d : Bool) (acts : List Action), wp (findHandler g a) Q E e d acts ((T.setTop g).pushFrame (.throwing a)) ↔ Q (.found pc) d acts (((T.setTop g).pushFrame (.throwing a)).setVm vm'))
    (hrest : Steps p.tables e below ((T.setVm vm').setTop { g with pc := pc, stack := [.ref a] }) target) : Steps p.tables e below ((T.setTop g).pushFrame (.throwing a)) target := by
  obtain ⟨hgo, hw⟩ := h.throwing a
  refine Steps.head hgo hw ?_
  obtain ⟨g₀, hg⟩ := Option.isSome_iff_exists.mp h.top
  obtain ⟨r, hr⟩ := State.topJava?_eq_some.mp hg
  have hr' : (T.setVm vm').frames = .java g₀ :: r := hr
  have hstep : ∀ (S : State) (fr : List Frame), (∀ (Q : Handler → Pre) (E : CtlPost) (d : Bool) (acts : List Action), wp (findHandler g a) Q E e d acts S ↔ Q (.found pc) d acts (S.setVm vm')) →
      (stepThrowing e S a (.java g :: fr)).Is ((S.setVm vm').setFrames (.java { g with pc := pc, stack := [.ref a] } :: fr)) [] := by
    intro S fr hS
    simp only [stepThrowing, searchFrame, vmDo]
    generalize hres : Sem.go _ e false [] S = res
    obtain ⟨as, rfl, hact⟩ := Sem.eq_ok_of hres (a := Handler.found pc) (s' := S.setVm vm') (acts' := []) (by simp [hS _ _ _ _])
    exact ⟨rfl, hact⟩
  have hsv : ∀ (u : State) (F G : List Frame), ((u.setFrames F).setVm vm').setFrames G = (u.setVm vm').setFrames G := by
    intro u F G
    have h1 : (u.setFrames F).setVm vm' = (u.setVm vm').setFrames F := rfl
    rw [h1, State.setFrames_setFrames]
  rw [stepThread_throwing (frames_entered h.top _), (hstep _ _ hf).1]
  rw [State.setTop_of_frames _ hr'] at hrest
  rw [hr, List.tail_cons, State.pushFrame, hsv, State.setTop_of_frames _ hr, hsv]
  exact hrest
theorem x_look {S : State} {g : JFrame} {q : Addr} {z : ExceptionTableEntry} {rest : List ExceptionTableEntry} {ci : ClassId} {cell : Cell} (hW : s.WarmedH S.vm) (hz : covers z g.pc = true) (h0 : z.catchType ≠ 0) (hl : s.vm.ClassLinks e.platform g.method.cls z.catchType ci)
    (hcell : S.heap[q]? = some cell) (hobj : cell.vm = .none) (hk : ∃ k, s.vm.classes[cell.cls]? = some k) :
    ∃ vm', s.WarmedH vm' ∧ ∀ (Q : Handler → Pre) (E : CtlPost) (d : Bool) (acts : List Action), wp (findHandler.go g q (z :: rest)) Q E e d acts S ↔ if s.vm.assignable cell.cls ci = true then Q (.found z.handlerPc) d acts (S.setVm vm') else wp (findHandler.go g q rest) Q E e d acts (S.setVm vm') := by
  obtain ⟨k0, hk0⟩ := hk
  obtain ⟨k0', hk0', -⟩ := hW.alike.2.2 _ _ hk0
  obtain ⟨dk, _, _, kt, hd, _, _, _, _, hkt, _, hopen⟩ := hl.here
  obtain ⟨kt', hkt', -⟩ := hW.alike.2.2 _ _ hkt
  refine ⟨_, hW.noted hd hopen (State.rightAt_cls hl), fun Q E d acts => ?_⟩
  rw [x_row hz h0 (hW.classLinks hl) hcell (fun k h => by rw [hobj] at h; cases h) ⟨k0', hk0'⟩ ⟨kt', hkt'⟩, hW.alike.assignable]
def k_asb (m h k pc' : Nat) : Bool := (decide (decode (k_by m) h = .ok (.astore k, 2)) && decide (pc' = h + 2)) || (decide (k < 4) && decide (decode (k_by m) h = .ok (.astore_n (Fin.ofNat 4 k), 1)) && decide (pc' = h + 1))
def k_cin (m a b : Nat) : Bool := (k_t m).2.1.all (fun x => match x.2.1 with
  | .invokevirtual _ => decide (a ≤ x.1) && decide (x.1 < b)
  | _ => true)
def k_hok (m x : Nat) : Bool := match k_hd m x with
  | none => true
  | some (pc', k) => decide (k < (k_t m).2.2.1) && decide (k_own m = "TwinRoomsLaw") && (match k_ex m with
    | [(a, b, h, 13)] => decide (x = 0) && k_asb m h k pc' && k_cin m a b
    | [(a, b, h, 13), (a2, b2, h2, 19)] => k_cin m a b && k_cin m a2 b2 && ((decide (x = 0) && k_asb m h k pc') || (decide (x = 1) && k_asb m h2 k pc'))
    | _ => false)
theorem k_hok1 : ∀ m, m < k_nm → ∀ x, x < 2 → k_hok m x = true := by decide +kernel
theorem k_hd2a : ∀ q ∈ k_hds, q.1.2 < 2 := by decide +kernel
theorem k_hd2 {m x : Nat} {r : Nat × Nat} (h : k_hd m x = some r) : x < 2 := by
  have h1 : ((m, x), r) ∈ k_hds := by
    unfold k_hd at h
    revert h
    generalize k_hds = l
    induction l with
    | nil => intro h; simp at h
    | cons q t ih =>
      intro h
      obtain ⟨a, w⟩ := q
      simp only [List.lookup] at h
      split at h
      · rename_i he
        have h1 : (m, x) = a := by simpa using he
        cases h
        rw [h1]
        exact List.mem_cons_self
      · exact List.mem_cons_of_mem _ (ih h)
  exact k_hd2a _ h1
theorem k_cin_at {m a b pc i len a1 a2 pl : Nat} (h : k_cin m a b = true) (hx : (pc, Instr.invokevirtual i, len, a1, a2, pl) ∈ (k_t m).2.1) : a ≤ pc ∧ pc < b := by
  have h1 := List.all_eq_true.mp h _ hx
  simpa using h1
theorem k_cl13 : Jvm.Cond.classLink "TwinRoomsLaw" 13 (k_en 0) ∈ k_all := k_in_lk (c := 11) (by decide +kernel)
theorem k_cl19 : Jvm.Cond.classLink "TwinRoomsLaw" 19 (k_en 1) ∈ k_all := k_in_lk (c := 11) (by decide +kernel)
theorem k_not10 : Jvm.Cond.not (.castable (k_en 1) (k_en 0)) ∈ k_all := k_in_xw (List.mem_append_right _ (List.mem_append_right _ (List.mem_append_right _ (by simp [k_nw]))))
end Throw
end
section
/-! The small machine's runs are runs of the real one. -/
section Go
variable {l : Launch} {B b Ln : Nat} {xs : Nat → Int32} {dA : Nat → ClassId} {D : va_G}
def x_Pc (B b Ln : Nat) (xs : Nat → Int32) (dA : Nat → ClassId) (D : va_G) (as : List Value) (M : s_M) : Array Value → State → Prop := fun v U => v = (as.map (k_cv B b)).toArray ∧ k_I B b Ln xs dA D M U U.heap
def x_oc (B b : Nat) (oc : Outcome) (t : State) : i_O → Prop
  | .inl v => oc = .returned (v.map (k_cv B b))
  | .inr x => ∃ (q : Addr) (ce : Cell), oc = .threw q ∧ t.heap[q]? = some ce ∧ ce.vm = .none ∧ t.vm.findClass (k_en x) = some ce.cls
def x_Qc (B b Ln : Nat) (xs : Nat → Int32) (dA : Nat → ClassId) (D : va_G) (Q : i_O → s_M → Prop) : Array Value → State → Outcome → State → Prop := fun _ st oc t =>
  ∃ (o : i_O) (M' : s_M), Q o M' ∧ k_I B b Ln xs dA D M' t t.heap ∧ va_F (k_A B) st t ∧ x_oc B b oc t o
theorem x_blind (as : List Value) (M : s_M) : FrameBlind (x_Pc B b Ln xs dA D as M) := fun a U g mk h => h
theorem k_args (vs : List Value) : ∀ i, (lv_args i vs).map (k_cp B b) = lv_args i (vs.map (k_cv B b)) := by
  induction vs with
  | nil => intro i; rfl
  | cons v r ih =>
    intro i
    simp only [lv_args, List.map_cons, k_cv_cat, ih]
    rfl
theorem k_sl (vs : List Value) : (lg_sl vs).length = (vs.map fun v => v.category).sum := by
  induction vs with
  | nil => rfl
  | cons v r ih =>
    have h : lg_sl (v :: r) = (if v.category = 2 then [.val v, .second] else [.val v]) ++ lg_sl r := rfl
    rw [h, List.length_append, ih, List.map_cons, List.sum_cons]
    rcases lv_cat v with h1 | h1 <;> simp [h1]
theorem k_wsIn {m : Nat} (hm : m < k_nj) : ∀ w ∈ k_ws m, ∀ {args : Array Value} {s : State}, (∀ w ∈ k_all, w.before args s = true) → ∀ (a' : Array Value) (U : State), s.WarmedH U.vm → w.before a' U = true := by
  intro w hw args s hts a' U hW
  exact k_move (k_good w (k_wsSub m hm w hw)) hW (hts w (k_wsSub m hm w hw))
theorem w_met {m : Nat} (hm : m < k_nj) {as : List Value} {M : s_M} {Q : i_O → s_M → Prop} (hlen : (as.map fun v => v.category).sum ≤ (k_t m).2.2.1)
    (h : ∀ (p : Program) (e : Env) (s : State) (mI : MethodId) (args : Array Value) (below : List Frame) (meth : Method) (c : Code), x_C m p s mI args meth c →
      i_N p l e (k_rm m) s mI args below meth c (x_MQ below (x_Qc B b Ln xs dA D Q) args s (k_t m).2.2.2.2.1 (k_t m).2.2.2.2.2 (k_A B)) B b Ln xs dA D m (0, lv_args 0 as, [], M, 0, 0)) :
    x_Met l (k_y m) (k_ws m) (k_rm m) (x_Pc B b Ln xs dA D as M) (x_Qc B b Ln xs dA D Q) (k_t m).2.2.2.2.1 (k_t m).2.2.2.2.2 (k_A B) := by
  refine x_ofW (cc := k_by m) (mx := (k_t m).2.2.1) (ret := (k_t m).2.2.2.1) (hh := k_ex m) (k_plain hm) (fun args s hw => k_cd hw) ?_
  intro p e s mI args below meth c s₁ Bd hml hex hnm hws hv
  obtain ⟨rfl, hI⟩ := hv
  have CX : x_C m p s mI (as.map (k_cv B b)).toArray meth c := ⟨Bd.exec, Bd.bytes, hml, by rw [← k_ycls hm]; exact findClass_of_methodNamed Bd.named, fun w hw => hws w (k_allSub m w hw), Bd.returns, Bd.notSynchronized, hnm, hex⟩
  rw [lg_entry_eq]
  refine h p e s mI _ below meth c CX _ s.heap [] ?_ hI va_S.rf
  have h1 := lv_entry (as.map (k_cv B b)) (n := (k_t m).2.2.1) (by rw [k_sl, i_cat]; exact hlen)
  show lv_has _ _ ((lv_args 0 as).map (k_cp B b))
  rw [k_args]
  exact h1
/-- behind a call: what the callee left, seen from here -/
theorem w_behind {p : Program} {s t st₀ : State} {H : Heap} {locs L : List Loc} {M' : s_M} (hS : va_S (k_A B) s.heap H locs) (h0 : st₀.heap = H) (hF : va_F (k_A B) st₀ t) (hI : k_I B b Ln xs dA D M' t t.heap) (hW : s.WarmedH t.vm) (hL : ∀ q ∈ L, k_A B q.base) :
    k_I B b Ln xs dA D M' s t.heap ∧ va_S (k_A B) s.heap t.heap (locs ++ L) := by
  refine ⟨hI.moved hW.alike.symm, ?_⟩
  subst h0
  refine ⟨Nat.le_trans hS.1 hF.1, fun q h1 h2 => (hF.2 q (Nat.lt_of_lt_of_le h1 hS.1) h2).trans (hS.2.1 q h1 h2), fun q hq => ?_⟩
  rcases List.mem_append.mp hq with h | h
  · exact hS.2.2 q h
  · exact hL q h
set_option maxHeartbeats 1000000 in
theorem x_thr (htr : l.stackTraces = false) {m : Nat} {p : Program} {e : Env} {s : State} {mI : MethodId} {args : Array Value} {below : List Frame} {meth : Method} {c : Code} {Q : i_O → s_M → Prop} {H : Heap} {locs : List Loc} {cells slots i a1 a2 pc : Nat} {ls : Array Slot} {rest : List Value} {M : s_M}
    (CX : x_C m p s mI args meth c) (hm : m < k_nm) {pl : Nat} (hok : i_okb m pc (.new i) 3 a1 (a2 + 1) pl = true) (hd : decode (k_by m) pc = .ok (.new i, 3)) (hI : k_I B b Ln xs dA D M s H) (hS : va_S (k_A B) s.heap H locs) (hsz : ls.size = (k_t m).2.2.1) (hrm : (rest.map fun v => v.category).sum ≤ 8)
    (hce : cells + 1 ≤ (k_t m).2.2.2.2.1) (hsl : slots + 6 ≤ (k_t m).2.2.2.2.2) (hQ : Q (.inr a1) (M.1, M.2.1 + 1, M.2.2)) :
    W p l e (k_rm m) s mI args below meth c H locs cells slots (x_MQ below (x_Qc B b Ln xs dA D Q) args s (k_t m).2.2.2.2.1 (k_t m).2.2.2.2.2 (k_A B)) (F0 mI pc ls rest) := by
  obtain ⟨hx, hb, hml, hown, hts, hret, hlk, hnm, hex⟩ := id CX
  simp only [i_okb, Bool.and_eq_true, decide_eq_true_eq] at hok
  obtain ⟨-, ⟨⟨⟨⟨⟨⟨⟨⟨⟨hw, ha1⟩, hic⟩, hon⟩, d3⟩, d4⟩, d7⟩, hfr⟩, hlo⟩, hex0⟩⟩ := hok
  intro T hT X
  have htr' : e.platform.stackTraces = false := (show e.platform.stackTraces = l.stackTraces by rw [X.admits.platform]).trans htr
  have Y := x_again X (R' := { frames := (k_rm m).frames, locals := (k_rm m).locals, cells := 1, slots := 6 }) (Nat.le_refl _) (Nat.le_refl _) (by rw [k_rmC hm]; exact hce) (by rw [k_rmS hm]; exact hsl)
  obtain ⟨s', hs'⟩ : ∃ z, z = (T.setVm s.vm).setFrames (.invoking mI args :: below) := ⟨_, rfl⟩
  rw [← hs'] at Y
  have hvm : s'.vm = s.vm := by rw [hs']; rfl
  have hhp : s'.heap = H := by rw [hs']; exact hT
  have hW0 : s.WarmedH s'.vm := by rw [hvm]; exact State.WarmedH.refl s
  have hat : ∀ w ∈ k_xa a1, w.before args s' = true := fun w hw => by
    by_cases hb : k_hwb w = true
    · exact hI.2.2.2.2.2.1 s' args (by rw [hvm]; exact Vm.Alike.refl _) (fun q _ => by rw [hhp]) w (k_xhw a1 ha1 w (List.mem_filter.mpr ⟨hw, hb⟩))
    · have h1 := k_xin ha1 hw (by simpa using hb)
      exact k_move (k_good _ h1) hW0 (hts _ h1)
  have hlk1 := k_in_lk (List.mem_of_getElem? hw)
  have hk' : (Jvm.Cond.classLink (k_own m) i (k_en a1)).before args s' = true := k_move (k_good _ hlk1) hW0 (hts _ hlk1)
  have hini' : (Jvm.Cond.initialized (k_en a1)).before args s' = true := k_move (k_good _ (k_xini ha1).1) hW0 (hts _ (k_xini ha1).1)
  rw [hon] at hk' hown
  have hown' : s'.vm.findClass "TwinRooms" = some mI.cls := by rw [hvm]; exact hown
  have hins : (Jvm.Cond.instantiable (k_en a1) 6).before args s' = true := hat _ (by simp [k_xa, Jvm.Bundle.ownAtoms0])
  obtain ⟨vm₁, cX, kX, hfX, hkX, -, -, X₁, st1⟩ := Y.newCold hx (own := "TwinRooms") (C := k_en a1) (index := i) (n := 6) hown' hk' hins hini' (g := F0 mI pc ls rest) rfl (by rw [hb]; exact hd) (Nat.le_refl _) (Nat.le_refl _)
  generalize hT1 : (T.setVm vm₁).pushCell { cls := cX, slots := kX.instanceTypes.map defaultValue, vm := .none } = T1 at X₁ st1
  have hcat : (Value.ref T.heap.size).category = 1 := rfl
  have hcellA : T1.heap[T.heap.size]? = some (freshCell cX kX) := by rw [← hT1]; exact State.heap_pushCell_size _ _
  have d3' : decode c.code (pc + 3) = .ok (.dup, 1) := by rw [hb]; exact d3
  have hne : ∀ x ∈ c.exceptionTable.toList, covers x (pc + 4 + 3) = false := by
    rw [hex, hex0]
    intro x hx
    cases hx
  obtain ⟨U, hsteps, hrun, hend, hW, hsame, cx, hcx, hO⟩ := X₁.ctorThrow0 hx htr' (own := "TwinRooms") (cls := k_en a1) (names := k_xn) (ic := a2 + 1) hown' (k_xfit a1 ha1) k_nfit (by rw [← hic]; exact hat) (fun x hx => nomatch hx) hfX hkX hcellA (by rw [hhp, hT]; exact Nat.le_refl _)
    (g := { method := mI, pc := pc + 4, locals := ls, stack := .ref T.heap.size :: .ref T.heap.size :: rest, locked := none }) rfl (hsz.trans hml.symm) rfl rfl (rest := rest) rfl (by rw [hb]; exact d4) (by rw [hb]; exact d7) hne hfr
    (by
      show 2 * 0 + ((Value.ref T.heap.size :: rest).map fun v => v.category).sum + (13 * (2 + 1) + 41) ≤ (k_rm m).locals
      simp only [List.map_cons, List.sum_cons, hcat]
      omega) hlk
  have hsame' : s'.sameButNew ({ U with vm := s'.vm } : State) [] 1 6 := hsame
  obtain ⟨f1, f2, f3⟩ := x_kept hsame'
  rw [hhp] at f1 f2 f3
  have hWs : s.WarmedH U.vm := State.WarmedH.trans hW0 hW
  have hUs : U.heap.size = H.size + 1 := by
    have h1 : T.heap.size < U.heap.size := (Array.getElem?_eq_some_iff.mp hcx).1
    rw [hT] at h1
    omega
  have hcl : U.vm.findClass (k_en a1) = some cx.cls := by
    have h9 := hO.cls
    rw [hWs.alike.findClass, ← hvm]
    exact h9
  have hall : s.sameButNew ({ U with vm := s.vm } : State) locs (k_t m).2.2.2.2.1 (k_t m).2.2.2.2.2 := by
    subst hs'
    obtain ⟨e1, e2⟩ := hsame'
    rw [State.setFrames_setFrames] at e1
    have h2 : (T.setVm s.vm).sameButNew ({ U with vm := s.vm } : State) [] 1 6 := ⟨e1, e2⟩
    have h3 := X.same.trans h2
    rw [List.append_nil] at h3
    exact h3.mono hce hsl
  have hIU : k_I B b Ln xs dA D (M.1, M.2.1 + 1, M.2.2) U U.heap := (k_I_more hI hUs f3 (fun cell hc => by
    rw [← hT] at hc
    cases Option.some.inj (hcx.symm.trans hc)
    exact hO.vm)).moved hWs.alike
  refine ⟨U, ?_, .threw T.heap.size, hrun, hend, ⟨.inr a1, _, hQ, hIU, ⟨Nat.le_trans hS.1 f1, fun q h1 h2 => (f3 q (Nat.lt_of_lt_of_le h1 hS.1)).trans (hS.2.1 q h1 h2)⟩, T.heap.size, cx, rfl, hcx, hO.vm, hcl⟩, hWs, locs, hall, hS.2.2⟩
  refine st1 _ ?_
  show Steps p.tables e below (T1.setTop { method := mI, pc := pc + 3, locals := ls, stack := .ref T.heap.size :: rest, locked := none }) _
  jvm_step X₁.here [X₁.here.top, hx, d3', Value.category]
  exact hsteps
set_option maxHeartbeats 1000000 in
theorem x_cat {m : Nat} {p : Program} {e : Env} {s t : State} {mI : MethodId} {args : Array Value} {below : List Frame} {meth : Method} {c : Code} {Q : i_O → s_M → Prop} {locs : List Loc} {cells slots i a1 a2 pc pl x : Nat} {ls : Array Slot} {rest : List Value} {L : i_L} {M : s_M} {q : Addr} {ce : Cell}
    (CX : x_C m p s mI args meth c) (hm : m < k_nm) (hx : (pc, Instr.invokevirtual i, 3, a1, a2, pl) ∈ (k_t m).2.1) (hl : lv_has ls (k_t m).2.2.1 (L.map (k_cp B b))) (hI : k_I B b Ln xs dA D M s t.heap) (hS : va_S (k_A B) s.heap t.heap locs) (hW : s.WarmedH t.vm)
    (hcell : t.heap[q]? = some ce) (hcv : ce.vm = .none) (hcl : t.vm.findClass (k_en x) = some ce.cls) (hce : cells ≤ (k_t m).2.2.2.2.1) (hsl : slots ≤ (k_t m).2.2.2.2.2)
    (hn : k_hd m x = none → k_ex m = [] ∧ Q (.inr x) M)
    (hk : ∀ pc' k, k_hd m x = some (pc', k) → i_N p l e (k_rm m) s mI args below meth c (x_MQ below (x_Qc B b Ln xs dA D Q) args s (k_t m).2.2.2.2.1 (k_t m).2.2.2.2.2 (k_A B)) B b Ln xs dA D m (pc', L.filter (fun q => !(q.1 == k) && !(q.1 + 1 == k && q.2.category == 2)), [], M, cells, slots)) :
    x_W p l e (k_rm m) s mI args below meth c t.heap locs cells slots (x_MQ below (x_Qc B b Ln xs dA D Q) args s (k_t m).2.2.2.2.1 (k_t m).2.2.2.2.2 (k_A B)) (F0 mI pc ls rest) q := by
  obtain ⟨hx', hb, hml, hown, hts, hret, hlk, hnm, hex⟩ := id CX
  cases hhd : k_hd m x with
  | none =>
    obtain ⟨h0, hQ⟩ := hn hhd
    refine x_out ?_ hlk ?_ hS.2.2 hce hsl
    · rw [hex, h0]
      intro z hz
      cases hz
    · intro u hu hWu
      refine ⟨.inr x, M, hQ, by rw [hu]; exact hI.moved hWu.alike, hS.F hu, q, ce, rfl, by rw [hu]; exact hcell, hcv, ?_⟩
      rw [hWu.alike.findClass, ← hW.alike.findClass]
      exact hcl
  | some r =>
    obtain ⟨pc', k⟩ := r
    have hx2 := k_hd2 hhd
    have hkn := hk pc' k hhd
    have hcs : s.vm.findClass (k_en x) = some ce.cls := by rw [← hW.alike.findClass]; exact hcl
    have hchk := k_hok1 m hm x hx2
    unfold k_hok at hchk
    rw [hhd] at hchk
    simp only [Bool.and_eq_true, decide_eq_true_eq] at hchk
    obtain ⟨⟨hkm, hlaw⟩, hrow⟩ := hchk
    rw [hlaw] at hown
    -- behind the handler's first instruction
    have behind : ∀ h : Nat, k_asb m h k pc' = true → W p l e (k_rm m) s mI args below meth c t.heap locs cells slots (x_MQ below (x_Qc B b Ln xs dA D Q) args s (k_t m).2.2.2.2.1 (k_t m).2.2.2.2.2 (k_A B)) (F0 mI h ls [.ref q]) := by
      intro h hab
      unfold k_asb at hab
      simp only [Bool.or_eq_true, Bool.and_eq_true, decide_eq_true_eq] at hab
      rcases hab with ⟨hd1, rfl⟩ | ⟨⟨hk4, hd1⟩, rfl⟩
      · exact lv_astore hx' hb hd1 hl hkm rfl (fun ls' h' => hkn ls' t.heap locs (i_drop_map k h') hI hS)
      · exact lv_astore_n (i := k) hx' hb hd1 (by show k % 4 = k; omega) hl hkm rfl (fun ls' h' => hkn ls' t.heap locs (i_drop_map k h') hI hS)
    intro T hT X
    have hpl : e.platform.magicAccessors = ({} : Platform).magicAccessors := by rw [X.admits.platform]
    obtain ⟨c0, hc0, hl0⟩ := Cond.classLink_spec hown (hts _ k_cl13) e.platform hpl
    obtain ⟨c1, hc1, hl1⟩ := Cond.classLink_spec hown (hts _ k_cl19) e.platform hpl
    have hself : s.vm.assignable ce.cls ce.cls = true := by
      obtain ⟨c3, c4, q3, q4, hasg⟩ := Cond.castable_spec (hts _ (k_xini hx2).2)
      cases Option.some.inj (q3.symm.trans hcs)
      cases Option.some.inj (q4.symm.trans hcs)
      exact hasg
    have hkc : ∃ kc, s.vm.classes[ce.cls]? = some kc := by obtain ⟨k9, h9, -⟩ := Vm.findClass_spec hcs; exact ⟨k9, h9⟩
    have hcT : T.heap[q]? = some ce := by rw [hT]; exact hcell
    have hmT : ((T.setTop (F0 mI pc ls rest)).pushFrame (.throwing q)).vm.method? (F0 mI pc ls rest).method = some meth := X.method'
    have goal : ∀ (vm' : Vm) (h : Nat), s.WarmedH vm' → k_asb m h k pc' = true → (∀ (Q : Handler → Pre) (E : CtlPost) (d : Bool) (acts : List Action), wp (findHandler (F0 mI pc ls rest) q) Q E e d acts ((T.setTop (F0 mI pc ls rest)).pushFrame (.throwing q)) ↔ Q (.found h) d acts (((T.setTop (F0 mI pc ls rest)).pushFrame (.throwing q)).setVm vm')) →
        ∃ u, Steps p.tables e below ((T.setTop (F0 mI pc ls rest)).pushFrame (.throwing q)) u ∧ x_MQ below (x_Qc B b Ln xs dA D Q) args s (k_t m).2.2.2.2.1 (k_t m).2.2.2.2.2 (k_A B) u := by
      intro vm' h hWv hab hfd
      obtain ⟨u, a1, b1⟩ := behind h hab (T.setVm vm') hT (X.noted hWv)
      exact ⟨u, x_found (T := T) (g := F0 mI pc ls rest) X.here hfd a1, b1⟩
    have hcov : ∀ (a b' h ct : Nat), k_cin m a b' = true → covers (⟨a, b', h, ct⟩ : ExceptionTableEntry) (F0 mI pc ls rest).pc = true := by
      intro a b' h ct hci
      obtain ⟨g1, g2⟩ := k_cin_at hci hx
      show (decide (a ≤ pc) && decide (pc < b')) = true
      rw [decide_eq_true g1, decide_eq_true g2]
      rfl
    split at hrow
    · rename_i a b' h hexm
      simp only [Bool.and_eq_true, decide_eq_true_eq] at hrow
      obtain ⟨⟨rfl, hab⟩, hci⟩ := hrow
      cases Option.some.inj (hc0.symm.trans hcs)
      obtain ⟨vm', hWv, hq⟩ := x_look (e := e) (S := (T.setTop (F0 mI pc ls rest)).pushFrame (.throwing q)) (g := F0 mI pc ls rest) (q := q) (z := ⟨a, b', h, 13⟩) (rest := []) X.warmed (hcov a b' h 13 hci) (fun h => by cases h) hl0 hcT hcv hkc
      refine goal vm' h hWv hab (fun Q E d acts => ?_)
      rw [W.findHandler_eq hmT X.code, hex, hexm]
      have h1 := hq Q E d acts
      rw [if_pos hself] at h1
      exact h1
    · rename_i a b' h a2 b2 h2 hexm
      simp only [Bool.and_eq_true, Bool.or_eq_true, decide_eq_true_eq] at hrow
      obtain ⟨⟨hci, hci2⟩, hor⟩ := hrow
      rcases hor with ⟨rfl, hab⟩ | ⟨rfl, hab⟩
      · cases Option.some.inj (hc0.symm.trans hcs)
        obtain ⟨vm', hWv, hq⟩ := x_look (e := e) (S := (T.setTop (F0 mI pc ls rest)).pushFrame (.throwing q)) (g := F0 mI pc ls rest) (q := q) (z := ⟨a, b', h, 13⟩) (rest := [⟨a2, b2, h2, 19⟩]) X.warmed (hcov a b' h 13 hci) (fun h => by cases h) hl0 hcT hcv hkc
        refine goal vm' h hWv hab (fun Q E d acts => ?_)
        rw [W.findHandler_eq hmT X.code, hex, hexm]
        have h1 := hq Q E d acts
        rw [if_pos hself] at h1
        exact h1
      · cases Option.some.inj (hc1.symm.trans hcs)
        have hno : ¬ s.vm.assignable ce.cls c0 = true := by
          obtain ⟨cc, tt, q1, q2, q3⟩ := va_Nc.of (hts _ k_not10)
          cases Option.some.inj (q1.symm.trans hcs)
          cases Option.some.inj (q2.symm.trans hc0)
          rw [q3]
          decide
        obtain ⟨vm1, hWv1, hq1⟩ := x_look (e := e) (S := (T.setTop (F0 mI pc ls rest)).pushFrame (.throwing q)) (g := F0 mI pc ls rest) (q := q) (z := ⟨a, b', h, 13⟩) (rest := [⟨a2, b2, h2, 19⟩]) X.warmed (hcov a b' h 13 hci) (fun h => by cases h) hl0 hcT hcv hkc
        obtain ⟨vm2, hWv2, hq2⟩ := x_look (e := e) (S := ((T.setTop (F0 mI pc ls rest)).pushFrame (.throwing q)).setVm vm1) (g := F0 mI pc ls rest) (q := q) (z := ⟨a2, b2, h2, 19⟩) (rest := []) hWv1 (hcov a2 b2 h2 19 hci2) (fun h => by cases h) hl1 hcT hcv hkc
        refine goal vm2 h2 hWv2 hab (fun Q E d acts => ?_)
        rw [W.findHandler_eq hmT X.code, hex, hexm]
        have h1 := hq1 Q E d acts
        rw [if_neg hno] at h1
        have h2' := hq2 Q E d acts
        rw [if_pos hself] at h2'
        exact h1.trans h2'
    · cases hrow
theorem w_call {m j : Nat} {p : Program} {e : Env} {s : State} {mI : MethodId} {args : Array Value} {below : List Frame} {meth : Method} {c : Code} {Qw : State → Prop} {Qj : i_O → s_M → Prop} {pc ce sl : Nat} {L : i_L} {as rest st : List Value} {M : s_M} {ig : Instr}
    (CX : x_C m p s mI args meth c) (hm : m < k_nm) (hj : j < k_nj) (hd : decode (k_by m) pc = .ok (ig, 3)) (hfr : (k_rm j).frames + 1 ≤ (k_rm m).frames) (hlo : 8 + ((k_t j).2.2.1 + 11) + (k_rm j).locals ≤ (k_rm m).locals)
    (hrn : i_rn rest as (k_t j).2.2.1 = true) (hce : ce + (k_t j).2.2.2.2.1 ≤ (k_t m).2.2.2.2.1) (hsl : sl + (k_t j).2.2.2.2.2 ≤ (k_t m).2.2.2.2.2)
    (hmet : x_Met l (k_y j) (k_ws j) (k_rm j) (x_Pc B b Ln xs dA D as M) (x_Qc B b Ln xs dA D Qj) (k_t j).2.2.2.2.1 (k_t j).2.2.2.2.2 (k_A B))
    (front : ∀ (ls : Array Slot) (H : Heap) (locs : List Loc) (T : State), k_I B b Ln xs dA D M s H → T.heap = H → Stand p l e (k_rm m) s mI args below meth c T locs ce sl → x_Fr p l e (k_rm m) s mI args below meth c T locs ce sl (F0 mI pc ls (st.map (k_cv B b))) (rest.map (k_cv B b)) (k_y j) (as.map (k_cv B b)))
    (kr : ∀ (v : Option Value) (M' : s_M), Qj (.inl v) M' → i_N p l e (k_rm m) s mI args below meth c Qw B b Ln xs dA D m (pc + 3, L, v.toList ++ rest, M', ce + (k_t j).2.2.2.2.1, sl + (k_t j).2.2.2.2.2))
    (kx : ∀ (x : Nat) (M' : s_M), Qj (.inr x) M' → ∀ (ls : Array Slot) (t : State) (locs : List Loc) (q : Addr) (cx : Cell), lv_has ls (k_t m).2.2.1 (L.map (k_cp B b)) → k_I B b Ln xs dA D M' s t.heap → va_S (k_A B) s.heap t.heap locs → s.WarmedH t.vm → t.heap[q]? = some cx → cx.vm = .none → t.vm.findClass (k_en x) = some cx.cls →
      x_W p l e (k_rm m) s mI args below meth c t.heap locs (ce + (k_t j).2.2.2.2.1) (sl + (k_t j).2.2.2.2.2) Qw (F0 mI pc ls (rest.map (k_cv B b))) q) :
    i_N p l e (k_rm m) s mI args below meth c Qw B b Ln xs dA D m (pc, L, st, M, ce, sl) := by
  intro ls H locs hl hI hS
  have hl : lv_has ls (k_t m).2.2.1 (L.map (k_cp B b)) := hl
  have hI : k_I B b Ln xs dA D M s H := hI
  obtain ⟨hx, hb, hml, hown, hts, -⟩ := id CX
  have hRc : (k_rm m).cells = (k_t m).2.2.2.2.1 := k_rmC hm
  have hRs : (k_rm m).slots = (k_t m).2.2.2.2.2 := k_rmS hm
  simp only [i_rn, i_rm, Bool.and_eq_true] at hrn
  refine x_call (As := as.map (k_cv B b)) (rest := rest.map (k_cv B b)) hb hd (hl.1.trans hml.symm) (fun T hT X => front ls H locs T hI hT X) hmet (x_blind as M) (k_rmC (Nat.lt_of_lt_of_le hj (by decide))) (k_rmS (Nat.lt_of_lt_of_le hj (by decide))) hfr hlo (fun w hw a' U hW => k_wsIn hj w hw hts a' U hW)
    (fun a' U hw => k_cd hw) (fun a' U hW => k_move (k_good _ (k_jini hj)) hW (hts _ (k_jini hj))) (by rw [i_cat]; exact Nat.le_of_ble_eq_true hrn.1) (by rw [hRc]; exact hce) (by rw [hRs]; exact hsl) (fun U hU hW => ⟨rfl, by rw [hU]; exact hI.moved hW.alike⟩) ?_ ?_
  · intro v st₀ t L2 h0 hq hW hL
    obtain ⟨o, M', hQ, hI', hF, hoc⟩ := hq
    obtain ⟨g1, g2⟩ := w_behind (p := p) hS h0 hF hI' hW hL
    cases o with
    | inl v' =>
      cases hoc
      have h1 := kr v' M' hQ ls t.heap (locs ++ L2) hl g1 g2
      have h2 : (v'.toList ++ rest).map (k_cv B b) = (v'.map (k_cv B b)).toList ++ rest.map (k_cv B b) := by cases v' <;> rfl
      show W p l e (k_rm m) s mI args below meth c t.heap (locs ++ L2) _ _ Qw (F0 mI (pc + 3) ls ((v'.map (k_cv B b)).toList ++ rest.map (k_cv B b)))
      rw [← h2]
      exact h1
    | inr x =>
      obtain ⟨q, cx, h1, -⟩ := hoc
      cases h1
  · intro q st₀ t L2 h0 hq hW hL
    obtain ⟨o, M', hQ, hI', hF, hoc⟩ := hq
    obtain ⟨g1, g2⟩ := w_behind (p := p) hS h0 hF hI' hW hL
    cases o with
    | inl v' => cases hoc
    | inr x =>
      obtain ⟨q', cx, h1, h2, h3, h4⟩ := hoc
      cases h1
      exact kx x M' hQ ls t (locs ++ L2) q cx hl g1 g2 hW h2 h3 h4
theorem w_split {st : List Value} {n : Nat} : st = ((st.take n).reverse).reverse ++ st.drop n := by rw [List.reverse_reverse, List.take_append_drop]
set_option maxHeartbeats 4000000 in
theorem w_go (htr : l.stackTraces = false) : ∀ (n m : Nat), m < k_nm → ∀ (x : i_C) (Q : i_O → s_M → Prop), w_ex xs Ln n (k_t m) x Q → ∀ (p : Program) (e : Env) (s : State) (mI : MethodId) (args : Array Value) (below : List Frame) (meth : Method) (c : Code), x_C m p s mI args meth c →
    i_N p l e (k_rm m) s mI args below meth c (x_MQ below (x_Qc B b Ln xs dA D Q) args s (k_t m).2.2.2.2.1 (k_t m).2.2.2.2.2 (k_A B)) B b Ln xs dA D m x := by
  intro n
  induction n with
  | zero =>
    intro m hm x Q h
    exact absurd h (by unfold w_ex; exact id)
  | succ n ih =>
    intro m hm x Q h p e s mI args below meth c CX
    obtain ⟨pc, L, st, M, ce, sl⟩ := x
    unfold w_ex at h
    split at h
    · exact h.elim
    · rename_i ins len a1 a2 pl hat
      have hmem : (pc, ins, len, a1, a2, pl) ∈ (k_t m).2.1 := i_mem hat
      have hd : decode (k_by m) pc = .ok (ins, len) := (k_code hm _ hmem).1
      have hok : i_okb m pc ins len a1 a2 pl = true := (k_code hm _ hmem).2
      obtain ⟨hx, hb, hml, hown, hts, hret, hlk, hnm, hex⟩ := id CX
      have hRc : (k_rm m).cells = (k_t m).2.2.2.2.1 := k_rmC hm
      have hRs : (k_rm m).slots = (k_t m).2.2.2.2.2 := k_rmS hm
      split at h
      · -- ireturn
        simp only [i_okb, decide_eq_true_eq] at hok
        subst hok
        split at h
        · rename_i v
          obtain ⟨hty, ⟨hce, hsl⟩, hQ⟩ := h
          intro ls H locs hl hI hS
          refine W.widen hce hsl (x_ret ?_)
          have hend : ∀ t : State, t.heap = H → s.WarmedH t.vm → x_Qc B b Ln xs dA D Q args s (.returned (some (.int v))) t := fun t ht hW => ⟨.inl (some (.int v)), M, hQ, by rw [ht]; exact hI.moved hW.alike, hS.F ht, rfl⟩
          split at hty
          · rename_i hr
            exact W.iret hx hb (hret.trans hr) hend hS.2.2 hd hlk
          · rename_i hr
            exact W.zret hx hb (hret.trans hr) (by rcases hty with h | h <;> subst h <;> rfl) hend hS.2.2 hd hlk
          · exact hty.elim
        · exact h.elim
      · -- lreturn
        simp only [i_okb, decide_eq_true_eq] at hok
        subst hok
        split at h
        · rename_i v
          obtain ⟨⟨hce, hsl⟩, hQ⟩ := h
          intro ls H locs hl hI hS
          refine W.widen hce hsl (x_ret ?_)
          exact W.lret hx hb (hret.trans (k_retl hm hmem)) (fun t ht hW => ⟨.inl (some (.long v)), M, hQ, by rw [ht]; exact hI.moved hW.alike, hS.F ht, rfl⟩) hS.2.2 hd hlk
        · exact h.elim
      · -- areturn
        simp only [i_okb, decide_eq_true_eq] at hok
        subst hok
        split at h
        · rename_i v
          obtain ⟨⟨hce, hsl⟩, hQ⟩ := h
          intro ls H locs hl hI hS
          refine W.widen hce hsl (x_ret ?_)
          obtain ⟨cn, hcn⟩ := k_reta hm hmem
          exact W.aret hx hb (hret.trans hcn) (Or.inl ⟨cn, rfl⟩) (Or.inr ⟨_, rfl⟩) (fun t ht hW => ⟨.inl (some (.ref v)), M, hQ, by rw [ht]; exact hI.moved hW.alike, hS.F ht, rfl⟩) hS.2.2 hd hlk
        · exact h.elim
      · -- return
        simp only [i_okb, decide_eq_true_eq] at hok
        subst hok
        split at h
        · obtain ⟨⟨hce, hsl⟩, hQ⟩ := h
          intro ls H locs hl hI hS
          refine W.widen hce hsl (x_ret ?_)
          exact W.vret hx hb (hret.trans (k_retv hm hmem)) (fun t ht hW => ⟨.inl none, M, hQ, by rw [ht]; exact hI.moved hW.alike, hS.F ht, rfl⟩) hS.2.2 hd hlk
        · exact h.elim
      · -- invokespecial
        split at h
        · simp only [i_okb, Bool.and_eq_true, decide_eq_true_eq] at hok
          obtain ⟨⟨⟨rfl, hw⟩, hf⟩, hlo⟩ := hok
          split at h
          · rename_i a r
            obtain ⟨hrm, h'⟩ := h
            intro ls H locs hl hI hS
            have hl1 : ls.size = (k_t m).2.2.1 := hl.1
            have hr8 := Nat.le_of_ble_eq_true hrm
            refine W.objInit hx hb hown (i_word hts hw) (hts _ k_oi1) (hts _ k_oi2) rfl (hl1.trans hml.symm) (rest := r.map (k_cv B b)) (a := B + a) rfl hd hf ?_ (ih m hm _ Q h' p e s mI args below meth c CX ls H locs hl hI hS)
            rw [i_cat]
            show 2 * 0 + _ + 12 ≤ _
            omega
          · exact h.elim
        · rename_i na
          simp only [i_okb, Bool.and_eq_true, Bool.or_eq_true, decide_eq_true_eq] at hok
          obtain ⟨⟨⟨⟨⟨⟨rfl, hj⟩, hkd⟩, hpn⟩, hw⟩, hfr⟩, hlo⟩ := hok
          obtain ⟨hrn, hlen, hrf, ⟨hce, hsl⟩, h'⟩ := h
          have hrn2 : i_rm (st.drop (na + 1)) = true ∧ Nat.ble (((st.take (na + 1)).reverse.map fun v => v.category).sum) (k_t a1).2.2.1 = true := by simpa only [i_rn, Bool.and_eq_true] using hrn
          refine w_call (j := a1) CX hm hj hd hfr hlo hrn hce hsl (w_met hj (Nat.le_of_ble_eq_true hrn2.2) (fun p e s mI args below meth c CX => ih a1 (Nat.lt_of_lt_of_le hj (by decide)) _ _ h' p e s mI args below meth c CX)) ?_ (fun v M' hv => ih m hm _ Q hv p e s mI args below meth c CX) (fun x M' hv => hv.elim)
          intro ls H locs T hI hT X
          have hst : st = ((st.take (na + 1)).reverse).reverse ++ st.drop (na + 1) := w_split
          cases has : (st.take (na + 1)).reverse with
          | nil => rw [has] at hrf; exact hrf.elim
          | cons v0 As =>
            rw [has] at hrf hst
            cases v0 <;> first | exact hrf.elim | skip
            rename_i a
            obtain ⟨hn1, hn2, hn3⟩ := k_jspec hj hkd
            have hcnt : As.length = na := by
              have h1 : ((st.take (na + 1)).reverse).length = na + 1 := by rw [List.length_reverse, List.length_take]; omega
              rw [has] at h1
              simpa using h1
            have hstk : (F0 mI pc ls (st.map (k_cv B b))).stack = (As.map (k_cv B b)).reverse ++ .ref (B + a) :: (st.drop (na + 1)).map (k_cv B b) := by
              show st.map (k_cv B b) = _
              conv => lhs; rw [hst]
              simp [k_cv]
            have hlen2 : ∀ sig, parseMethodDescriptor (k_y a1).desc = some sig → (As.map (k_cv B b)).length = sig.parameters.length := fun sig h => by
              rw [List.length_map, hcnt, ← hpn]
              exact k_jpn hj h
            rcases hw with hw | hw
            · exact x_frI X hx hown hn1 (i_word hts hw) (hts _ hn2) (hts _ hn3) (k_jmh hj) rfl hlen2 hstk (by rw [hb]; exact hd)
            · exact x_frIN X hx hown hn1 (i_word hts hw) (hts _ hn2) (hts _ hn3) (k_jmh hj) rfl hlen2 hstk (by rw [hb]; exact hd)
      · -- invokestatic
        split at h
        · simp only [i_okb, Bool.and_eq_true, decide_eq_true_eq] at hok
          obtain ⟨⟨⟨rfl, hw⟩, hf⟩, hlo⟩ := hok
          split at h
          · rename_i y x r
            obtain ⟨hrm, hcs, h'⟩ := h
            intro ls H locs hl hI hS
            have hl1 : ls.size = (k_t m).2.2.1 := hl.1
            have hr8 := Nat.le_of_ble_eq_true hrm
            exact va_mmax hx hb (hml.trans hl1.symm) hown (i_word hts hw) (hts _ k_mm1) (hts _ k_mm2) (hts _ k_mm3) hf (by rw [i_cat]; omega) (by rw [hRc]; exact hcs.1) (by rw [hRs]; exact hcs.2) hd (ih m hm _ Q h' p e s mI args below meth c CX ls H locs hl hI hS)
          · exact h.elim
        · rename_i na
          simp only [i_okb, Bool.and_eq_true, decide_eq_true_eq] at hok
          obtain ⟨⟨⟨⟨⟨⟨rfl, hj⟩, hkd⟩, hpn⟩, hw⟩, hfr⟩, hlo⟩ := hok
          obtain ⟨hrn, hlen, ⟨hce, hsl⟩, h'⟩ := h
          have hrn2 : i_rm (st.drop na) = true ∧ Nat.ble (((st.take na).reverse.map fun v => v.category).sum) (k_t a1).2.2.1 = true := by simpa only [i_rn, Bool.and_eq_true] using hrn
          refine w_call (j := a1) CX hm hj hd hfr hlo hrn hce hsl (w_met hj (Nat.le_of_ble_eq_true hrn2.2) (fun p e s mI args below meth c CX => ih a1 (Nat.lt_of_lt_of_le hj (by decide)) _ _ h' p e s mI args below meth c CX)) ?_ (fun v M' hv => ih m hm _ Q hv p e s mI args below meth c CX) (fun x M' hv => hv.elim)
          intro ls H locs T hI hT X
          have hst : st = ((st.take na).reverse).reverse ++ st.drop na := w_split
          have hcnt : ((st.take na).reverse).length = na := by rw [List.length_reverse, List.length_take]; omega
          have hstk : (F0 mI pc ls (st.map (k_cv B b))).stack = ((st.take na).reverse.map (k_cv B b)).reverse ++ (st.drop na).map (k_cv B b) := by
            show st.map (k_cv B b) = _
            rw [← List.map_reverse, ← List.map_append, ← hst]
          exact x_frS X hx hown (i_word hts hw) (hts _ (k_jstat hj hkd)) (hts _ (k_jini hj)) (k_cd (fun w hw => hts w (k_wsSub a1 hj w hw))) (k_jmh hj) rfl (fun sig h => by rw [List.length_map, hcnt, ← hpn]; exact k_jpn hj h) hstk (by rw [hb]; exact hd)
      · -- invokevirtual
        simp only [i_okb, Bool.and_eq_true, decide_eq_true_eq] at hok
        obtain ⟨⟨⟨⟨⟨⟨rfl, hj⟩, hkd⟩, hpn⟩, hw⟩, hfr⟩, hlo⟩ := hok
        obtain ⟨hrn, hlen, hrc, ⟨hce, hsl⟩, h'⟩ := h
        have hrn2 : i_rm (st.drop (a2 + 1)) = true ∧ Nat.ble (((st.take (a2 + 1)).reverse.map fun v => v.category).sum) (k_t a1).2.2.1 = true := by simpa only [i_rn, Bool.and_eq_true] using hrn
        refine w_call (j := a1) CX hm hj hd hfr hlo hrn hce hsl (w_met hj (Nat.le_of_ble_eq_true hrn2.2) (fun p e s mI args below meth c CX => ih a1 (Nat.lt_of_lt_of_le hj (by decide)) _ _ h' p e s mI args below meth c CX)) ?_ (fun v M' hv => ih m hm _ Q hv p e s mI args below meth c CX) ?_
        · intro ls H locs T hI hT X
          have hst : st = ((st.take (a2 + 1)).reverse).reverse ++ st.drop (a2 + 1) := w_split
          cases has : (st.take (a2 + 1)).reverse with
          | nil => rw [has] at hrc; exact hrc.elim
          | cons v0 As =>
            rw [has] at hrc hst
            cases v0 <;> first | exact hrc.elim | skip
            rename_i a
            have hM : M.1[a]? = some (.inl (k_rc a1)) := hrc
            obtain ⟨hn1, hn2, hn3, hn4⟩ := k_jvirt hj hkd
            have hcnt : As.length = a2 := by
              have h1 : ((st.take (a2 + 1)).reverse).length = a2 + 1 := by rw [List.length_reverse, List.length_take]; omega
              rw [has] at h1
              simpa using h1
            have hstk : (F0 mI pc ls (st.map (k_cv B b))).stack = (As.map (k_cv B b)).reverse ++ .ref (B + a) :: (st.drop (a2 + 1)).map (k_cv B b) := by
              show st.map (k_cv B b) = _
              conv => lhs; rw [hst]
              simp [k_cv]
            have hlen2 : ∀ sig, parseMethodDescriptor (k_y a1).desc = some sig → (As.map (k_cv B b)).length = sig.parameters.length := fun sig h => by
              rw [List.length_map, hcnt, ← hpn]
              exact k_jpn hj h
            obtain ⟨ja, rfl⟩ := k_pos hI hM (by intro h; cases h)
            obtain ⟨r', hr', cellB, g1, g2, g3, -⟩ := hI.2.2.1 ja _ (s_w_at hM)
            have hcls := (hI.2.2.2.1.1 _ _ (k_cl_at hn3)).2.1
            exact x_frV (C := k_cn (k_rc a1)) X hx hown (i_word hts hw) (hts _ hn1) (by rw [hn4]; exact hts _ hn2) (k_cd (fun w hw => hts w (k_wsSub a1 hj w hw))) (k_jmh hj) (b := B + (ja + 1)) (cellB := cellB) (by rw [hT]; exact g1) (by rw [g3]; rfl) (by rw [g2]; exact hcls) rfl hlen2 hstk (by rw [hb]; exact hd)
        · intro x M' hv ls t locs q cx hl hI hS hW hc1 hc2 hc3
          refine x_cat (x := x) CX hm hmem hl hI hS hW hc1 hc2 hc3 hce hsl (fun hn => ?_) (fun pc' k hk => ?_)
          · have hv2 : (match k_hd (k_t m).1 x with
              | none => k_ex (k_t m).1 = [] ∧ Q (.inr x) M'
              | some (pc', k) => w_ex xs Ln n (k_t m) (pc', L.filter (fun q => !(q.1 == k) && !(q.1 + 1 == k && q.2.category == 2)), [], M', ce + (k_t a1).2.2.2.2.1, sl + (k_t a1).2.2.2.2.2) Q) := hv
            rw [k_num hm] at hv2
            simp only [hn] at hv2
            exact hv2
          · have hv2 : (match k_hd (k_t m).1 x with
              | none => k_ex (k_t m).1 = [] ∧ Q (.inr x) M'
              | some (pc', k) => w_ex xs Ln n (k_t m) (pc', L.filter (fun q => !(q.1 == k) && !(q.1 + 1 == k && q.2.category == 2)), [], M', ce + (k_t a1).2.2.2.2.1, sl + (k_t a1).2.2.2.2.2) Q) := hv
            rw [k_num hm] at hv2
            simp only [hk] at hv2
            exact ih m hm _ Q hv2 p e s mI args below meth c CX
      · -- new
        split at h
        · split at h
          · exact h.elim
          · rename_i P c' hst
            exact i_go CX hRc hRs hok hd hst h.1 (ih m hm c' Q h.2 p e s mI args below meth c CX)
        · rename_i a2' hne
          obtain ⟨hrm, ⟨hce, hsl⟩, hQ⟩ := h
          intro ls H locs hl hI hS
          have hl1 : ls.size = (k_t m).2.2.1 := hl.1
          obtain ⟨ic, rfl⟩ : ∃ ic, a2 = ic + 1 := by
            cases a2 with
            | zero => exact absurd rfl hne
            | succ ic => exact ⟨ic, rfl⟩
          have hlen : len = 3 := by
            simp only [i_okb, Bool.and_eq_true, decide_eq_true_eq] at hok
            exact hok.1
          subst hlen
          exact x_thr htr CX hm hok hd hI hS hl1 (by rw [i_cat]; exact Nat.le_of_ble_eq_true hrm) hce hsl hQ
      · -- all else
        split at h
        · exact h.elim
        · rename_i P c' hst
          exact i_go CX hRc hRs hok hd hst h.1 (ih m hm c' Q h.2 p e s mI args below meth c CX)
end Go
end
section
/-! Rules for runs of the small machine: more time, one end, calls. -/
section Rules
variable {xs : Nat → Int32} {Ln : Nat}
theorem w_lift {n n' : Nat} (ih : ∀ (t : i_T) (x : i_C) (Q Q' : i_O → s_M → Prop), (∀ o M, Q o M → Q' o M) → w_ex xs Ln n t x Q → w_ex xs Ln n' t x Q') :
    ∀ (t : i_T) (x : i_C) (Q Q' : i_O → s_M → Prop), (∀ o M, Q o M → Q' o M) → w_ex xs Ln (n + 1) t x Q → w_ex xs Ln (n' + 1) t x Q' := by
  intro t x Q Q' hQ h
  obtain ⟨pc, L, st, M, ce, sl⟩ := x
  unfold w_ex at h ⊢
  split at h
  · exact h.elim
  · rename_i ins len a1 a2 pl hat
    split at h
    · split at h
      · exact ⟨h.1, h.2.1, hQ _ _ h.2.2⟩
      · exact h.elim
    · split at h
      · exact ⟨h.1, hQ _ _ h.2⟩
      · exact h.elim
    · split at h
      · exact ⟨h.1, hQ _ _ h.2⟩
      · exact h.elim
    · split at h
      · exact ⟨h.1, hQ _ _ h.2⟩
      · exact h.elim
    · split at h
      · split at h
        · exact ⟨h.1, ih _ _ _ _ hQ h.2⟩
        · exact h.elim
      · refine ⟨h.1, h.2.1, h.2.2.1, h.2.2.2.1, ih _ _ _ _ (fun o M' ho => ?_) h.2.2.2.2⟩
        cases o with
        | inl v => exact ih _ _ _ _ hQ ho
        | inr x => exact ho
    · split at h
      · split at h
        · exact ⟨h.1, h.2.1, ih _ _ _ _ hQ h.2.2⟩
        · exact h.elim
      · refine ⟨h.1, h.2.1, h.2.2.1, ih _ _ _ _ (fun o M' ho => ?_) h.2.2.2⟩
        cases o with
        | inl v => exact ih _ _ _ _ hQ ho
        | inr x => exact ho
    · refine ⟨h.1, h.2.1, h.2.2.1, h.2.2.2.1, ih _ _ _ _ (fun o M' ho => ?_) h.2.2.2.2⟩
      cases o with
      | inl v => exact ih _ _ _ _ hQ ho
      | inr x =>
        revert ho
        show (match k_hd t.1 x with
          | none => _
          | some (pc', k) => _) → (match k_hd t.1 x with
          | none => _
          | some (pc', k) => _)
        split
        · exact fun ho => ⟨ho.1, hQ _ _ ho.2⟩
        · exact fun ho => ih _ _ _ _ hQ ho
    · split at h
      · split at h
        · exact h.elim
        · exact ⟨h.1, ih _ _ _ _ hQ h.2⟩
      · exact ⟨h.1, h.2.1, hQ _ _ h.2.2⟩
    · split at h
      · exact h.elim
      · exact ⟨h.1, ih _ _ _ _ hQ h.2⟩
theorem w_le : ∀ (n k : Nat) (t : i_T) (x : i_C) (Q Q' : i_O → s_M → Prop), (∀ o M, Q o M → Q' o M) → w_ex xs Ln n t x Q → w_ex xs Ln (n + k) t x Q' := by
  intro n
  induction n with
  | zero => intro k t x Q Q' _ h; exact absurd h (by unfold w_ex; exact id)
  | succ n ih =>
    intro k t x Q Q' hQ h
    rw [show n + 1 + k = (n + k) + 1 by omega]
    exact w_lift (fun t x Q Q' => ih k t x Q Q') t x Q Q' hQ h
theorem w_upto {n n' : Nat} (hn : n ≤ n') {t : i_T} {x : i_C} {Q : i_O → s_M → Prop} (h : w_ex xs Ln n t x Q) : w_ex xs Ln n' t x Q := by
  obtain ⟨k, rfl⟩ := Nat.le.dest hn
  exact w_le n k t x Q Q (fun _ _ h => h) h
theorem w_det : ∀ (n : Nat) (t : i_T) (x : i_C) (Q : i_O → s_M → Prop), w_ex xs Ln n t x Q → ∃ (o : i_O) (M' : s_M), Q o M' ∧ ∀ Q' : i_O → s_M → Prop, Q' o M' → w_ex xs Ln n t x Q' := by
  intro n
  induction n with
  | zero => intro t x Q h; exact absurd h (by unfold w_ex; exact id)
  | succ n ih =>
    intro t x Q h
    obtain ⟨pc, L, st, M, ce, sl⟩ := x
    unfold w_ex at h ⊢
    split at h
    · exact h.elim
    · rename_i ins len a1 a2 pl hat
      split at h
      · split at h
        · exact ⟨_, _, h.2.2, fun Q' hq => ⟨h.1, h.2.1, hq⟩⟩
        · exact h.elim
      · split at h
        · exact ⟨_, _, h.2, fun Q' hq => ⟨h.1, hq⟩⟩
        · exact h.elim
      · split at h
        · exact ⟨_, _, h.2, fun Q' hq => ⟨h.1, hq⟩⟩
        · exact h.elim
      · split at h
        · exact ⟨_, _, h.2, fun Q' hq => ⟨h.1, hq⟩⟩
        · exact h.elim
      · split at h
        · split at h
          · obtain ⟨o, M', hq, hf⟩ := ih _ _ _ h.2
            exact ⟨o, M', hq, fun Q' hq' => ⟨h.1, hf Q' hq'⟩⟩
          · exact h.elim
        · obtain ⟨o1, M1, hk, hf1⟩ := ih _ _ _ h.2.2.2.2
          cases o1 with
          | inl v =>
            obtain ⟨o, M', hq, hf⟩ := ih _ _ _ hk
            exact ⟨o, M', hq, fun Q' hq' => ⟨h.1, h.2.1, h.2.2.1, h.2.2.2.1, hf1 _ (hf Q' hq')⟩⟩
          | inr x => exact hk.elim
      · split at h
        · split at h
          · obtain ⟨o, M', hq, hf⟩ := ih _ _ _ h.2.2
            exact ⟨o, M', hq, fun Q' hq' => ⟨h.1, h.2.1, hf Q' hq'⟩⟩
          · exact h.elim
        · obtain ⟨o1, M1, hk, hf1⟩ := ih _ _ _ h.2.2.2
          cases o1 with
          | inl v =>
            obtain ⟨o, M', hq, hf⟩ := ih _ _ _ hk
            exact ⟨o, M', hq, fun Q' hq' => ⟨h.1, h.2.1, h.2.2.1, hf1 _ (hf Q' hq')⟩⟩
          | inr x => exact hk.elim
      · obtain ⟨o1, M1, hk, hf1⟩ := ih _ _ _ h.2.2.2.2
        cases o1 with
        | inl v =>
          obtain ⟨o, M', hq, hf⟩ := ih _ _ _ hk
          exact ⟨o, M', hq, fun Q' hq' => ⟨h.1, h.2.1, h.2.2.1, h.2.2.2.1, hf1 _ (hf Q' hq')⟩⟩
        | inr x =>
          cases hh : k_hd t.1 x with
          | none =>
            have hk2 : k_ex t.1 = [] ∧ Q (.inr x) M1 := by
              have h2 := hk
              simp only [hh] at h2
              exact h2
            refine ⟨.inr x, M1, hk2.2, fun Q' hq' => ⟨h.1, h.2.1, h.2.2.1, h.2.2.2.1, hf1 _ ?_⟩⟩
            simp only [hh]
            exact ⟨hk2.1, hq'⟩
          | some r =>
            obtain ⟨pc', k⟩ := r
            have hk2 := hk
            simp only [hh] at hk2
            obtain ⟨o, M', hq, hf⟩ := ih _ _ _ hk2
            refine ⟨o, M', hq, fun Q' hq' => ⟨h.1, h.2.1, h.2.2.1, h.2.2.2.1, hf1 _ ?_⟩⟩
            simp only [hh]
            exact hf Q' hq'
      · split at h
        · split at h
          · exact h.elim
          · obtain ⟨o, M', hq, hf⟩ := ih _ _ _ h.2
            exact ⟨o, M', hq, fun Q' hq' => ⟨h.1, hf Q' hq'⟩⟩
        · exact ⟨_, _, h.2.2, fun Q' hq => ⟨h.1, h.2.1, hq⟩⟩
      · split at h
        · exact h.elim
        · obtain ⟨o, M', hq, hf⟩ := ih _ _ _ h.2
          exact ⟨o, M', hq, fun Q' hq' => ⟨h.1, hf Q' hq'⟩⟩
theorem w_P.mono {t : i_T} {x : i_C} {Q Q' : i_O → s_M → Prop} (h : w_P xs Ln t x Q) (hq : ∀ o M, Q o M → Q' o M) : w_P xs Ln t x Q' := by
  obtain ⟨n, h⟩ := h
  exact ⟨n, w_le n 0 t x Q Q' hq h⟩
/-- straight on: k instructions that unfold to the point behind them -/
theorem w_P.go {t : i_T} {x x' : i_C} {Q : i_O → s_M → Prop} (k : Nat) (h : w_P xs Ln t x' Q) (hk : ∀ n, w_ex xs Ln n t x' Q → w_ex xs Ln (n + k) t x Q) : w_P xs Ln t x Q := by
  obtain ⟨n, h⟩ := h
  exact ⟨n + k, hk n h⟩
theorem w_callV {t : i_T} {pc i len j na pl ce sl : Nat} {L : i_L} {st as rest : List Value} {M : s_M} {Q K : i_O → s_M → Prop} (hat : i_at t.2.1 pc = some (.invokevirtual i, len, j, na, pl)) (has : (st.take (na + 1)).reverse = as) (hre : st.drop (na + 1) = rest)
    (hrn : i_rn rest as (k_t j).2.2.1 = true) (hlen : na + 1 ≤ st.length) (hrc : i_rc (k_rc j) M as) (hcs : ce + (k_t j).2.2.2.2.1 ≤ t.2.2.2.2.1 ∧ sl + (k_t j).2.2.2.2.2 ≤ t.2.2.2.2.2) (h : w_P xs Ln (k_t j) (0, lv_args 0 as, [], M, 0, 0) K)
    (hr : ∀ (v : Option Value) (M' : s_M), K (.inl v) M' → w_P xs Ln t (pc + 3, L, v.toList ++ rest, M', ce + (k_t j).2.2.2.2.1, sl + (k_t j).2.2.2.2.2) Q)
    (hn : ∀ (x : Nat) (M' : s_M), K (.inr x) M' → k_hd t.1 x = none → k_ex t.1 = [] ∧ Q (.inr x) M')
    (hs : ∀ (x pc' k : Nat) (M' : s_M), K (.inr x) M' → k_hd t.1 x = some (pc', k) → w_P xs Ln t (pc', L.filter (fun q => !(q.1 == k) && !(q.1 + 1 == k && q.2.category == 2)), [], M', ce + (k_t j).2.2.2.2.1, sl + (k_t j).2.2.2.2.2) Q) : w_P xs Ln t (pc, L, st, M, ce, sl) Q := by
  obtain ⟨n1, h1⟩ := h
  obtain ⟨o, M', hk, hf⟩ := w_det _ _ _ _ h1
  subst has
  subst hre
  cases o with
  | inl v =>
    obtain ⟨n2, h2⟩ := hr v M' hk
    refine ⟨max n1 n2 + 1, ?_⟩
    unfold w_ex
    rw [hat]
    exact ⟨hrn, hlen, hrc, hcs, w_upto (Nat.le_max_left _ _) (hf _ (w_upto (Nat.le_max_right n1 n2) h2))⟩
  | inr x =>
    cases hh : k_hd t.1 x with
    | none =>
      refine ⟨n1 + 1, ?_⟩
      unfold w_ex
      rw [hat]
      refine ⟨hrn, hlen, hrc, hcs, hf _ ?_⟩
      simp only [hh]
      exact hn x M' hk hh
    | some r =>
      obtain ⟨pc', k⟩ := r
      obtain ⟨n2, h2⟩ := hs x pc' k M' hk hh
      refine ⟨max n1 n2 + 1, ?_⟩
      unfold w_ex
      rw [hat]
      refine ⟨hrn, hlen, hrc, hcs, w_upto (Nat.le_max_left _ _) (hf _ ?_)⟩
      simp only [hh]
      exact w_upto (Nat.le_max_right n1 n2) h2
theorem w_callS {t : i_T} {pc i len j na pl ce sl : Nat} {L : i_L} {st as rest : List Value} {M : s_M} {Q K : i_O → s_M → Prop} (hat : i_at t.2.1 pc = some (.invokestatic i, len, j, na + 1, pl)) (has : (st.take na).reverse = as) (hre : st.drop na = rest)
    (hrn : i_rn rest as (k_t j).2.2.1 = true) (hlen : na ≤ st.length) (hcs : ce + (k_t j).2.2.2.2.1 ≤ t.2.2.2.2.1 ∧ sl + (k_t j).2.2.2.2.2 ≤ t.2.2.2.2.2) (h : w_P xs Ln (k_t j) (0, lv_args 0 as, [], M, 0, 0) K)
    (hr : ∀ (v : Option Value) (M' : s_M), K (.inl v) M' → w_P xs Ln t (pc + 3, L, v.toList ++ rest, M', ce + (k_t j).2.2.2.2.1, sl + (k_t j).2.2.2.2.2) Q)
    (hn : ∀ (x : Nat) (M' : s_M), K (.inr x) M' → False) : w_P xs Ln t (pc, L, st, M, ce, sl) Q := by
  obtain ⟨n1, h1⟩ := h
  obtain ⟨o, M', hk, hf⟩ := w_det _ _ _ _ h1
  subst has
  subst hre
  cases o with
  | inl v =>
    obtain ⟨n2, h2⟩ := hr v M' hk
    refine ⟨max n1 n2 + 1, ?_⟩
    unfold w_ex
    rw [hat]
    exact ⟨hrn, hlen, hcs, w_upto (Nat.le_max_left _ _) (hf _ (w_upto (Nat.le_max_right n1 n2) h2))⟩
  | inr x => exact (hn x M' hk).elim
theorem w_callI {t : i_T} {pc i len j na pl ce sl : Nat} {L : i_L} {st as rest : List Value} {M : s_M} {Q K : i_O → s_M → Prop} (hat : i_at t.2.1 pc = some (.invokespecial i, len, j, na + 1, pl)) (has : (st.take (na + 1)).reverse = as) (hre : st.drop (na + 1) = rest)
    (hrn : i_rn rest as (k_t j).2.2.1 = true) (hlen : na + 1 ≤ st.length) (hrf : i_rf as) (hcs : ce + (k_t j).2.2.2.2.1 ≤ t.2.2.2.2.1 ∧ sl + (k_t j).2.2.2.2.2 ≤ t.2.2.2.2.2) (h : w_P xs Ln (k_t j) (0, lv_args 0 as, [], M, 0, 0) K)
    (hr : ∀ (v : Option Value) (M' : s_M), K (.inl v) M' → w_P xs Ln t (pc + 3, L, v.toList ++ rest, M', ce + (k_t j).2.2.2.2.1, sl + (k_t j).2.2.2.2.2) Q)
    (hn : ∀ (x : Nat) (M' : s_M), K (.inr x) M' → False) : w_P xs Ln t (pc, L, st, M, ce, sl) Q := by
  obtain ⟨n1, h1⟩ := h
  obtain ⟨o, M', hk, hf⟩ := w_det _ _ _ _ h1
  subst has
  subst hre
  cases o with
  | inl v =>
    obtain ⟨n2, h2⟩ := hr v M' hk
    refine ⟨max n1 n2 + 1, ?_⟩
    unfold w_ex
    rw [hat]
    exact ⟨hrn, hlen, hrf, hcs, w_upto (Nat.le_max_left _ _) (hf _ (w_upto (Nat.le_max_right n1 n2) h2))⟩
  | inr x => exact (hn x M' hk).elim
end Rules
end
section
/-! The tables' words are the Statement's; printed by wip/gen/lawpart.py. -/
theorem k_sub {l big : List Jvm.Cond} (ps : List Nat) (h : l = ps.filterMap (fun i => big[i]?)) : ∀ w ∈ l, w ∈ big := by
  intro w hw
  rw [h] at hw
  obtain ⟨i, -, hi⟩ := List.mem_filterMap.mp hw
  exact List.mem_of_getElem? hi
theorem in_lk_0 : ∀ w ∈ k_lk_0, w ∈ lw_tbl := k_sub [282, 283, 291, 293, 285, 222, 294, 216, 232, 289, 287] (by decide +kernel)
theorem in_lk_1 : ∀ w ∈ k_lk_1, w ∈ lw_tbl := k_sub [129, 130, 132, 134, 136, 138, 140, 142, 144, 146, 148, 560] (by decide +kernel)
theorem in_lk_2 : ∀ w ∈ k_lk_2, w ∈ lw_tbl := k_sub [202, 203, 204, 240, 205, 208, 211, 214, 220, 224, 227, 231, 235, 238, 610] (by decide +kernel)
theorem in_lk_3 : ∀ w ∈ k_lk_3, w ∈ lw_tbl := k_sub [314, 347, 349, 354, 315, 356, 358, 316, 360, 362, 363, 318, 320, 351, 498, 857, 619, 217, 223, 228, 241, 577, 225, 582] (by decide +kernel)
theorem in_lk_4 : ∀ w ∈ k_lk_4, w ∈ lw_tbl := k_sub [323, 324, 219, 332, 326, 234, 330, 230, 328, 237, 331, 681] (by decide +kernel)
theorem in_lk_5 : ∀ w ∈ k_lk_5, w ∈ lw_tbl := k_sub [69, 72, 74, 385, 94, 96, 386, 113, 387, 115, 388, 117, 119, 389, 190, 192, 390, 279, 311, 408, 411, 419, 79, 426, 429, 433, 441, 460, 284, 286, 288, 467, 471, 475, 487, 350, 705, 173, 767, 352, 348, 776, 479, 229, 494, 798, 353, 802, 806, 826, 837, 139, 137, 841, 842, 810, 818, 853, 861, 133, 649, 865, 361, 327, 141, 143, 693, 357, 548, 269, 507, 267, 511, 519, 213, 523, 531, 565, 602, 615, 627, 634, 81, 669, 325, 677, 686, 175, 689, 359, 131, 135, 145, 814, 355, 822, 653, 661, 657, 329, 147, 242, 552, 210, 218, 149, 226, 233, 290, 236, 292, 239, 207, 535, 556, 561, 539, 544, 569, 573, 578, 586, 590, 527] (by decide +kernel)
theorem in_lk_6 : ∀ w ∈ k_lk_6, w ∈ lw_tbl := k_sub [195, 196, 266, 199, 270, 268, 206, 209, 212, 215, 221, 606] (by decide +kernel)
theorem in_lk_7 : ∀ w ∈ k_lk_7, w ∈ lw_tbl := k_sub [99, 100, 101, 102, 103, 445, 449, 453] (by decide +kernel)
theorem in_lk_8 : ∀ w ∈ k_lk_8, w ∈ lw_tbl := k_sub [122, 123, 174, 176, 177, 126, 172, 543, 178] (by decide +kernel)
theorem in_lk_9 : ∀ w ∈ k_lk_9, w ∈ lw_tbl := k_sub [77, 78, 80, 82, 83, 638, 642] (by decide +kernel)
theorem in_lk_10 : ∀ w ∈ k_lk_10, w ∈ lw_tbl := k_sub [888, 889, 891, 892, 893, 894, 895, 896, 897, 898, 899, 900, 901, 902, 903, 904, 905, 906, 907, 908, 909, 910, 912, 913, 914, 915, 916, 917, 918, 919, 920, 921, 922, 923, 924, 925, 926, 927, 928, 929, 930, 931, 932, 934, 935, 936, 937, 938, 939, 940, 941, 942, 943, 944, 945, 946, 947, 948, 1078, 1081, 890, 1088, 1223, 933, 1120, 1152, 1119, 911, 1124, 1148, 1115, 1128, 1132, 1136, 1140, 1144, 1156, 1107, 1103, 1111, 1180, 1191, 1210, 1206, 1224, 1219, 1215, 1228, 1236, 1252, 1256, 1244, 1248] (by decide +kernel)
theorem in_lk_11 : ∀ w ∈ k_lk_11, w ∈ lw_tbl := k_sub [701, 772, 794, 833, 849, 872, 879, 64, 66, 883, 885, 404, 1074, 415, 1084, 422, 1091, 437, 1095, 456, 1176, 463, 1183, 483, 1187, 697, 1194, 1070, 768, 1198, 490, 1202, 791, 1211, 830, 1232, 846, 1240, 869, 1260, 876, 1264, 499, 1168, 503, 1172, 515, 1099, 594, 1160, 598, 1164, 611, 1268, 623, 1272, 630, 1276, 645, 1280, 665, 1284, 673, 1288, 682, 1292, 700, 771] (by decide +kernel)
theorem in_cw : ∀ w ∈ k_cw, w ∈ lw_tbl := k_sub [93, 171, 346, 114, 124, 197, 116, 317, 278, 125, 198, 310, 319, 65, 191, 95, 118, 73, 884, 54, 51, 53, 55, 56, 47, 52, 49, 50, 48, 57, 46] (by decide +kernel)
theorem in_lay : ∀ w ∈ k_lay, w ∈ lw_tbl := k_sub [295, 297, 299, 301, 303, 305, 307, 150, 152, 154, 156, 158, 160, 162, 164, 166, 168, 243, 245, 247, 249, 251, 253, 255, 257, 259, 261, 263, 364, 366, 368, 370, 372, 374, 376, 378, 380, 382, 333, 335, 337, 339, 341, 343, 391, 393, 395, 397, 399, 401, 271, 273, 275, 104, 106, 108, 110, 179, 181, 183, 185, 187, 84, 86, 88, 90, 949, 951, 953, 955, 957, 959, 961, 963, 965, 967, 969, 971, 973, 975, 977, 979, 981, 983, 985, 987, 989, 991, 993, 995, 997, 999, 1001, 1003, 1005, 1007, 1009, 1011, 1013, 1015, 1017, 1019, 1021, 1023, 1025, 1027, 1029, 1031, 1033, 1035, 1037, 1039, 1041, 1043, 1045, 1047, 1049, 1051, 1053, 1055, 1057, 1059, 1061, 1063, 1065, 1067] (by decide +kernel)
theorem in_mi : ∀ w ∈ k_mi, w ∈ lw_tbl := k_sub [67, 405, 416, 423, 438, 457, 464, 484, 702, 773, 491, 795, 834, 850, 873, 880, 500, 504, 516, 595, 599, 612, 624, 631, 646, 666, 674, 683, 695, 800, 839, 804, 828, 808, 820, 651, 663, 655, 550, 563, 867, 477, 533, 537, 567, 592, 525, 280, 468, 472, 528, 670, 127, 815, 823, 583, 557, 553, 862, 690, 200, 607, 512, 193, 508, 480, 603, 520, 97, 430, 434, 450, 811, 843, 442, 447, 120, 540, 545, 75, 412, 635, 640, 312, 495, 854, 616, 570, 574, 579, 321, 587, 620, 658, 858, 678, 886, 1071, 1075, 1085, 1221, 1092, 1096, 1109, 1122, 1126, 1134, 1138, 1154, 1150, 1117, 1130, 1142, 1146, 1158, 1113, 1105, 1100, 1161, 1165, 1169, 1173, 1177, 1184, 1188, 1195, 1199, 1208, 1203, 1226, 1238, 1230, 1217, 1212, 1233, 1258, 1246, 1250, 1254, 1241, 1261, 1265, 1269, 1273, 1277, 1281, 1285, 1289, 1293] (by decide +kernel)
theorem in_ms : ∀ w ∈ k_ms, w ∈ lw_tbl := k_sub [409, 420, 427, 461, 488, 687, 628, 643, 1079, 1082, 1192, 1181, 1089, 698, 769, 792, 831, 847, 870, 877] (by decide +kernel)
theorem in_me : ∀ w ∈ k_me, w ∈ lw_tbl := k_sub [406, 417, 424, 439, 458, 465, 485, 703, 774, 492, 796, 835, 851, 874, 881, 501, 505, 517, 596, 600, 613, 625, 632, 647, 667, 675, 684, 13, 15, 20, 16, 19, 17, 18, 10, 12, 11, 5, 6, 21, 1, 3, 4, 7, 8, 2, 469, 473, 529, 671, 816, 824, 584, 558, 554, 863, 691, 608, 513, 509, 481, 604, 521, 431, 435, 451, 812, 844, 443, 0, 541, 546, 413, 636, 9, 496, 855, 617, 571, 575, 580, 588, 621, 659, 859, 679, 1072, 1076, 1086, 38, 1093, 1097, 23, 26, 27, 29, 30, 34, 33, 25, 28, 31, 32, 35, 24, 22, 1101, 1162, 1166, 1170, 1174, 1178, 1185, 1189, 1196, 1200, 36, 1204, 39, 41, 40, 37, 1213, 1234, 45, 42, 43, 44, 1242, 1262, 1266, 1270, 1274, 1278, 1282, 1286, 1290, 1294] (by decide +kernel)
set_option maxRecDepth 100000 in
theorem in_mw : ∀ w ∈ k_mw, w ∈ lw_tbl := k_sub [68, 407, 418, 425, 440, 459, 466, 486, 704, 775, 493, 797, 836, 852, 875, 882, 502, 506, 518, 597, 601, 614, 626, 633, 648, 668, 676, 685, 410, 421, 428, 462, 489, 688, 629, 696, 801, 840, 805, 829, 809, 821, 652, 664, 656, 551, 564, 868, 478, 534, 538, 568, 593, 526, 281, 470, 474, 530, 672, 128, 817, 825, 585, 559, 555, 864, 692, 201, 609, 514, 194, 510, 482, 605, 522, 98, 432, 436, 452, 813, 845, 444, 448, 121, 542, 547, 76, 414, 637, 641, 644, 313, 497, 856, 618, 572, 576, 581, 322, 589, 622, 660, 860, 680, 887, 1073, 1080, 1083, 1193, 1182, 1090, 1077, 1087, 1222, 1094, 1098, 1110, 1123, 1127, 1135, 1139, 1155, 1151, 1118, 1131, 1143, 1147, 1159, 1114, 1106, 1102, 1163, 1167, 1171, 1175, 1179, 1186, 1190, 1197, 1201, 1209, 1205, 1227, 1239, 1231, 1218, 1214, 1235, 1259, 1247, 1251, 1255, 1243, 1263, 1267, 1271, 1275, 1279, 1283, 1287, 1291, 1295, 699, 770, 793, 832, 848, 871, 878] rfl
end
section
/-! THE CLAIM OUT OF ONE WALK OF THE LAW'S BODY. Your part is whole_start (and what it stands on); all else here is the same for every law, but numbers. -/
def R_law : String := "TwinRoomsLaw"
def lw_P (b : Addr) (xs : List Int32) (args : Array Value) (s : State) : Prop := args = #[.ref b] ∧ s.IntsAt b xs ∧ xs.length ≤ 2560 ∧ (Jvm.Cond.and given_1 narrow_1).before args s = true
def lw_Q (_ : Array Value) (s : State) (o : Outcome) (t : State) : Prop := o = .returned (some (.int 1)) ∧ Framed s o t [] 601024 7293034
def lw_Z (below : List Frame) (a : Array Value) (s : State) : State → Prop := fun t => ∃ o, t.status = .running ∧ Ended t below o ∧ lw_Q a s o t
/-- the law's own end, with 1 on the stack, nothing written that was there before, its room as the claim has it -/
theorem lw_ret {p : Program} {l : Launch} {e : Env} {s : State} {m : MethodId} {below : List Frame} {meth : Method} {c : Code} {b : Nat} (hx : p.tables.exec = Jvm.exec) (hb : c.code = code) (hr : meth.sig.returnType = ret) (hlocks : meth.locks = false) {pc : Nat} {H : Heap} {ls : Array Slot} (hdg : decode code pc = .ok (.ireturn, 1)) : W p l e room_1 s m #[Value.ref b] below meth c H [] 601024 7293034 (lw_Z below #[Value.ref b] s) (F0 m pc ls [.int 1]) := by
  intro T hT X
  obtain ⟨fs, hret, hrun, hended, hW, hframe⟩ := X.leave (v := some (.int 1)) (hlocks := hlocks) (fun h => by rw [hr] at h; cases h)
  have hmeth' : T.vm.method? m = some meth := X.method'
  refine ⟨T.setFrames fs, ?_, .returned (some (.int 1)), hrun, hended, rfl, ⟨_, rfl⟩, hW, hframe⟩
  jvm_step X.here [X.here.top, hx, hb, hdg, hmeth', hr, ret, narrow_b1]
  (try refine ⟨rfl, ?_⟩); (try refine ⟨rfl, ?_⟩)
  first | (intro acts; rw [hret _ acts rfl rfl rfl]) | rw [hret _ _ rfl rfl rfl]
  exact Steps.refl _
/-- what holds at the law's entry: the machine, the code, the tables' words (any of lw_tbl by 'hts w (by decide +kernel)'), the script of L ints xs at the cell b, what the Statement gives of the start (any of its parts by flat_of_before) -/
def lw_At (p : Program) (s : State) (m : MethodId) (meth : Method) (c : Code) (b L : Nat) (xs : Nat → Int32) : Prop :=
  p.tables.exec = Jvm.exec ∧ c.code = code ∧ meth.sig.returnType = ret ∧ c.maxLocals = 8 ∧ s.vm.findClass R_law = some m.cls ∧ (∀ w ∈ lw_tbl, w.before #[Value.ref b] s = true) ∧ va_X b L xs s s.heap ∧ b < s.heap.size ∧ meth.locks = false ∧ (Jvm.Cond.and given_1 narrow_1).before #[Value.ref b] s = true
end
section
/-! From the law's entry to the small machine, and back to the claim. -/
theorem in_jw : ∀ w ∈ k_jw, w ∈ lw_tbl := by
  intro w hw
  simp only [k_jw, List.mem_cons, List.not_mem_nil, or_false] at hw
  rcases hw with rfl | rfl | rfl | rfl | rfl
  · exact List.mem_of_getElem? (i := 70) rfl
  · exact List.mem_of_getElem? (i := 71) rfl
  · exact List.mem_of_getElem? (i := 454) rfl
  · exact List.mem_of_getElem? (i := 58) rfl
  · exact List.mem_of_getElem? (i := 455) rfl
def k_xv : List Jvm.Cond := (k_xa 0).filter (fun w => !k_hwb w) ++ ((k_xa 1).filter (fun w => !k_hwb w) ++ [.initialized (k_en 0), .initialized (k_en 1), .castable (k_en 0) (k_en 0), .castable (k_en 1) (k_en 1)])
theorem in_xv : ∀ w ∈ k_xv, w ∈ lw_tbl := by decide +kernel
theorem k_words {args : Array Value} {s : State} (h : ∀ w ∈ lw_tbl, w.before args s = true) (hn : ∀ w ∈ k_nw, w.before args s = true) : ∀ w ∈ k_all, w.before args s = true := by
  intro w hw
  unfold k_all at hw
  rcases List.mem_append.mp hw with hw | hw
  · obtain ⟨l, hl, hw⟩ := List.mem_flatten.mp hw
    simp only [k_lks, List.mem_cons, List.not_mem_nil, or_false] at hl
    rcases hl with rfl | rfl | rfl | rfl | rfl | rfl | rfl | rfl | rfl | rfl | rfl | rfl
    · exact h w (in_lk_0 w hw)
    · exact h w (in_lk_1 w hw)
    · exact h w (in_lk_2 w hw)
    · exact h w (in_lk_3 w hw)
    · exact h w (in_lk_4 w hw)
    · exact h w (in_lk_5 w hw)
    · exact h w (in_lk_6 w hw)
    · exact h w (in_lk_7 w hw)
    · exact h w (in_lk_8 w hw)
    · exact h w (in_lk_9 w hw)
    · exact h w (in_lk_10 w hw)
    · exact h w (in_lk_11 w hw)
  rcases List.mem_append.mp hw with hw | hw
  · exact h w (in_cw w hw)
  rcases List.mem_append.mp hw with hw | hw
  · exact h w (in_lay w hw)
  rcases List.mem_append.mp hw with hw | hw
  · exact h w (in_mi w hw)
  rcases List.mem_append.mp hw with hw | hw
  · exact h w (in_ms w hw)
  rcases List.mem_append.mp hw with hw | hw
  · exact h w (in_me w hw)
  rcases List.mem_append.mp hw with hw | hw
  · exact h w (in_mw w hw)
  rcases List.mem_append.mp hw with hw | hw
  · exact h w (in_jw w hw)
  unfold k_xw at hw
  rcases List.mem_append.mp hw with hw | hw
  · exact h w (in_xv w (List.mem_append_left _ hw))
  rcases List.mem_append.mp hw with hw | hw
  · exact h w (in_xv w (List.mem_append_right _ (List.mem_append_left _ hw)))
  rcases List.mem_append.mp hw with hw | hw
  · exact h w (in_xv w (List.mem_append_right _ (List.mem_append_right _ hw)))
  · exact hn w hw
def k_z0 : s_S := (fun _ _ => 0, fun _ _ => 0, fun _ _ => 0, fun _ _ => false)
def k_M0 : s_M := ([.inr (99, 0)], 0, k_z0)
/-- static words, wherever the tables are alike and the old heap stands -/
theorem k_zword {args : Array Value} {s : State} {C n d : String} (hl : (Jvm.Cond.laysStatic C n d).before args s = true) (hini : (Jvm.Cond.initialized C).before args s = true) (h : (Jvm.Cond.isRef (.static C n d)).before args s = true)
    {V : State} (a' : Array Value) (hV : s.vm.Alike V.vm) (hq : ∀ q : Nat, q < s.heap.size → V.heap[q]? = s.heap[q]?) : (Jvm.Cond.laysStatic C n d).before a' V = true ∧ (Jvm.Cond.isRef (.static C n d)).before a' V = true := by
  have hz := va_Zq.moved hV ((va_Zqof (A := fun _ => False) hl hini h (fun _ _ h => h)).kept (H1 := V.heap) (fun a ha _ => hq a ha))
  constructor
  · obtain ⟨c, k, i, f, a, cell, h1, h2, h3, h4, h5, h6, h7, h8, h9⟩ := Cond.laysStatic_spec hl
    obtain ⟨k', hi', he⟩ := State.fieldFound?_setVm hV h2
    exact Cond.laysStatic_of (by rw [hV.findClass]; exact h1) hi' h3 (by rw [he]; exact h4) (by rw [hq a (Array.getElem?_eq_some_iff.mp h5).1]; exact h5) h6 h7 h8 (by rw [he]; exact h9)
  · have key : ∀ v : Value, v.isRef = true → va_Z C n d v (fun _ => False) V V.heap → (Jvm.Cond.isRef (.static C n d)).before a' V = true := by
      intro v hv hZ
      obtain ⟨cf, kf, fi, f, a, cell, h1, h2, h3, h4, h5, h6, h7, -⟩ := hZ
      have he : (Term.static C n d).eval a' V none [] V = some v := by
        simp [Term.eval, State.fieldNamed?, h1, h2, h4, h5, h6, h7]
      simp only [Cond.before, Cond.holds, Cond.value, he]
      cases v <;> simp_all [Value.isRef]
    rcases hz with hz | ⟨t, hz⟩
    · exact key _ rfl hz
    · exact key _ rfl hz
theorem k_instcw : ∀ ci, ci < k_no → Jvm.Cond.instantiable (k_cn ci) (k_ft ci).length ∈ k_cw := by decide +kernel
theorem k_arrcw : ∀ t, t < 3 → Jvm.Cond.arrayClass (k_aty t) ∈ k_cw := by decide +kernel
theorem k_overcw : ∀ t, t + 3 < k_na → Jvm.Cond.arrayOver (.object (k_cn t)) ∈ k_cw := by
  intro t ht
  have h : ∀ t, t < 5 → Jvm.Cond.arrayOver (.object (k_cn t)) ∈ k_cw := by decide +kernel
  exact h t (by have : k_na = 8 := rfl; omega)
theorem k_known {args : Array Value} {s : State} (hts : ∀ w ∈ k_all, w.before args s = true) : ∃ (dA : Nat → ClassId) (D : va_G), va_K D k_cl (k_ty dA) s := by
  have h1 : ∀ ci, ∃ r : ClassId × (Nat → Nat), ci < k_no → u_Kn s (k_cn ci) (k_tf ci) (k_ft ci).length r.1 r.2 := by
    intro ci
    by_cases h : ci < k_no
    · obtain ⟨cC, iS, hk⟩ := u_known (n := (k_ft ci).length) hts (k_lays h) (hts _ (k_in_cw (k_instcw ci h)))
      exact ⟨(cC, iS), fun _ => hk⟩
    · exact ⟨(0, fun _ => 0), fun h' => absurd h' h⟩
  have h2 : ∀ t, ∃ cA : ClassId, t < k_na → ArrOfT s cA (k_aty t) ∧ va_RA s cA (k_aty t) := by
    intro t
    by_cases h : t < k_na
    · by_cases h3 : t < 3
      · obtain ⟨c, k, comp, q1, q2, q3⟩ := Cond.arrayClass_spec (hts _ (k_in_cw (k_arrcw t h3)))
        refine ⟨c, fun _ => ⟨fun n z => ⟨(fun k h => by cases h), k, q2, comp, q3⟩, ?_⟩⟩
        rcases (by omega : t = 0 ∨ t = 1 ∨ t = 2) with h | h | h <;> subst h <;> exact q1
      · obtain ⟨t', rfl⟩ : ∃ t', t = t' + 3 := ⟨t - 3, by omega⟩
        obtain ⟨comp, c, k, q0, -, q2, q3, q1⟩ := Cond.arrayOver_spec (hts _ (k_in_cw (k_overcw t' h)))
        exact ⟨c, fun _ => ⟨fun n z => ⟨(fun k h => by cases h), k, q2, comp, q3⟩, k, comp, q2, q3, q0, q1⟩⟩
    · exact ⟨0, fun h' => absurd h' h⟩
  refine ⟨fun t => Classical.choose (h2 t), (fun ci => (Classical.choose (h1 ci)).1, fun ci => (Classical.choose (h1 ci)).2), fun ci q hq => ?_, fun t q hq => ?_⟩
  · have hlt : ci < k_no := by
      have := (List.getElem?_eq_some_iff.mp hq).1
      simpa [k_cl] using this
    rw [k_cl_at hlt] at hq
    cases hq
    exact Classical.choose_spec (h1 ci) hlt
  · have hlt : t < k_na := by
      have := (List.getElem?_eq_some_iff.mp hq).1
      simpa [k_ty] using this
    rw [k_ty_at hlt] at hq
    cases hq
    exact Classical.choose_spec (h2 t) hlt
theorem k_startI {p : Program} {s : State} {m : MethodId} {meth : Method} {c : Code} {b L : Nat} {xs : Nat → Int32} (C0 : lw_At p s m meth c b L xs) : (∀ w ∈ k_all, w.before #[Value.ref b] s = true) ∧ ∃ (dA : Nat → ClassId) (D : va_G), k_I (s.heap.size - 1) b L xs dA D k_M0 s s.heap := by
  obtain ⟨hx, hb, hr, hml, hown, hts, hX, hbl, hlk, hgv⟩ := C0
  have hpart := flat_of_before _ hgv
  have hall : ∀ w ∈ k_all, w.before #[Value.ref b] s = true := k_words hts (fun w hw => by
    simp only [k_nw, List.mem_cons, List.not_mem_nil, or_false] at hw
    subst hw
    exact hpart _ (by decide +kernel))
  refine ⟨hall, ?_⟩
  obtain ⟨dA, D, hK⟩ := k_known hall
  refine ⟨dA, D, ?_, rfl, ?_, hK, ?_, ?_, hX, by omega⟩
  · show s.heap.size = s.heap.size - 1 + 1 + 0
    omega
  · intro k q hq
    have h1 : (s_w (s.heap.size - 1) dA k_M0.1 k_M0.2.2) = [] := rfl
    rw [h1] at hq
    cases hq
  · intro q cell hq hc
    have := (Array.getElem?_eq_some_iff.mp hc).1
    omega
  · intro V a' hV hq w hw
    have hq' : ∀ q : Nat, q < s.heap.size → V.heap[q]? = s.heap[q]? := fun q h => hq q (by omega)
    have hini : (Jvm.Cond.initialized "java/lang/Throwable").before #[Value.ref b] s = true := hts _ (in_xv _ (by decide +kernel))
    have z1 := k_zword (C := "java/lang/Throwable") (n := "UNASSIGNED_STACK") (d := "[Ljava/lang/StackTraceElement;") (hts _ (by decide +kernel)) hini (hpart _ (by decide +kernel)) a' hV hq'
    have z2 := k_zword (C := "java/lang/Throwable") (n := "SUPPRESSED_SENTINEL") (d := "Ljava/util/List;") (hts _ (by decide +kernel)) hini (hpart _ (by decide +kernel)) a' hV hq'
    simp only [k_hw, List.mem_cons, List.not_mem_nil, or_false] at hw
    rcases hw with rfl | rfl | rfl | rfl
    · exact z1.2
    · exact z2.2
    · exact z1.1
    · exact z2.1
/-- the claim's own start, out of a run of the small machine -/
theorem k_whole {p : Program} {e : Env} {s : State} {m : MethodId} {below : List Frame} {meth : Method} {c : Code} (l : Launch) (htr : l.stackTraces = false) {b L : Nat} {xs : Nat → Int32} (C0 : lw_At p s m meth c b L xs) (hnm : meth.name = "law") (hext : c.exceptionTable.toList = [])
    (hrun : w_P xs L (k_t 169) (0, [(0, .retAddr 0)], [], k_M0, 0, 0) (fun o _ => o = .inl (some (.int 1)))) :
    W p l e room_1 s m #[Value.ref b] below meth c s.heap [] 0 0 (lw_Z below #[Value.ref b] s) (entryFrame m ([Value.ref b] : List Value).toArray 8) := by
  obtain ⟨hall, dA, D, hI⟩ := k_startI C0
  obtain ⟨hx, hb, hr, hml, hown, hts, hX, hbl, hlk, hgv⟩ := C0
  obtain ⟨n, hn⟩ := hrun
  intro T hT X
  have CX : x_C 169 p s m #[Value.ref b] meth c := ⟨hx, hb, hml, hown, hall, hr, hlk, hnm, hext⟩
  have h1 := w_go (l := l) (B := s.heap.size - 1) (b := b) (Ln := L) (xs := xs) (dA := dA) (D := D) htr n 169 (by decide) _ _ hn p e s m #[Value.ref b] below meth c CX
  have h2 := lv_entry [Value.ref b] (n := 8) (Nat.le_of_ble_eq_true rfl)
  rw [lg_entry_eq]
  have hR : k_rm 169 = room_1 := rfl
  rw [hR] at h1
  obtain ⟨t, a1, o, b1, b2, ⟨⟨o', M', hQ, hI', hF, hoc⟩, hW, Lw, hsame, hLw⟩⟩ := h1 _ s.heap [] h2 hI va_S.rf T hT X
  subst hQ
  cases hoc
  refine ⟨t, a1, _, b1, b2, rfl, ⟨_, rfl⟩, hW, hsame.weaken (fun y hy hlt => ?_) (Nat.le_refl _) (Nat.le_refl _)⟩
  have key : ∀ u v : Nat, u - 1 < v → v < u → False := fun u v h1 h2 => by omega
  exact (key s.heap.size y.base (hLw y hy) hlt).elim
end
section
/-! Constructors by computation: a state as lists of writes, a run that the kernel computes, and that it is a run of the small machine. -/
abbrev f_M : Type := Nat × List s_K × List (Nat × Nat × Int32) × List (Nat × Nat × Nat) × List (Nat × Nat × Bool)
abbrev f_C : Type := Nat × i_L × List Value × f_M × Nat × Nat
def f_get {α : Type} (d : α) (a k : Nat) : List (Nat × Nat × α) → α
  | [] => d
  | e :: r => cond (Nat.beq e.1 a && Nat.beq e.2.1 k) e.2.2 (f_get d a k r)
def f_sh (F : f_M) (a : Nat) : Option s_K := cond (Nat.blt a F.1) (F.2.1[F.1 - 1 - a]?) none
def f_rep (F : f_M) (M : s_M) : Prop := M.1 = F.2.1.reverse ∧ F.2.1.length = F.1 ∧ M.2.1 = 0 ∧ (∀ a k, M.2.2.1 a k = f_get 0 a k F.2.2.1) ∧ (∀ a k, M.2.2.2.1 a k = 0) ∧ (∀ a k, M.2.2.2.2.1 a k = f_get 0 a k F.2.2.2.1) ∧ (∀ a k, M.2.2.2.2.2 a k = f_get false a k F.2.2.2.2) ∧
  (∀ e ∈ F.2.2.1, e.1 < F.1) ∧ (∀ e ∈ F.2.2.2.1, e.1 < F.1) ∧ (∀ e ∈ F.2.2.2.2, e.1 < F.1)
def f_ref : FieldType → Bool
  | .object _ => true
  | .array _ => true
  | _ => false
def f_new (F : f_M) (e : s_K) : f_M := (F.1 + 1, e :: F.2.1, F.2.2)
def f_st (mc ms : Nat) (ins : Instr) (a1 a2 pc : Nat) (L : i_L) (st : List Value) (F : f_M) (ce sl : Nat) : Option f_C := match ins with
  | .iconst n => some (pc + 1, L, .int (Int32.ofInt n) :: st, F, ce, sl)
  | .bipush n => some (pc + 2, L, .int ((Int8.ofInt n).toInt32) :: st, F, ce, sl)
  | .sipush n => some (pc + 3, L, .int ((Int16.ofInt n).toInt32) :: st, F, ce, sl)
  | .iload_n k => match i_ld L k with
    | some (.int x) => some (pc + 1, L, .int x :: st, F, ce, sl)
    | _ => none
  | .aload_n k => match i_ld L k with
    | some (.ref x) => some (pc + 1, L, .ref x :: st, F, ce, sl)
    | _ => none
  | .istore_n k => match st with
    | .int x :: r => some (pc + 1, i_s1 L k (.int x), r, F, ce, sl)
    | _ => none
  | .iinc k n => match i_ld L k with
    | some (.int x) => some (pc + 3, i_s1 L k (.int (x + Int32.ofInt n)), st, F, ce, sl)
    | _ => none
  | .dup => match st with
    | .ref x :: r => some (pc + 1, L, .ref x :: .ref x :: r, F, ce, sl)
    | _ => none
  | .goto off => some (i_tg pc off, L, st, F, ce, sl)
  | .if_icmp c off => match st with
    | .int y :: .int x :: r => some (i_br c x y (i_tg pc off) (pc + 3), L, r, F, ce, sl)
    | _ => none
  | .getfield _ => match st with
    | .ref a :: r => if f_sh F a = some (.inl a1) ∧ f_ref ((k_ft a1).getD a2 .int) = true ∧ f_get 0 a a2 F.2.2.2.1 ≠ 0 then some (pc + 3, L, .ref (f_get 0 a a2 F.2.2.2.1) :: r, F, ce, sl) else none
    | _ => none
  | .putfield _ => match st with
    | .int x :: .ref a :: r => if f_sh F a = some (.inl a1) ∧ (k_ft a1).getD a2 .int = .int then some (pc + 3, L, r, (F.1, F.2.1, (a, a2, x) :: F.2.2.1, F.2.2.2), ce, sl)
      else if f_sh F a = some (.inl a1) ∧ (k_ft a1).getD a2 .int = .boolean ∧ x = 1 then some (pc + 3, L, r, (F.1, F.2.1, F.2.2.1, F.2.2.2.1, (a, a2, true) :: F.2.2.2.2), ce, sl) else none
    | .ref v :: .ref a :: r => if f_sh F a = some (.inl a1) ∧ f_ref ((k_ft a1).getD a2 .int) = true ∧ v ≠ 0 then some (pc + 3, L, r, (F.1, F.2.1, F.2.2.1, (a, a2, v) :: F.2.2.2.1, F.2.2.2.2), ce, sl) else none
    | _ => none
  | .iastore => match st with
    | .int x :: .int j :: .ref a :: r => match f_sh F a with
      | some (.inr (0, n)) => if 0 ≤ j.toInt ∧ j.toInt < (n : Int) then some (pc + 1, L, r, (F.1, F.2.1, (a, j.toNatClampNeg, x) :: F.2.2.1, F.2.2.2), ce, sl) else none
      | _ => none
    | _ => none
  | .aastore => match st with
    | .ref v :: .int j :: .ref a :: r => match f_sh F a with
      | some (.inr (t, n)) => if t = a1 + 3 ∧ 0 ≤ j.toInt ∧ j.toInt < (n : Int) ∧ f_sh F v = some (.inl a1) then some (pc + 1, L, r, (F.1, F.2.1, F.2.2.1, (a, j.toNatClampNeg, v) :: F.2.2.2.1, F.2.2.2.2), ce, sl) else none
      | _ => none
    | _ => none
  | .newarray _ => match st with
    | .int n :: r => if n.toInt = (a2 : Int) ∧ ce + 1 ≤ mc ∧ sl + a2 ≤ ms then some (pc + 2, L, .ref F.1 :: r, f_new F (.inr (a1, a2)), ce + 1, sl + a2) else none
    | _ => none
  | .anewarray _ => match st with
    | .int n :: r => if n.toInt = (a2 : Int) ∧ ce + 1 ≤ mc ∧ sl + a2 ≤ ms then some (pc + 3, L, .ref F.1 :: r, f_new F (.inr (a1 + 3, a2)), ce + 1, sl + a2) else none
    | _ => none
  | .new _ => match a2 with
    | 0 => if ce + 1 ≤ mc ∧ sl + (k_ft a1).length ≤ ms then some (pc + 3, L, .ref F.1 :: st, f_new F (.inl a1), ce + 1, sl + (k_ft a1).length) else none
    | _ => none
  | _ => none
def f_rfb : List Value → Bool
  | .ref _ :: _ => true
  | _ => false
def f_ex : Nat → i_T → f_C → Option f_M
  | 0, _, _ => none
  | n + 1, t, (pc, L, st, F, ce, sl) => match i_at t.2.1 pc with
    | none => none
    | some (ins, _, a1, a2, _) => match ins with
      | .return_ => match st with
        | [] => if ce ≤ t.2.2.2.2.1 ∧ sl ≤ t.2.2.2.2.2 then some F else none
        | _ => none
      | .invokespecial _ => match a2 with
        | 0 => match st with
          | .ref _ :: r => if i_rm r = true then f_ex n t (pc + 3, L, r, F, ce, sl) else none
          | _ => none
        | na + 1 => if i_rn (st.drop (na + 1)) (st.take (na + 1)).reverse (k_t a1).2.2.1 = true ∧ na + 1 ≤ st.length ∧ f_rfb (st.take (na + 1)).reverse = true ∧ (ce + (k_t a1).2.2.2.2.1 ≤ t.2.2.2.2.1 ∧ sl + (k_t a1).2.2.2.2.2 ≤ t.2.2.2.2.2) then
            (match f_ex n (k_t a1) (0, lv_args 0 (st.take (na + 1)).reverse, [], F, 0, 0) with
              | none => none
              | some F' => f_ex n t (pc + 3, L, st.drop (na + 1), F', ce + (k_t a1).2.2.2.2.1, sl + (k_t a1).2.2.2.2.2))
          else none
      | .new _ => match a2 with
        | 0 => match f_st t.2.2.2.2.1 t.2.2.2.2.2 ins a1 0 pc L st F ce sl with
          | none => none
          | some c' => f_ex n t c'
        | _ => none
      | ins => match f_st t.2.2.2.2.1 t.2.2.2.2.2 ins a1 a2 pc L st F ce sl with
        | none => none
        | some c' => f_ex n t c'
/-! what the lists say -/
theorem f_get_cons {α : Type} {d v : α} {a k a' k' : Nat} {l : List (Nat × Nat × α)} : f_get d a k ((a', k', v) :: l) = if a = a' ∧ k = k' then v else f_get d a k l := by
  show cond (Nat.beq a' a && Nat.beq k' k) v (f_get d a k l) = _
  by_cases h : a = a' ∧ k = k'
  · obtain ⟨rfl, rfl⟩ := h
    rw [if_pos ⟨rfl, rfl⟩, Nat.beq_refl, Nat.beq_refl]
    rfl
  · rw [if_neg h]
    have h1 : (Nat.beq a' a && Nat.beq k' k) = false := by
      rw [Bool.and_eq_false_iff]
      by_cases ha : a = a'
      · right
        cases hb : Nat.beq k' k with
        | false => rfl
        | true => exact absurd ⟨ha, (Nat.eq_of_beq_eq_true hb).symm⟩ h
      · left
        cases hb : Nat.beq a' a with
        | false => rfl
        | true => exact absurd (Nat.eq_of_beq_eq_true hb).symm ha
    rw [h1]
    rfl
theorem f_get_up {α : Type} {d v : α} {f : Nat → Nat → α} {a k : Nat} {l : List (Nat × Nat × α)} (h : ∀ a k, f a k = f_get d a k l) : ∀ a' k', s_up f a k v a' k' = f_get d a' k' ((a, k, v) :: l) := by
  intro a' k'
  rw [f_get_cons]
  unfold s_up va_up
  by_cases h1 : a' = a
  · subst h1
    by_cases h2 : k' = k
    · simp [h2]
    · simp [h2, h]
  · simp [h1, h]
theorem f_get_low {α : Type} {d : α} {a k n : Nat} {l : List (Nat × Nat × α)} (h : ∀ e ∈ l, e.1 < n) (ha : n ≤ a) : f_get d a k l = d := by
  induction l with
  | nil => rfl
  | cons e r ih =>
    obtain ⟨a', k', v⟩ := e
    rw [f_get_cons, if_neg]
    · exact ih (fun e he => h e (List.mem_cons_of_mem _ he))
    · intro h1
      have := h (a', k', v) List.mem_cons_self
      simp at this
      omega
theorem f_get_z {α : Type} {d : α} {f : Nat → Nat → α} {n : Nat} {l : List (Nat × Nat × α)} (h : ∀ a k, f a k = f_get d a k l) (hl : ∀ e ∈ l, e.1 < n) : ∀ a k, va_up f n (fun _ => d) a k = f_get d a k l := by
  intro a k
  unfold va_up
  by_cases h1 : a = n
  · subst h1
    rw [if_pos rfl, f_get_low hl (Nat.le_refl _)]
  · rw [if_neg h1, h]
theorem f_sh_eq {F : f_M} {M : s_M} (h : f_rep F M) (a : Nat) : M.1[a]? = f_sh F a := by
  obtain ⟨h1, h2, -⟩ := h
  unfold f_sh
  rw [h1]
  by_cases ha : a < F.1
  · have hb : Nat.blt a F.1 = true := by simpa [Nat.blt_eq] using ha
    rw [hb, List.getElem?_reverse (by omega), h2]
    rfl
  · have hb : Nat.blt a F.1 = false := by
      cases hb : Nat.blt a F.1 with
      | false => rfl
      | true => exact absurd (Nat.blt_eq.mp hb) ha
    rw [hb, List.getElem?_eq_none (by simp; omega)]
    rfl
theorem f_len {F : f_M} {M : s_M} (h : f_rep F M) : M.1.length = F.1 := by rw [h.1, List.length_reverse]; exact h.2.1
theorem f_rep_new {F : f_M} {M : s_M} (h : f_rep F M) (e : s_K) : f_rep (f_new F e) (M.1 ++ [e], 0, s_z M.2.2 M.1.length) := by
  have hl := f_len h
  obtain ⟨h1, h2, h3, h4, h5, h6, h7, h8, h9, h10⟩ := h
  refine ⟨?_, ?_, rfl, ?_, ?_, ?_, ?_, fun e he => Nat.lt_succ_of_lt (h8 e he), fun e he => Nat.lt_succ_of_lt (h9 e he), fun e he => Nat.lt_succ_of_lt (h10 e he)⟩
  · show M.1 ++ [e] = (e :: F.2.1).reverse
    rw [List.reverse_cons, h1]
  · show (e :: F.2.1).length = F.1 + 1
    rw [List.length_cons, h2]
  · rw [hl]; exact f_get_z h4 h8
  · intro a k
    show va_up M.2.2.2.1 M.1.length (fun _ => 0) a k = 0
    unfold va_up
    split
    · rfl
    · exact h5 a k
  · rw [hl]; exact f_get_z h6 h9
  · rw [hl]; exact f_get_z h7 h10
theorem f_in {F : f_M} {a : Nat} {e : s_K} (h : f_sh F a = some e) : a < F.1 := by
  unfold f_sh at h
  cases hb : Nat.blt a F.1 with
  | false => rw [hb] at h; cases h
  | true => exact Nat.blt_eq.mp hb
theorem f_rep_i {F : f_M} {M : s_M} (h : f_rep F M) {a k : Nat} {e : s_K} (ha : f_sh F a = some e) (x : Int32) : f_rep (F.1, F.2.1, (a, k, x) :: F.2.2.1, F.2.2.2) (M.1, M.2.1, s_pi M.2.2 a k x) := by
  have hin := f_in ha
  obtain ⟨h1, h2, h3, h4, h5, h6, h7, h8, h9, h10⟩ := h
  exact ⟨h1, h2, h3, f_get_up h4, h5, h6, h7, List.forall_mem_cons.mpr ⟨hin, h8⟩, h9, h10⟩
theorem f_rep_r {F : f_M} {M : s_M} (h : f_rep F M) {a k : Nat} {e : s_K} (ha : f_sh F a = some e) (x : Nat) : f_rep (F.1, F.2.1, F.2.2.1, (a, k, x) :: F.2.2.2.1, F.2.2.2.2) (M.1, M.2.1, s_pr M.2.2 a k x) := by
  have hin := f_in ha
  obtain ⟨h1, h2, h3, h4, h5, h6, h7, h8, h9, h10⟩ := h
  exact ⟨h1, h2, h3, h4, h5, f_get_up h6, h7, h8, List.forall_mem_cons.mpr ⟨hin, h9⟩, h10⟩
theorem f_rep_z {F : f_M} {M : s_M} (h : f_rep F M) {a k : Nat} {e : s_K} (ha : f_sh F a = some e) (x : Bool) : f_rep (F.1, F.2.1, F.2.2.1, F.2.2.2.1, (a, k, x) :: F.2.2.2.2) (M.1, M.2.1, s_pz M.2.2 a k x) := by
  have hin := f_in ha
  obtain ⟨h1, h2, h3, h4, h5, h6, h7, h8, h9, h10⟩ := h
  exact ⟨h1, h2, h3, h4, h5, h6, f_get_up h7, h8, h9, List.forall_mem_cons.mpr ⟨hin, h10⟩⟩
section Make
variable {xs : Nat → Int32} {Ln : Nat}
theorem f_ix {F : f_M} {M : s_M} (h : f_rep F M) {a t n : Nat} {j : Int32} (hs : f_sh F a = some (.inr (t, n))) (h0 : 0 ≤ j.toInt) (h1 : j.toInt < (n : Int)) : i_ix M a t j := ⟨n, by rw [f_sh_eq h, hs], vp_in_iff.mpr ⟨h0, h1⟩⟩
set_option maxHeartbeats 2000000 in
theorem f_st_ok {mc ms : Nat} {ins : Instr} {a1 a2 pc : Nat} {L : i_L} {st : List Value} {F : f_M} {ce sl : Nat} {c' : f_C} {M : s_M} (hr : f_rep F M) (h : f_st mc ms ins a1 a2 pc L st F ce sl = some c') :
    ∃ (M' : s_M) (P : Prop), i_st xs Ln mc ms ins a1 a2 pc L st M ce sl = some (P, c'.1, c'.2.1, c'.2.2.1, M', c'.2.2.2.2.1, c'.2.2.2.2.2) ∧ P ∧ f_rep c'.2.2.2.1 M' := by
  have hlen := f_len hr
  have hx0 : M.2.1 = 0 := hr.2.2.1
  cases ins with
  | iconst n => simp only [f_st] at h; cases h; exact ⟨M, True, rfl, trivial, hr⟩
  | bipush n => simp only [f_st] at h; cases h; exact ⟨M, True, rfl, trivial, hr⟩
  | sipush n => simp only [f_st] at h; cases h; exact ⟨M, True, rfl, trivial, hr⟩
  | goto n => simp only [f_st] at h; cases h; exact ⟨M, True, rfl, trivial, hr⟩
  | iload_n k =>
    simp only [f_st] at h
    split at h
    · rename_i x hx; cases h; exact ⟨M, True, by simp only [i_st, hx], trivial, hr⟩
    · cases h
  | aload_n k =>
    simp only [f_st] at h
    split at h
    · rename_i x hx; cases h; exact ⟨M, True, by simp only [i_st, hx], trivial, hr⟩
    · cases h
  | istore_n k =>
    simp only [f_st] at h
    split at h
    · cases h; exact ⟨M, True, rfl, trivial, hr⟩
    · cases h
  | iinc k n =>
    simp only [f_st] at h
    split at h
    · rename_i x hx; cases h; exact ⟨M, True, by simp only [i_st, hx], trivial, hr⟩
    · cases h
  | dup =>
    simp only [f_st] at h
    split at h
    · cases h; exact ⟨M, True, rfl, trivial, hr⟩
    · cases h
  | if_icmp c off =>
    simp only [f_st] at h
    split at h
    · cases h; exact ⟨M, True, rfl, trivial, hr⟩
    · cases h
  | getfield i =>
    simp only [f_st] at h
    split at h
    · rename_i a r
      split at h
      · rename_i hc
        cases h
        obtain ⟨g1, g2, g3⟩ := hc
        have hR := hr.2.2.2.2.2.1 a a2
        refine ⟨M, M.1[a]? = some (.inl a1) ∧ i_nn M.2.2 a a2 ((k_ft a1).getD a2 .int), ?_, ⟨by rw [f_sh_eq hr]; exact g1, ?_⟩, hr⟩
        rotate_left
        · generalize (k_ft a1).getD a2 .int = ty at g2
          cases ty <;> first | (cases g2; done) | (show M.2.2.2.2.1 a a2 ≠ 0; rw [hR]; exact g3)
        · simp only [i_st]
          have he : i_rd M.2.2 a a2 ((k_ft a1).getD a2 .int) = .ref (f_get 0 a a2 F.2.2.2.1) := by
            rw [← hR]
            generalize (k_ft a1).getD a2 .int = ty at g2
            cases ty <;> first | (cases g2; done) | rfl
          rw [he]
      · cases h
    · cases h
  | putfield i =>
    simp only [f_st] at h
    split at h
    · rename_i x a r
      split at h
      · rename_i hc
        cases h
        refine ⟨_, M.1[a]? = some (.inl a1) ∧ True, ?_, ⟨by rw [f_sh_eq hr]; exact hc.1, trivial⟩, f_rep_i hr hc.1 x⟩
        simp only [i_st, hc.2, i_wr]
      · split at h
        · rename_i hc
          obtain ⟨g1, g2, rfl⟩ := hc
          cases h
          refine ⟨_, M.1[a]? = some (.inl a1) ∧ ((1 : Int32) = 0 ∨ (1 : Int32) = 1), ?_, ⟨by rw [f_sh_eq hr]; exact g1, Or.inr rfl⟩, f_rep_z hr g1 true⟩
          simp only [i_st, g2, i_wr]
          rfl
        · cases h
    · rename_i v a r
      split at h
      · rename_i hc
        obtain ⟨g1, g2, g3⟩ := hc
        cases h
        refine ⟨_, M.1[a]? = some (.inl a1) ∧ v ≠ 0, ?_, ⟨by rw [f_sh_eq hr]; exact g1, g3⟩, f_rep_r hr g1 v⟩
        simp only [i_st]
        generalize (k_ft a1).getD a2 .int = ty at g2
        cases ty <;> first | (cases g2; done) | rfl
      · cases h
    · cases h
  | iastore =>
    simp only [f_st] at h
    split at h
    · rename_i x j a r
      split at h
      · rename_i n hs
        split at h
        · rename_i hc
          cases h
          exact ⟨_, _, rfl, f_ix hr hs hc.1 hc.2, f_rep_i hr hs x⟩
        · cases h
      · cases h
    · cases h
  | aastore =>
    simp only [f_st] at h
    split at h
    · rename_i v j a r
      split at h
      · rename_i t n hs
        split at h
        · rename_i hc
          obtain ⟨rfl, g1, g2, g3⟩ := hc
          cases h
          exact ⟨_, _, rfl, ⟨f_ix hr hs g1 g2, by rw [f_sh_eq hr]; exact g3⟩, f_rep_r hr hs v⟩
        · cases h
      · cases h
    · cases h
  | newarray ty =>
    simp only [f_st] at h
    split at h
    · rename_i z r
      split at h
      · rename_i hc
        cases h
        refine ⟨(M.1 ++ [.inr (a1, a2)], 0, s_z M.2.2 M.1.length), M.2.1 = 0 ∧ z.toInt = (a2 : Int) ∧ ce + 1 ≤ mc ∧ sl + a2 ≤ ms, ?_, ⟨hx0, hc⟩, f_rep_new hr _⟩
        simp only [i_st, hlen]
      · cases h
    · cases h
  | anewarray i =>
    simp only [f_st] at h
    split at h
    · rename_i z r
      split at h
      · rename_i hc
        cases h
        refine ⟨(M.1 ++ [.inr (a1 + 3, a2)], 0, s_z M.2.2 M.1.length), M.2.1 = 0 ∧ z.toInt = (a2 : Int) ∧ ce + 1 ≤ mc ∧ sl + a2 ≤ ms, ?_, ⟨hx0, hc⟩, f_rep_new hr _⟩
        simp only [i_st, hlen]
      · cases h
    · cases h
  | new i =>
    simp only [f_st] at h
    split at h
    · split at h
      · rename_i hc
        cases h
        refine ⟨(M.1 ++ [.inl a1], 0, s_z M.2.2 M.1.length), M.2.1 = 0 ∧ ce + 1 ≤ mc ∧ sl + (k_ft a1).length ≤ ms, ?_, ⟨hx0, hc⟩, f_rep_new hr _⟩
        simp only [i_st, hlen]
      · cases h
    · cases h
  | _ => simp only [f_st] at h; cases h
theorem f_ok : ∀ (n : Nat) (t : i_T) (pc : Nat) (L : i_L) (st : List Value) (F F' : f_M) (ce sl : Nat), f_ex n t (pc, L, st, F, ce, sl) = some F' → ∀ M, f_rep F M → ∃ M', f_rep F' M' ∧ w_ex xs Ln n t (pc, L, st, M, ce, sl) (fun o M'' => o = .inl none ∧ M'' = M') := by
  intro n
  induction n with
  | zero => intro t pc L st F F' ce sl h; simp only [f_ex] at h; cases h
  | succ n ih =>
    intro t pc L st F F' ce sl h M hr
    unfold f_ex at h
    unfold w_ex
    split at h
    · cases h
    · rename_i ins len a1 a2 pl hat
      simp only [hat]
      split at h
      · split at h
        · split at h
          · rename_i hc
            cases h
            exact ⟨M, hr, hc, by first | trivial | rfl, rfl⟩
          · cases h
        · cases h
      · split at h
        · split at h
          · split at h
            · rename_i hc
              obtain ⟨M', h1, h2⟩ := ih _ _ _ _ _ _ _ _ h M hr
              exact ⟨M', h1, hc, h2⟩
            · cases h
          · cases h
        · split at h
          · rename_i hc
            split at h
            · cases h
            · rename_i F1 hF1
              obtain ⟨M1, r1, w1⟩ := ih _ _ _ _ _ _ _ _ hF1 M hr
              obtain ⟨M', r2, w2⟩ := ih _ _ _ _ _ _ _ _ h M1 r1
              refine ⟨M', r2, hc.1, hc.2.1, ?_, hc.2.2.2, w_le n 0 _ _ _ _ (fun o M'' ho => ?_) w1⟩
              · have h3 := hc.2.2.1
                revert h3
                generalize (st.take _).reverse = as
                intro h3
                cases as with
                | nil => cases h3
                | cons v r => cases v <;> first | trivial | (cases h3)
              · obtain ⟨rfl, rfl⟩ := ho
                exact w2
          · cases h
      · split at h
        · split at h
          · cases h
          · rename_i c' hc'
            obtain ⟨M1, P, hst, hP, r1⟩ := f_st_ok (xs := xs) (Ln := Ln) hr hc'
            obtain ⟨M', r2, w2⟩ := ih _ _ _ _ _ _ _ _ h M1 r1
            refine ⟨M', r2, ?_⟩
            rw [hst]
            exact ⟨hP, w2⟩
        · cases h
      · split at h
        · cases h
        · rename_i c' hc'
          obtain ⟨M1, P, hst, hP, r1⟩ := f_st_ok (xs := xs) (Ln := Ln) hr hc'
          obtain ⟨M', r2, w2⟩ := ih _ _ _ _ _ _ _ _ h M1 r1
          refine ⟨M', r2, ?_⟩
          have key : match i_st xs Ln t.2.2.2.2.1 t.2.2.2.2.2 ins a1 a2 pc L st M ce sl with
              | none => False
              | some (P, c') => P ∧ w_ex xs Ln n t c' (fun o M'' => o = .inl none ∧ M'' = M') := by
            rw [hst]
            exact ⟨hP, w2⟩
          cases ins <;> first | (simp only [f_st] at hc'; cases hc'; done) | exact key | (exfalso; simp_all; done)
end Make
def f_0 : f_M := (1, [.inr (99, 0)], [], [], [])
def f_1 : f_M := f_new f_0 (.inl 5)
end
section
/-! The state that the law's first rows leave, made nice; shapes printed by wip/gen/initst.py. -/
def sh1 : List s_K := [.inr (99, 0), .inl 5, .inl 9, .inr (0, 12), .inr (0, 12), .inr (0, 144), .inl 7, .inr (0, 16), .inr (0, 16), .inr (0, 16), .inr (0, 16), .inr (3, 6), .inr (6, 2), .inl 8, .inr (4, 16), .inr (0, 4), .inr (1, 4), .inl 1, .inl 1, .inl 1, .inl 1, .inl 1, .inl 1, .inl 1, .inl 1, .inl 1, .inl 1, .inl 1, .inl 1, .inl 1, .inl 1, .inl 1, .inl 1, .inl 6, .inr (5, 49), .inl 2, .inl 1, .inl 2, .inl 1, .inl 2, .inl 1, .inl 2, .inl 1, .inl 2, .inl 1, .inl 2, .inl 1, .inl 2, .inl 1, .inl 2, .inl 1, .inl 2, .inl 1, .inl 2, .inl 1, .inl 2, .inl 1, .inl 2, .inl 1, .inl 2, .inl 1, .inl 2, .inl 1, .inl 2, .inl 1, .inl 2, .inl 1, .inl 2, .inl 1, .inl 2, .inl 1, .inl 2, .inl 1, .inl 2, .inl 1, .inl 2, .inl 1, .inl 2, .inl 1, .inl 2, .inl 1, .inl 2, .inl 1, .inl 2, .inl 1, .inl 2, .inl 1, .inl 2, .inl 1, .inl 2, .inl 1, .inl 2, .inl 1, .inl 2, .inl 1, .inl 2, .inl 1, .inl 2, .inl 1, .inl 2, .inl 1, .inl 2, .inl 1, .inl 2, .inl 1, .inl 2, .inl 1, .inl 2, .inl 1, .inl 2, .inl 1, .inl 2, .inl 1, .inl 2, .inl 1, .inl 2, .inl 1, .inl 2, .inl 1, .inl 2, .inl 1, .inl 2, .inl 1, .inl 2, .inl 1, .inl 2, .inl 1, .inl 2, .inl 1, .inl 2, .inl 1, .inl 2, .inl 1, .inl 2, .inl 1, .inl 0, .inl 0, .inl 0, .inl 0, .inl 0, .inl 0, .inl 3, .inr (0, 4), .inr (4, 16), .inr (2, 16), .inr (7, 6), .inr (1, 4), .inr (0, 4), .inl 1, .inl 1, .inl 1, .inl 1, .inl 1, .inl 1, .inl 1, .inl 1, .inl 1, .inl 1, .inl 1, .inl 1, .inl 1, .inl 1, .inl 1, .inl 1, .inl 4, .inl 4, .inl 4, .inl 4, .inl 4, .inl 4, .inl 3, .inr (0, 4), .inr (4, 16), .inr (2, 16), .inr (7, 6), .inr (1, 4), .inr (0, 4), .inl 1, .inl 1, .inl 1, .inl 1, .inl 1, .inl 1, .inl 1, .inl 1, .inl 1, .inl 1, .inl 1, .inl 1, .inl 1, .inl 1, .inl 1, .inl 1, .inl 4, .inl 4, .inl 4, .inl 4, .inl 4, .inl 4, .inl 10, .inr (0, 144), .inr (0, 12), .inr (0, 12), .inr (0, 16), .inr (0, 16), .inr (0, 16), .inr (0, 16), .inr (0, 16), .inr (0, 6), .inr (0, 6), .inr (0, 6), .inr (0, 6), .inr (0, 6), .inr (0, 6), .inr (0, 6), .inr (1, 3), .inr (0, 3), .inr (2, 3), .inr (0, 4), .inr (0, 4), .inr (1, 4), .inr (0, 8), .inr (0, 8), .inr (1, 8), .inr (0, 2), .inr (2, 48), .inr (0, 48), .inr (0, 48), .inr (0, 48), .inr (0, 48), .inr (0, 48), .inr (0, 48), .inr (0, 48), .inr (0, 48), .inr (0, 48), .inr (2, 48), .inr (2, 12), .inr (0, 12), .inr (0, 12), .inr (0, 12), .inr (0, 12), .inr (2, 12), .inr (0, 49), .inr (0, 49), .inr (0, 49), .inr (0, 49), .inr (0, 49), .inr (0, 49), .inr (0, 49), .inr (0, 49), .inr (0, 49), .inr (0, 49), .inr (0, 49), .inr (0, 49), .inr (0, 49), .inr (1, 49), .inr (1, 1)]
/-- the references: all but the letters' places (w) and the removed letter (rem) stay as they are made -/
def kR (w : Nat → Nat) (rem : Nat) (a k : Nat) : Nat := match a with
  | 1 => [2, 6, 11, 12, 13, 33].getD k 0
  | 2 => [3, 4, 5].getD k 0
  | 6 => [7, 8, 9, 10].getD k 0
  | 11 => if k < 6 then 135 + k else 0
  | 12 => if k < 2 then 141 + 29 * k else 0
  | 13 => [0, 14, 15, 16].getD k 0
  | 14 => if k < 16 then 17 + k else 0
  | 33 => if k = 0 then 34 else if k = 2 then rem else 0
  | 34 => w k
  | 199 => [200, 0, 201, 202, 203, 204, 205, 206, 207, 208, 209, 210, 211, 212, 213, 214, 215, 216, 217, 218, 219, 220, 0, 221, 222, 223, 224, 225, 226, 227, 228, 229, 230, 231, 232, 233, 234, 235, 236, 237, 238, 239, 240, 241, 0, 242, 243, 244, 245, 246, 247, 248, 249, 250, 251, 252, 253, 254, 255, 0].getD k 0
  | a => if a = 141 ∨ a = 170 then (if 4 ≤ k ∧ k < 10 then a + k - 3 else 0) else if a = 143 ∨ a = 172 then (if k < 16 then a + 5 + k else 0) else if a = 145 ∨ a = 174 then (if k < 6 then a + 19 + k else 0) else if 35 ≤ a ∧ a < 135 ∧ a % 2 = 1 ∧ k = 10 then a + 1 else 0
def k_w0 : Nat → Nat := fun k => if k < 49 then 37 + 2 * k else 0
def f_2 : f_M := (199, [.inl 4, .inl 4, .inl 4, .inl 4, .inl 4, .inl 4, .inl 1, .inl 1, .inl 1, .inl 1, .inl 1, .inl 1, .inl 1, .inl 1, .inl 1, .inl 1, .inl 1, .inl 1, .inl 1, .inl 1, .inl 1, .inl 1, .inr (0, 4), .inr (1, 4), .inr (7, 6), .inr (2, 16), .inr (4, 16), .inr (0, 4), .inl 3, .inl 4, .inl 4, .inl 4, .inl 4, .inl 4, .inl 4, .inl 1, .inl 1, .inl 1, .inl 1, .inl 1, .inl 1, .inl 1, .inl 1, .inl 1, .inl 1, .inl 1, .inl 1, .inl 1, .inl 1, .inl 1, .inl 1, .inr (0, 4), .inr (1, 4), .inr (7, 6), .inr (2, 16), .inr (4, 16), .inr (0, 4), .inl 3, .inl 0, .inl 0, .inl 0, .inl 0, .inl 0, .inl 0, .inl 1, .inl 2, .inl 1, .inl 2, .inl 1, .inl 2, .inl 1, .inl 2, .inl 1, .inl 2, .inl 1, .inl 2, .inl 1, .inl 2, .inl 1, .inl 2, .inl 1, .inl 2, .inl 1, .inl 2, .inl 1, .inl 2, .inl 1, .inl 2, .inl 1, .inl 2, .inl 1, .inl 2, .inl 1, .inl 2, .inl 1, .inl 2, .inl 1, .inl 2, .inl 1, .inl 2, .inl 1, .inl 2, .inl 1, .inl 2, .inl 1, .inl 2, .inl 1, .inl 2, .inl 1, .inl 2, .inl 1, .inl 2, .inl 1, .inl 2, .inl 1, .inl 2, .inl 1, .inl 2, .inl 1, .inl 2, .inl 1, .inl 2, .inl 1, .inl 2, .inl 1, .inl 2, .inl 1, .inl 2, .inl 1, .inl 2, .inl 1, .inl 2, .inl 1, .inl 2, .inl 1, .inl 2, .inl 1, .inl 2, .inl 1, .inl 2, .inl 1, .inl 2, .inl 1, .inl 2, .inl 1, .inl 2, .inl 1, .inl 2, .inl 1, .inl 2, .inl 1, .inl 2, .inl 1, .inl 2, .inl 1, .inl 2, .inl 1, .inl 2, .inl 1, .inl 2, .inl 1, .inl 2, .inl 1, .inl 2, .inr (5, 49), .inl 6, .inl 1, .inl 1, .inl 1, .inl 1, .inl 1, .inl 1, .inl 1, .inl 1, .inl 1, .inl 1, .inl 1, .inl 1, .inl 1, .inl 1, .inl 1, .inl 1, .inr (1, 4), .inr (0, 4), .inr (4, 16), .inl 8, .inr (6, 2), .inr (3, 6), .inr (0, 16), .inr (0, 16), .inr (0, 16), .inr (0, 16), .inl 7, .inr (0, 144), .inr (0, 12), .inr (0, 12), .inl 9, .inl 5, .inr (99, 0)], [(170, 1, 50), (141, 1, 50), (140, 4, -1), (140, 0, 0), (139, 4, -1), (139, 0, 0), (138, 4, -1), (138, 0, 0), (137, 4, -1), (137, 0, 0), (136, 4, -1), (136, 0, 0), (135, 4, -1), (135, 0, 0), (15, 3, -1), (15, 2, -1), (15, 1, -1), (15, 0, -1), (9, 15, 1), (9, 14, 1), (9, 13, 1), (9, 12, 1), (9, 11, 1), (9, 10, 1), (9, 9, 1), (9, 8, 1), (9, 7, 1), (9, 6, 1), (9, 5, 1), (9, 4, 1), (9, 3, 1), (9, 2, 1), (9, 1, 1), (9, 0, 1)], [(12, 1, 170), (174, 5, 198), (174, 4, 197), (174, 3, 196), (174, 2, 195), (174, 1, 194), (174, 0, 193), (172, 15, 192), (172, 14, 191), (172, 13, 190), (172, 12, 189), (172, 11, 188), (172, 10, 187), (172, 9, 186), (172, 8, 185), (172, 7, 184), (172, 6, 183), (172, 5, 182), (172, 4, 181), (172, 3, 180), (172, 2, 179), (172, 1, 178), (172, 0, 177), (170, 9, 176), (170, 8, 175), (170, 7, 174), (170, 6, 173), (170, 5, 172), (170, 4, 171), (12, 0, 141), (145, 5, 169), (145, 4, 168), (145, 3, 167), (145, 2, 166), (145, 1, 165), (145, 0, 164), (143, 15, 163), (143, 14, 162), (143, 13, 161), (143, 12, 160), (143, 11, 159), (143, 10, 158), (143, 9, 157), (143, 8, 156), (143, 7, 155), (143, 6, 154), (143, 5, 153), (143, 4, 152), (143, 3, 151), (143, 2, 150), (143, 1, 149), (143, 0, 148), (141, 9, 147), (141, 8, 146), (141, 7, 145), (141, 6, 144), (141, 5, 143), (141, 4, 142), (11, 5, 140), (11, 4, 139), (11, 3, 138), (11, 2, 137), (11, 1, 136), (11, 0, 135), (1, 5, 33), (34, 48, 133), (133, 10, 134), (34, 47, 131), (131, 10, 132), (34, 46, 129), (129, 10, 130), (34, 45, 127), (127, 10, 128), (34, 44, 125), (125, 10, 126), (34, 43, 123), (123, 10, 124), (34, 42, 121), (121, 10, 122), (34, 41, 119), (119, 10, 120), (34, 40, 117), (117, 10, 118), (34, 39, 115), (115, 10, 116), (34, 38, 113), (113, 10, 114), (34, 37, 111), (111, 10, 112), (34, 36, 109), (109, 10, 110), (34, 35, 107), (107, 10, 108), (34, 34, 105), (105, 10, 106), (34, 33, 103), (103, 10, 104), (34, 32, 101), (101, 10, 102), (34, 31, 99), (99, 10, 100), (34, 30, 97), (97, 10, 98), (34, 29, 95), (95, 10, 96), (34, 28, 93), (93, 10, 94), (34, 27, 91), (91, 10, 92), (34, 26, 89), (89, 10, 90), (34, 25, 87), (87, 10, 88), (34, 24, 85), (85, 10, 86), (34, 23, 83), (83, 10, 84), (34, 22, 81), (81, 10, 82), (34, 21, 79), (79, 10, 80), (34, 20, 77), (77, 10, 78), (34, 19, 75), (75, 10, 76), (34, 18, 73), (73, 10, 74), (34, 17, 71), (71, 10, 72), (34, 16, 69), (69, 10, 70), (34, 15, 67), (67, 10, 68), (34, 14, 65), (65, 10, 66), (34, 13, 63), (63, 10, 64), (34, 12, 61), (61, 10, 62), (34, 11, 59), (59, 10, 60), (34, 10, 57), (57, 10, 58), (34, 9, 55), (55, 10, 56), (34, 8, 53), (53, 10, 54), (34, 7, 51), (51, 10, 52), (34, 6, 49), (49, 10, 50), (34, 5, 47), (47, 10, 48), (34, 4, 45), (45, 10, 46), (34, 3, 43), (43, 10, 44), (34, 2, 41), (41, 10, 42), (34, 1, 39), (39, 10, 40), (34, 0, 37), (37, 10, 38), (33, 2, 35), (35, 10, 36), (33, 0, 34), (1, 4, 13), (14, 15, 32), (14, 14, 31), (14, 13, 30), (14, 12, 29), (14, 11, 28), (14, 10, 27), (14, 9, 26), (14, 8, 25), (14, 7, 24), (14, 6, 23), (14, 5, 22), (14, 4, 21), (14, 3, 20), (14, 2, 19), (14, 1, 18), (14, 0, 17), (13, 3, 16), (13, 2, 15), (13, 1, 14), (1, 3, 12), (1, 2, 11), (1, 1, 6), (6, 3, 10), (6, 2, 9), (6, 1, 8), (6, 0, 7), (1, 0, 2), (2, 2, 5), (2, 1, 4), (2, 0, 3)], [(170, 0, true), (141, 0, true)])
def f_4 : f_M := (256, [.inr (1, 49), .inr (0, 49), .inr (0, 49), .inr (0, 49), .inr (0, 49), .inr (0, 49), .inr (0, 49), .inr (0, 49), .inr (0, 49), .inr (0, 49), .inr (0, 49), .inr (0, 49), .inr (0, 49), .inr (0, 49), .inr (2, 12), .inr (0, 12), .inr (0, 12), .inr (0, 12), .inr (0, 12), .inr (2, 12), .inr (2, 48), .inr (0, 48), .inr (0, 48), .inr (0, 48), .inr (0, 48), .inr (0, 48), .inr (0, 48), .inr (0, 48), .inr (0, 48), .inr (0, 48), .inr (2, 48), .inr (0, 2), .inr (1, 8), .inr (0, 8), .inr (0, 8), .inr (1, 4), .inr (0, 4), .inr (0, 4), .inr (2, 3), .inr (0, 3), .inr (1, 3), .inr (0, 6), .inr (0, 6), .inr (0, 6), .inr (0, 6), .inr (0, 6), .inr (0, 6), .inr (0, 6), .inr (0, 16), .inr (0, 16), .inr (0, 16), .inr (0, 16), .inr (0, 16), .inr (0, 12), .inr (0, 12), .inr (0, 144), .inl 10, .inl 4, .inl 4, .inl 4, .inl 4, .inl 4, .inl 4, .inl 1, .inl 1, .inl 1, .inl 1, .inl 1, .inl 1, .inl 1, .inl 1, .inl 1, .inl 1, .inl 1, .inl 1, .inl 1, .inl 1, .inl 1, .inl 1, .inr (0, 4), .inr (1, 4), .inr (7, 6), .inr (2, 16), .inr (4, 16), .inr (0, 4), .inl 3, .inl 4, .inl 4, .inl 4, .inl 4, .inl 4, .inl 4, .inl 1, .inl 1, .inl 1, .inl 1, .inl 1, .inl 1, .inl 1, .inl 1, .inl 1, .inl 1, .inl 1, .inl 1, .inl 1, .inl 1, .inl 1, .inl 1, .inr (0, 4), .inr (1, 4), .inr (7, 6), .inr (2, 16), .inr (4, 16), .inr (0, 4), .inl 3, .inl 0, .inl 0, .inl 0, .inl 0, .inl 0, .inl 0, .inl 1, .inl 2, .inl 1, .inl 2, .inl 1, .inl 2, .inl 1, .inl 2, .inl 1, .inl 2, .inl 1, .inl 2, .inl 1, .inl 2, .inl 1, .inl 2, .inl 1, .inl 2, .inl 1, .inl 2, .inl 1, .inl 2, .inl 1, .inl 2, .inl 1, .inl 2, .inl 1, .inl 2, .inl 1, .inl 2, .inl 1, .inl 2, .inl 1, .inl 2, .inl 1, .inl 2, .inl 1, .inl 2, .inl 1, .inl 2, .inl 1, .inl 2, .inl 1, .inl 2, .inl 1, .inl 2, .inl 1, .inl 2, .inl 1, .inl 2, .inl 1, .inl 2, .inl 1, .inl 2, .inl 1, .inl 2, .inl 1, .inl 2, .inl 1, .inl 2, .inl 1, .inl 2, .inl 1, .inl 2, .inl 1, .inl 2, .inl 1, .inl 2, .inl 1, .inl 2, .inl 1, .inl 2, .inl 1, .inl 2, .inl 1, .inl 2, .inl 1, .inl 2, .inl 1, .inl 2, .inl 1, .inl 2, .inl 1, .inl 2, .inl 1, .inl 2, .inl 1, .inl 2, .inl 1, .inl 2, .inl 1, .inl 2, .inl 1, .inl 2, .inl 1, .inl 2, .inl 1, .inl 2, .inl 1, .inl 2, .inr (5, 49), .inl 6, .inl 1, .inl 1, .inl 1, .inl 1, .inl 1, .inl 1, .inl 1, .inl 1, .inl 1, .inl 1, .inl 1, .inl 1, .inl 1, .inl 1, .inl 1, .inl 1, .inr (1, 4), .inr (0, 4), .inr (4, 16), .inl 8, .inr (6, 2), .inr (3, 6), .inr (0, 16), .inr (0, 16), .inr (0, 16), .inr (0, 16), .inl 7, .inr (0, 144), .inr (0, 12), .inr (0, 12), .inl 9, .inl 5, .inr (99, 0)], [(218, 3, -1), (218, 2, -1), (218, 1, -1), (218, 0, -1), (216, 2, 50), (216, 1, 50), (216, 0, 50), (211, 5, -1), (211, 4, -1), (211, 3, -1), (211, 2, -1), (211, 1, -1), (211, 0, -1), (203, 15, 1), (203, 14, 1), (203, 13, 1), (203, 12, 1), (203, 11, 1), (203, 10, 1), (203, 9, 1), (203, 8, 1), (203, 7, 1), (203, 6, 1), (203, 5, 1), (203, 4, 1), (203, 3, 1), (203, 2, 1), (203, 1, 1), (203, 0, 1), (170, 1, 50), (141, 1, 50), (140, 4, -1), (140, 0, 0), (139, 4, -1), (139, 0, 0), (138, 4, -1), (138, 0, 0), (137, 4, -1), (137, 0, 0), (136, 4, -1), (136, 0, 0), (135, 4, -1), (135, 0, 0), (15, 3, -1), (15, 2, -1), (15, 1, -1), (15, 0, -1), (9, 15, 1), (9, 14, 1), (9, 13, 1), (9, 12, 1), (9, 11, 1), (9, 10, 1), (9, 9, 1), (9, 8, 1), (9, 7, 1), (9, 6, 1), (9, 5, 1), (9, 4, 1), (9, 3, 1), (9, 2, 1), (9, 1, 1), (9, 0, 1)], [(199, 58, 255), (199, 57, 254), (199, 56, 253), (199, 55, 252), (199, 54, 251), (199, 53, 250), (199, 52, 249), (199, 51, 248), (199, 50, 247), (199, 49, 246), (199, 48, 245), (199, 47, 244), (199, 46, 243), (199, 45, 242), (199, 43, 241), (199, 42, 240), (199, 41, 239), (199, 40, 238), (199, 39, 237), (199, 38, 236), (199, 37, 235), (199, 36, 234), (199, 35, 233), (199, 34, 232), (199, 33, 231), (199, 32, 230), (199, 31, 229), (199, 30, 228), (199, 29, 227), (199, 28, 226), (199, 27, 225), (199, 26, 224), (199, 25, 223), (199, 24, 222), (199, 23, 221), (199, 21, 220), (199, 20, 219), (199, 19, 218), (199, 18, 217), (199, 17, 216), (199, 16, 215), (199, 15, 214), (199, 14, 213), (199, 13, 212), (199, 12, 211), (199, 11, 210), (199, 10, 209), (199, 9, 208), (199, 8, 207), (199, 7, 206), (199, 6, 205), (199, 5, 204), (199, 4, 203), (199, 3, 202), (199, 2, 201), (199, 0, 200), (12, 1, 170), (174, 5, 198), (174, 4, 197), (174, 3, 196), (174, 2, 195), (174, 1, 194), (174, 0, 193), (172, 15, 192), (172, 14, 191), (172, 13, 190), (172, 12, 189), (172, 11, 188), (172, 10, 187), (172, 9, 186), (172, 8, 185), (172, 7, 184), (172, 6, 183), (172, 5, 182), (172, 4, 181), (172, 3, 180), (172, 2, 179), (172, 1, 178), (172, 0, 177), (170, 9, 176), (170, 8, 175), (170, 7, 174), (170, 6, 173), (170, 5, 172), (170, 4, 171), (12, 0, 141), (145, 5, 169), (145, 4, 168), (145, 3, 167), (145, 2, 166), (145, 1, 165), (145, 0, 164), (143, 15, 163), (143, 14, 162), (143, 13, 161), (143, 12, 160), (143, 11, 159), (143, 10, 158), (143, 9, 157), (143, 8, 156), (143, 7, 155), (143, 6, 154), (143, 5, 153), (143, 4, 152), (143, 3, 151), (143, 2, 150), (143, 1, 149), (143, 0, 148), (141, 9, 147), (141, 8, 146), (141, 7, 145), (141, 6, 144), (141, 5, 143), (141, 4, 142), (11, 5, 140), (11, 4, 139), (11, 3, 138), (11, 2, 137), (11, 1, 136), (11, 0, 135), (1, 5, 33), (34, 48, 133), (133, 10, 134), (34, 47, 131), (131, 10, 132), (34, 46, 129), (129, 10, 130), (34, 45, 127), (127, 10, 128), (34, 44, 125), (125, 10, 126), (34, 43, 123), (123, 10, 124), (34, 42, 121), (121, 10, 122), (34, 41, 119), (119, 10, 120), (34, 40, 117), (117, 10, 118), (34, 39, 115), (115, 10, 116), (34, 38, 113), (113, 10, 114), (34, 37, 111), (111, 10, 112), (34, 36, 109), (109, 10, 110), (34, 35, 107), (107, 10, 108), (34, 34, 105), (105, 10, 106), (34, 33, 103), (103, 10, 104), (34, 32, 101), (101, 10, 102), (34, 31, 99), (99, 10, 100), (34, 30, 97), (97, 10, 98), (34, 29, 95), (95, 10, 96), (34, 28, 93), (93, 10, 94), (34, 27, 91), (91, 10, 92), (34, 26, 89), (89, 10, 90), (34, 25, 87), (87, 10, 88), (34, 24, 85), (85, 10, 86), (34, 23, 83), (83, 10, 84), (34, 22, 81), (81, 10, 82), (34, 21, 79), (79, 10, 80), (34, 20, 77), (77, 10, 78), (34, 19, 75), (75, 10, 76), (34, 18, 73), (73, 10, 74), (34, 17, 71), (71, 10, 72), (34, 16, 69), (69, 10, 70), (34, 15, 67), (67, 10, 68), (34, 14, 65), (65, 10, 66), (34, 13, 63), (63, 10, 64), (34, 12, 61), (61, 10, 62), (34, 11, 59), (59, 10, 60), (34, 10, 57), (57, 10, 58), (34, 9, 55), (55, 10, 56), (34, 8, 53), (53, 10, 54), (34, 7, 51), (51, 10, 52), (34, 6, 49), (49, 10, 50), (34, 5, 47), (47, 10, 48), (34, 4, 45), (45, 10, 46), (34, 3, 43), (43, 10, 44), (34, 2, 41), (41, 10, 42), (34, 1, 39), (39, 10, 40), (34, 0, 37), (37, 10, 38), (33, 2, 35), (35, 10, 36), (33, 0, 34), (1, 4, 13), (14, 15, 32), (14, 14, 31), (14, 13, 30), (14, 12, 29), (14, 11, 28), (14, 10, 27), (14, 9, 26), (14, 8, 25), (14, 7, 24), (14, 6, 23), (14, 5, 22), (14, 4, 21), (14, 3, 20), (14, 2, 19), (14, 1, 18), (14, 0, 17), (13, 3, 16), (13, 2, 15), (13, 1, 14), (1, 3, 12), (1, 2, 11), (1, 1, 6), (6, 3, 10), (6, 2, 9), (6, 1, 8), (6, 0, 7), (1, 0, 2), (2, 2, 5), (2, 1, 4), (2, 0, 3)], [(170, 0, true), (141, 0, true)])
def f_5 : f_M := f_new f_4 (.inr (1, 1))
def k_I0 : Nat → Nat → Int32 := fun a k => f_get 0 a k f_4.2.2.1
def k_Z0 : Nat → Nat → Bool := fun a k => f_get false a k f_4.2.2.2.2
def k_s1 : s_S := (k_I0, fun _ _ => 0, kR k_w0 35, k_Z0)
def f_eq1 : List s_K → List s_K → Bool
  | [], [] => true
  | .inl a :: r, .inl b :: t => Nat.beq a b && f_eq1 r t
  | .inr (a, n) :: r, .inr (b, m) :: t => (Nat.beq a b && Nat.beq n m) && f_eq1 r t
  | _, _ => false
def f_eq2 : List (Nat × Nat × Int32) → List (Nat × Nat × Int32) → Bool
  | [], [] => true
  | (a, k, x) :: r, (b, l, y) :: t => (Nat.beq a b && Nat.beq k l && decide (x = y)) && f_eq2 r t
  | _, _ => false
def f_eq3 : List (Nat × Nat × Nat) → List (Nat × Nat × Nat) → Bool
  | [], [] => true
  | (a, k, x) :: r, (b, l, y) :: t => (Nat.beq a b && Nat.beq k l && Nat.beq x y) && f_eq3 r t
  | _, _ => false
def f_eq4 : List (Nat × Nat × Bool) → List (Nat × Nat × Bool) → Bool
  | [], [] => true
  | (a, k, x) :: r, (b, l, y) :: t => (Nat.beq a b && Nat.beq k l && (x == y)) && f_eq4 r t
  | _, _ => false
theorem f_eq1_ok : ∀ l t, f_eq1 l t = true → l = t := by
  intro l
  induction l with
  | nil => intro t h; cases t with
    | nil => rfl
    | cons e r => cases e <;> simp [f_eq1] at h
  | cons e r ih =>
    intro t h
    cases t with
    | nil => rcases e with a | ⟨a, n⟩ <;> simp [f_eq1] at h
    | cons e' r' =>
      rcases e with a | ⟨a, n⟩ <;> rcases e' with b | ⟨b, m⟩ <;> simp only [f_eq1, Bool.and_eq_true] at h
      · rw [Nat.eq_of_beq_eq_true h.1, ih _ h.2]
      · cases h
      · cases h
      · rw [Nat.eq_of_beq_eq_true h.1.1, Nat.eq_of_beq_eq_true h.1.2, ih _ h.2]
theorem f_eq2_ok : ∀ l t, f_eq2 l t = true → l = t := by
  intro l
  induction l with
  | nil => intro t h; cases t with
    | nil => rfl
    | cons e r => simp [f_eq2] at h
  | cons e r ih =>
    intro t h
    cases t with
    | nil => simp [f_eq2] at h
    | cons e' r' =>
      obtain ⟨a, k, x⟩ := e
      obtain ⟨b, l, y⟩ := e'
      simp only [f_eq2, Bool.and_eq_true, decide_eq_true_eq] at h
      rw [Nat.eq_of_beq_eq_true h.1.1.1, Nat.eq_of_beq_eq_true h.1.1.2, h.1.2, ih _ h.2]
theorem f_eq3_ok : ∀ l t, f_eq3 l t = true → l = t := by
  intro l
  induction l with
  | nil => intro t h; cases t with
    | nil => rfl
    | cons e r => simp [f_eq3] at h
  | cons e r ih =>
    intro t h
    cases t with
    | nil => simp [f_eq3] at h
    | cons e' r' =>
      obtain ⟨a, k, x⟩ := e
      obtain ⟨b, l, y⟩ := e'
      simp only [f_eq3, Bool.and_eq_true] at h
      rw [Nat.eq_of_beq_eq_true h.1.1.1, Nat.eq_of_beq_eq_true h.1.1.2, Nat.eq_of_beq_eq_true h.1.2, ih _ h.2]
theorem f_eq4_ok : ∀ l t, f_eq4 l t = true → l = t := by
  intro l
  induction l with
  | nil => intro t h; cases t with
    | nil => rfl
    | cons e r => simp [f_eq4] at h
  | cons e r ih =>
    intro t h
    cases t with
    | nil => simp [f_eq4] at h
    | cons e' r' =>
      obtain ⟨a, k, x⟩ := e
      obtain ⟨b, l, y⟩ := e'
      simp only [f_eq4, Bool.and_eq_true, beq_iff_eq] at h
      rw [Nat.eq_of_beq_eq_true h.1.1.1, Nat.eq_of_beq_eq_true h.1.1.2, h.1.2, ih _ h.2]
def f_eq (o : Option f_M) (G : f_M) : Bool := match o with
  | none => false
  | some F => Nat.beq F.1 G.1 && f_eq1 F.2.1 G.2.1 && f_eq2 F.2.2.1 G.2.2.1 && f_eq3 F.2.2.2.1 G.2.2.2.1 && f_eq4 F.2.2.2.2 G.2.2.2.2
theorem f_eq_ok {o : Option f_M} {G : f_M} (h : f_eq o G = true) : o = some G := by
  cases o with
  | none => cases h
  | some F =>
    simp only [f_eq, Bool.and_eq_true] at h
    obtain ⟨⟨⟨⟨h1, h2⟩, h3⟩, h4⟩, h5⟩ := h
    obtain ⟨n, a, b, c, d⟩ := F
    obtain ⟨n', a', b', c', d'⟩ := G
    rw [show n = n' from Nat.eq_of_beq_eq_true h1, show a = a' from f_eq1_ok _ _ h2, show b = b' from f_eq2_ok _ _ h3, show c = c' from f_eq3_ok _ _ h4, show d = d' from f_eq4_ok _ _ h5]
theorem f_2ok : f_ex 4000 (k_t 0) (0, [(0, .ref 1)], [], f_1, 0, 0) = some f_2 := f_eq_ok (by decide +kernel)
theorem f_4ok : f_ex 4000 (k_t 104) (0, [(0, .ref 199)], [], f_new f_2 (.inl 10), 0, 0) = some f_4 := f_eq_ok (by decide +kernel)
def f_rs (e : s_K) (k : Nat) : Bool := match e with
  | .inl ci => f_ref ((k_ft ci).getD k .int)
  | .inr (t, _) => Nat.blt 2 t
def f_sz : s_K → Nat
  | .inl ci => (k_ft ci).length
  | .inr (_, n) => n
theorem f_5sh : f_5.2.1.reverse = sh1 := f_eq1_ok _ _ (by decide +kernel)
theorem f_5ok : (List.range 257).all (fun i => match sh1[i]? with
  | some e => (List.range (f_sz e)).all (fun k => cond (f_rs e k) (Nat.beq (f_get 0 i k f_4.2.2.2.1) (kR k_w0 35 i k)) true)
  | none => true) = true := by decide +kernel
theorem sh1_len : sh1.length = 257 := by decide +kernel
theorem arrV_ext {cA : ClassId} {n : Nat} {f g : Nat → Value} (h : ∀ j, j < n → f j = g j) : arrV cA n f = arrV cA n g := by
  unfold arrV
  congr 1
  apply Array.ext
  · simp
  · intro i h1 h2
    simp at h1
    simp [h i h1]
theorem s_e_ext {B : Nat} {dA : Nat → ClassId} {D : va_G} {cl : List vw_C} {q : Nat} {e : s_K} {ρ ρ' : s_R} {H : Heap} (hi : ρ.1 = ρ'.1) (hj : ρ.2.1 = ρ'.2.1) (hz : ρ.2.2.2 = ρ'.2.2.2) (h : ∀ j, j < f_sz e → f_rs e j = true → ρ.2.2.1 j = ρ'.2.2.1 j)
    (hok : ∀ ci, e = .inl ci → ci < k_no) (ha : va_at D cl (q, s_e B dA ρ e) H) : va_at D cl (q, s_e B dA ρ' e) H := by
  cases e with
  | inl ci =>
    have he : (k_ft ci).mapIdx (fun k ty => s_v B ρ k ty) = (k_ft ci).mapIdx (fun k ty => s_v B ρ' k ty) := by
      apply List.ext_getElem?
      intro j
      rw [List.getElem?_mapIdx, List.getElem?_mapIdx]
      cases hj' : (k_ft ci)[j]? with
      | none => rfl
      | some ty =>
        have hlt : j < (k_ft ci).length := (List.getElem?_eq_some_iff.mp hj').1
        have hty : (k_ft ci).getD j .int = ty := by rw [List.getD_eq_getElem?_getD, hj']; rfl
        have h1 := h j hlt
        have h2 := k_tyok ci (hok ci rfl) j hlt
        unfold f_rs at h1
        simp only [hty] at h1 h2
        show some (s_v B ρ j ty) = some (s_v B ρ' j ty)
        cases ty <;> first | (simp only [s_v, hi, hj, hz]; done) | (simp only [s_v]; rw [h1 rfl]; done) | (cases h2)
    have ha' : va_at D cl (q, .inr (ci, (k_ft ci).mapIdx (fun k ty => s_v B ρ k ty))) H := ha
    rw [he] at ha'
    exact ha'
  | inr tn =>
    obtain ⟨t, n⟩ := tn
    rcases t with _ | _ | _ | t
    · have ha' : H[q]? = some (arrV (dA 0) n (fun j => .int (ρ.1 j))) := ha
      rw [hi] at ha'
      exact ha'
    · have ha' : H[q]? = some (arrV (dA 1) n (fun j => .long (ρ.2.1 j))) := ha
      rw [hj] at ha'
      exact ha'
    · have ha' : H[q]? = some (arrV (dA 2) n (fun j => .int (s_b (ρ.2.2.2 j)))) := ha
      rw [hz] at ha'
      exact ha'
    · have ha' : H[q]? = some (arrV (dA (t + 3)) n (fun j => va_rf (s_r B (ρ.2.2.1 j)))) := ha
      have h1 : ∀ j, j < n → ρ.2.2.1 j = ρ'.2.2.1 j := fun j hj => h j hj (Nat.blt_eq.mpr (by omega))
      rw [arrV_ext (fun j hj => by rw [h1 j hj])] at ha'
      exact ha'
theorem sh1_ok : ∀ e ∈ sh1, (match e with
  | .inl ci => Nat.blt ci k_no
  | _ => true) = true := by decide +kernel
theorem k_switch {B b Ln : Nat} {xs : Nat → Int32} {dA : Nat → ClassId} {D : va_G} {M : s_M} {U : State} {H : Heap} (hI : k_I B b Ln xs dA D M U H) (hr : f_rep f_5 M) : k_I B b Ln xs dA D (sh1, 0, k_s1) U H := by
  obtain ⟨r1, r2, r3, r4, r5, r6, r7, -⟩ := hr
  obtain ⟨h1, h2, h3, h4, h5, h6, h7, h8⟩ := hI
  have hM : M.1 = sh1 := r1.trans f_5sh
  refine ⟨by rw [h1, hM, r3], by rw [← hM]; exact h2, ?_, h4, h5, h6, h7, h8⟩
  intro k q hq
  rw [s_w_get] at hq
  cases he : sh1[k + 1]? with
  | none => rw [he] at hq; cases hq
  | some e =>
    rw [he] at hq
    cases hq
    have h9 := h3 k _ (s_w_at (by rw [hM]; exact he))
    refine s_e_ext ?_ ?_ ?_ (fun j hj hrs => ?_) (fun ci hci => ?_) h9
    · funext j; exact r4 (k + 1) j
    · funext j; exact r5 (k + 1) j
    · funext j; exact r7 (k + 1) j
    · have hlt : k + 1 < 257 := by
        have h0 := (List.getElem?_eq_some_iff.mp he).1
        rw [sh1_len] at h0
        exact h0
      have h10 := List.all_eq_true.mp f_5ok (k + 1) (List.mem_range.mpr hlt)
      rw [he] at h10
      have h11 := List.all_eq_true.mp h10 j (List.mem_range.mpr hj)
      rw [hrs] at h11
      show M.2.2.2.2.1 (k + 1) j = kR k_w0 35 (k + 1) j
      rw [r6]
      exact Nat.eq_of_beq_eq_true h11
    · subst hci
      have h12 := sh1_ok _ (List.mem_of_getElem? he)
      exact Nat.blt_eq.mp h12
end
section
/-! The law's first instructions: both objects are made, then the state is set down anew. -/
section Begin
variable {p : Program} {l : Launch} {e : Env} {s : State} {mI : MethodId} {args : Array Value} {below : List Frame} {meth : Method} {c : Code} {Qw : State → Prop}
variable {B b Ln : Nat} {xs : Nat → Int32} {dA : Nat → ClassId} {D : va_G} {m : Nat}
theorem i_one {ins : Instr} {len a1 a2 pl pc : Nat} {L : i_L} {st : List Value} {M : s_M} {ce sl : Nat} {P : Prop} {x' : i_C} (CX : x_C m p s mI args meth c) (hm : m < k_nm) (hat : i_at (k_t m).2.1 pc = some (ins, len, a1, a2, pl))
    (hs : i_st xs Ln (k_t m).2.2.2.2.1 (k_t m).2.2.2.2.2 ins a1 a2 pc L st M ce sl = some (P, x')) (hP : P)
    (k : i_N p l e (k_rm m) s mI args below meth c Qw B b Ln xs dA D m x') : i_N p l e (k_rm m) s mI args below meth c Qw B b Ln xs dA D m (pc, L, st, M, ce, sl) := by
  have hmem : (pc, ins, len, a1, a2, pl) ∈ (k_t m).2.1 := i_mem hat
  exact i_go CX (k_rmC hm) (k_rmS hm) (k_code hm _ hmem).2 (k_code hm _ hmem).1 hs hP k
theorem w_special (htr : l.stackTraces = false) {i len j na pl pc n : Nat} {L : i_L} {st : List Value} {M M' : s_M} {ce sl : Nat} (CX : x_C m p s mI args meth c) (hm : m < k_nm) (hat : i_at (k_t m).2.1 pc = some (.invokespecial i, len, j, na + 1, pl))
    (hrn : i_rn (st.drop (na + 1)) (st.take (na + 1)).reverse (k_t j).2.2.1 = true) (hlen : na + 1 ≤ st.length) (hrf : i_rf (st.take (na + 1)).reverse) (hce : ce + (k_t j).2.2.2.2.1 ≤ (k_t m).2.2.2.2.1) (hsl : sl + (k_t j).2.2.2.2.2 ≤ (k_t m).2.2.2.2.2)
    (h' : w_ex xs Ln n (k_t j) (0, lv_args 0 (st.take (na + 1)).reverse, [], M, 0, 0) (fun o M'' => o = .inl none ∧ M'' = M'))
    (k : i_N p l e (k_rm m) s mI args below meth c Qw B b Ln xs dA D m (pc + 3, L, st.drop (na + 1), M', ce + (k_t j).2.2.2.2.1, sl + (k_t j).2.2.2.2.2)) :
    i_N p l e (k_rm m) s mI args below meth c Qw B b Ln xs dA D m (pc, L, st, M, ce, sl) := by
  have hmem : (pc, Instr.invokespecial i, len, j, na + 1, pl) ∈ (k_t m).2.1 := i_mem hat
  have hd := (k_code hm _ hmem).1
  have hok := (k_code hm _ hmem).2
  obtain ⟨hx, hb, hml, hown, hts, hret, hlk, hnm, hex⟩ := id CX
  simp only [i_okb, Bool.and_eq_true, Bool.or_eq_true, decide_eq_true_eq] at hok
  obtain ⟨⟨⟨⟨⟨⟨rfl, hj⟩, hkd⟩, hpn⟩, hw⟩, hfr⟩, hlo⟩ := hok
  have hrn2 : i_rm (st.drop (na + 1)) = true ∧ Nat.ble (((st.take (na + 1)).reverse.map fun v => v.category).sum) (k_t j).2.2.1 = true := by simpa only [i_rn, Bool.and_eq_true] using hrn
  refine w_call (j := j) CX hm hj hd hfr hlo hrn hce hsl (w_met hj (Nat.le_of_ble_eq_true hrn2.2) (fun p e s mI args below meth c CX => w_go htr n j (Nat.lt_of_lt_of_le hj (by decide)) _ _ h' p e s mI args below meth c CX)) ?_ (fun v M'' hv => ?_) (fun x M'' hv => by cases hv.1)
  · intro ls H locs T hI hT X
    have hst : st = ((st.take (na + 1)).reverse).reverse ++ st.drop (na + 1) := w_split
    cases has : (st.take (na + 1)).reverse with
    | nil => rw [has] at hrf; exact hrf.elim
    | cons v0 As =>
      rw [has] at hrf hst
      cases v0 <;> first | exact hrf.elim | skip
      rename_i a
      obtain ⟨hn1, hn2, hn3⟩ := k_jspec hj hkd
      have hcnt : As.length = na := by
        have h1 : ((st.take (na + 1)).reverse).length = na + 1 := by rw [List.length_reverse, List.length_take]; omega
        rw [has] at h1
        simpa using h1
      have hstk : (F0 mI pc ls (st.map (k_cv B b))).stack = (As.map (k_cv B b)).reverse ++ .ref (B + a) :: (st.drop (na + 1)).map (k_cv B b) := by
        show st.map (k_cv B b) = _
        conv => lhs; rw [hst]
        simp [k_cv]
      have hlen2 : ∀ sig, parseMethodDescriptor (k_y j).desc = some sig → (As.map (k_cv B b)).length = sig.parameters.length := fun sig h => by
        rw [List.length_map, hcnt, ← hpn]
        exact k_jpn hj h
      rcases hw with hw | hw
      · exact x_frI X hx hown hn1 (i_word hts hw) (hts _ hn2) (hts _ hn3) (k_jmh hj) rfl hlen2 hstk (by rw [hb]; exact hd)
      · exact x_frIN X hx hown hn1 (i_word hts hw) (hts _ hn2) (hts _ hn3) (k_jmh hj) rfl hlen2 hstk (by rw [hb]; exact hd)
  · obtain ⟨h1, rfl⟩ := hv
    cases h1
    exact k
/-- from pc 23 back to the law's entry -/
theorem k_begin (htr : l.stackTraces = false) (CX : x_C 169 p s mI args meth c)
    (h : i_N p l e (k_rm 169) s mI args below meth c Qw B b Ln xs dA D 169 (23, [(4, .int 0), (3, .ref 256), (2, .ref 199), (1, .ref 1), (0, .retAddr 0)], [], (sh1, 0, k_s1), 256, 3783)) :
    i_N p l e (k_rm 169) s mI args below meth c Qw B b Ln xs dA D 169 (0, [(0, .retAddr 0)], [], k_M0, 0, 0) := by
  have hm : 169 < k_nm := by decide
  have r0 : f_rep f_0 k_M0 := ⟨rfl, rfl, rfl, fun _ _ => rfl, fun _ _ => rfl, fun _ _ => rfl, fun _ _ => rfl, fun _ h => (by cases h), fun _ h => (by cases h), fun _ h => (by cases h)⟩
  have r1 : f_rep f_1 (k_M0.1 ++ [.inl 5], 0, s_z k_M0.2.2 1) := f_rep_new r0 _
  obtain ⟨M2, r2, w2⟩ := f_ok (xs := xs) (Ln := Ln) _ _ _ _ _ _ _ _ _ f_2ok _ r1
  have l2 : M2.1.length = 199 := f_len r2
  have r3 : f_rep (f_new f_2 (.inl 10)) (M2.1 ++ [.inl 10], 0, s_z M2.2.2 199) := by
    have := f_rep_new r2 (.inl 10)
    rwa [l2] at this
  obtain ⟨M4, r4, w4⟩ := f_ok (xs := xs) (Ln := Ln) _ _ _ _ _ _ _ _ _ f_4ok _ r3
  have l4 : M4.1.length = 256 := f_len r4
  have r5 : f_rep f_5 (M4.1 ++ [.inr (1, 1)], 0, s_z M4.2.2 256) := by
    have := f_rep_new r4 (.inr (1, 1))
    rwa [l4] at this
  refine i_one (x' := (3, [(0, .retAddr 0)], [.ref 1], (k_M0.1 ++ [.inl 5], 0, s_z k_M0.2.2 1), 1, 6)) CX hm rfl rfl ⟨rfl, by decide, by decide⟩ ?_
  refine i_one (x' := (4, [(0, .retAddr 0)], [.ref 1, .ref 1], (k_M0.1 ++ [.inl 5], 0, s_z k_M0.2.2 1), 1, 6)) CX hm rfl rfl trivial ?_
  refine w_special (L := [(0, .retAddr 0)]) (M' := M2) htr CX hm rfl rfl (by decide) trivial (by decide) (by decide) w2 ?_
  refine i_one (x' := (8, [(1, .ref 1), (0, .retAddr 0)], [], M2, 198, 2099)) CX hm rfl rfl trivial ?_
  refine i_one (x' := (11, [(1, .ref 1), (0, .retAddr 0)], [.ref M2.1.length], (M2.1 ++ [.inl 10], 0, s_z M2.2.2 M2.1.length), 199, 2159)) CX hm rfl rfl ⟨r2.2.2.1, by decide, by decide⟩ ?_
  rw [l2]
  refine i_one (x' := (12, [(1, .ref 1), (0, .retAddr 0)], [.ref 199, .ref 199], (M2.1 ++ [.inl 10], 0, s_z M2.2.2 199), 199, 2159)) CX hm rfl rfl trivial ?_
  refine w_special (L := [(1, .ref 1), (0, .retAddr 0)]) (M' := M4) htr CX hm rfl rfl (by decide) trivial (by decide) (by decide) w4 ?_
  refine i_one (x' := (16, [(2, .ref 199), (1, .ref 1), (0, .retAddr 0)], [], M4, 255, 3782)) CX hm rfl rfl trivial ?_
  refine i_one (x' := (17, [(2, .ref 199), (1, .ref 1), (0, .retAddr 0)], [.int 1], M4, 255, 3782)) CX hm rfl rfl trivial ?_
  refine i_one (x' := (19, [(2, .ref 199), (1, .ref 1), (0, .retAddr 0)], [.ref M4.1.length], (M4.1 ++ [.inr (1, 1)], 0, s_z M4.2.2 M4.1.length), 256, 3783)) CX hm rfl rfl ⟨r4.2.2.1, rfl, by decide, by decide⟩ ?_
  rw [l4]
  refine i_one (x' := (20, [(3, .ref 256), (2, .ref 199), (1, .ref 1), (0, .retAddr 0)], [], (M4.1 ++ [.inr (1, 1)], 0, s_z M4.2.2 256), 256, 3783)) CX hm rfl rfl trivial ?_
  refine i_one (x' := (21, [(3, .ref 256), (2, .ref 199), (1, .ref 1), (0, .retAddr 0)], [.int 0], (M4.1 ++ [.inr (1, 1)], 0, s_z M4.2.2 256), 256, 3783)) CX hm rfl rfl trivial ?_
  refine i_one (x' := (23, [(4, .int 0), (3, .ref 256), (2, .ref 199), (1, .ref 1), (0, .retAddr 0)], [], (M4.1 ++ [.inr (1, 1)], 0, s_z M4.2.2 256), 256, 3783)) CX hm rfl rfl trivial ?_
  intro ls H locs hl hI hS
  exact h ls H locs hl (k_switch hI r5) hS
end Begin
/-- the claim's own start, out of a run of the small machine from pc 23 -/
theorem k_whole2 {p : Program} {e : Env} {s : State} {m : MethodId} {below : List Frame} {meth : Method} {c : Code} (l : Launch) (htr : l.stackTraces = false) {b L : Nat} {xs : Nat → Int32} (C0 : lw_At p s m meth c b L xs) (hnm : meth.name = "law") (hext : c.exceptionTable.toList = [])
    (hrun : w_P xs L (k_t 169) (23, [(4, .int 0), (3, .ref 256), (2, .ref 199), (1, .ref 1), (0, .retAddr 0)], [], (sh1, 0, k_s1), 256, 3783) (fun o _ => o = .inl (some (.int 1)))) :
    W p l e room_1 s m #[Value.ref b] below meth c s.heap [] 0 0 (lw_Z below #[Value.ref b] s) (entryFrame m ([Value.ref b] : List Value).toArray 8) := by
  obtain ⟨hall, dA, D, hI⟩ := k_startI C0
  obtain ⟨hx, hb, hr, hml, hown, hts, hX, hbl, hlk, hgv⟩ := C0
  obtain ⟨n, hn⟩ := hrun
  intro T hT X
  have CX : x_C 169 p s m #[Value.ref b] meth c := ⟨hx, hb, hml, hown, hall, hr, hlk, hnm, hext⟩
  have h0 := w_go (l := l) (B := s.heap.size - 1) (b := b) (Ln := L) (xs := xs) (dA := dA) (D := D) htr n 169 (by decide) _ _ hn p e s m #[Value.ref b] below meth c CX
  have h1 := k_begin htr CX h0
  have h2 := lv_entry [Value.ref b] (n := 8) (Nat.le_of_ble_eq_true rfl)
  rw [lg_entry_eq]
  have hR : k_rm 169 = room_1 := rfl
  rw [hR] at h1
  obtain ⟨t, a1, o, b1, b2, ⟨⟨o', M', hQ, hI', hF, hoc⟩, hW, Lw, hsame, hLw⟩⟩ := h1 _ s.heap [] h2 hI va_S.rf T hT X
  subst hQ
  cases hoc
  refine ⟨t, a1, _, b1, b2, rfl, ⟨_, rfl⟩, hW, hsame.weaken (fun y hy hlt => ?_) (Nat.le_refl _) (Nat.le_refl _)⟩
  have key : ∀ u v : Nat, u - 1 < v → v < u → False := fun u v h1 h2 => by omega
  exact (key s.heap.size y.base (hLw y hy) hlt).elim
end
section
/-! Logic over the small machine: the shapes stand still, the state is typed. -/
abbrev l_C : Type := Nat × i_L × List Value × s_S × Nat × Nat
def l_x (x : Nat) (c : l_C) : i_C := (c.1, c.2.1, c.2.2.1, (sh1, x, c.2.2.2.1), c.2.2.2.2.1, c.2.2.2.2.2)
section Logic
variable {xs : Nat → Int32} {Ln : Nat}
/-- from point c of method j the run ends with Q -/
def w_R (xs : Nat → Int32) (Ln : Nat) (j : Nat) (c : l_C) (Q : i_O → s_S → Prop) : Prop := ∀ x, w_P xs Ln (k_t j) (l_x x c) (fun o M => ∃ x' σ, M = (sh1, x', σ) ∧ Q o σ)
theorem w_R.mono {j : Nat} {c : l_C} {Q Q' : i_O → s_S → Prop} (h : w_R xs Ln j c Q) (hq : ∀ o σ, Q o σ → Q' o σ) : w_R xs Ln j c Q' := fun x => (h x).mono (fun _ _ ⟨x', σ, h1, h2⟩ => ⟨x', σ, h1, hq _ _ h2⟩)
theorem w_R.go {j : Nat} {c c' : l_C} {Q : i_O → s_S → Prop} (k : Nat) (h : w_R xs Ln j c' Q) (hk : ∀ n x Q', w_ex xs Ln n (k_t j) (l_x x c') Q' → w_ex xs Ln (n + k) (k_t j) (l_x x c) Q') : w_R xs Ln j c Q := fun x => (h x).go k (fun n h => hk n x _ h)
theorem w_R.ret {j : Nat} {c : l_C} {Q : i_O → s_S → Prop} (k : Nat) (o : i_O) (σ : s_S) (h : Q o σ) (hk : ∀ x Q', Q' o (sh1, x, σ) → w_ex xs Ln k (k_t j) (l_x x c) Q') : w_R xs Ln j c Q := fun x => ⟨k, hk x _ ⟨x, σ, rfl, h⟩⟩
theorem w_R.thr {j : Nat} {c : l_C} {Q : i_O → s_S → Prop} (k : Nat) (o : i_O) (σ : s_S) (h : Q o σ) (hk : ∀ x Q', Q' o (sh1, x + 1, σ) → w_ex xs Ln k (k_t j) (l_x x c) Q') : w_R xs Ln j c Q := fun x => ⟨k, hk x _ ⟨x + 1, σ, rfl, h⟩⟩
theorem w_R.br_eq {j : Nat} {x y : Int32} {t f : Nat} {c : i_L × List Value × s_S × Nat × Nat} {Q : i_O → s_S → Prop} (h1 : x = y → w_R xs Ln j (t, c) Q) (h2 : ¬ x = y → w_R xs Ln j (f, c) Q) : w_R xs Ln j (i_br .eq x y t f, c) Q := by
  by_cases h : x = y
  · rw [show i_br .eq x y t f = t from if_pos h]; exact h1 h
  · rw [show i_br .eq x y t f = f from if_neg h]; exact h2 h
theorem w_R.br_ne {j : Nat} {x y : Int32} {t f : Nat} {c : i_L × List Value × s_S × Nat × Nat} {Q : i_O → s_S → Prop} (h1 : ¬ x = y → w_R xs Ln j (t, c) Q) (h2 : x = y → w_R xs Ln j (f, c) Q) : w_R xs Ln j (i_br .ne x y t f, c) Q := by
  by_cases h : x = y
  · rw [show i_br .ne x y t f = f from if_pos h]; exact h2 h
  · rw [show i_br .ne x y t f = t from if_neg h]; exact h1 h
theorem w_R.br_lt {j : Nat} {x y : Int32} {t f : Nat} {c : i_L × List Value × s_S × Nat × Nat} {Q : i_O → s_S → Prop} (h1 : x < y → w_R xs Ln j (t, c) Q) (h2 : ¬ x < y → w_R xs Ln j (f, c) Q) : w_R xs Ln j (i_br .lt x y t f, c) Q := by
  by_cases h : x < y
  · rw [show i_br .lt x y t f = t from if_pos h]; exact h1 h
  · rw [show i_br .lt x y t f = f from if_neg h]; exact h2 h
theorem w_R.br_ge {j : Nat} {x y : Int32} {t f : Nat} {c : i_L × List Value × s_S × Nat × Nat} {Q : i_O → s_S → Prop} (h1 : ¬ x < y → w_R xs Ln j (t, c) Q) (h2 : x < y → w_R xs Ln j (f, c) Q) : w_R xs Ln j (i_br .ge x y t f, c) Q := by
  by_cases h : x < y
  · rw [show i_br .ge x y t f = f from if_neg (Int32.not_le.mpr h)]; exact h2 h
  · rw [show i_br .ge x y t f = t from if_pos (Int32.not_lt.mp h)]; exact h1 h
theorem w_R.br_gt {j : Nat} {x y : Int32} {t f : Nat} {c : i_L × List Value × s_S × Nat × Nat} {Q : i_O → s_S → Prop} (h1 : y < x → w_R xs Ln j (t, c) Q) (h2 : ¬ y < x → w_R xs Ln j (f, c) Q) : w_R xs Ln j (i_br .gt x y t f, c) Q := by
  by_cases h : y < x
  · rw [show i_br .gt x y t f = t from if_pos h]; exact h1 h
  · rw [show i_br .gt x y t f = f from if_neg h]; exact h2 h
theorem w_R.br_le {j : Nat} {x y : Int32} {t f : Nat} {c : i_L × List Value × s_S × Nat × Nat} {Q : i_O → s_S → Prop} (h1 : ¬ y < x → w_R xs Ln j (t, c) Q) (h2 : y < x → w_R xs Ln j (f, c) Q) : w_R xs Ln j (i_br .le x y t f, c) Q := by
  by_cases h : y < x
  · rw [show i_br .le x y t f = f from if_neg (Int32.not_le.mpr h)]; exact h2 h
  · rw [show i_br .le x y t f = t from if_pos (Int32.not_lt.mp h)]; exact h1 h
theorem w_R.br_z {j : Nat} {z : Bool} {t f : Nat} {c : i_L × List Value × s_S × Nat × Nat} {Q : i_O → s_S → Prop} (h1 : z = false → w_R xs Ln j (t, c) Q) (h2 : z = true → w_R xs Ln j (f, c) Q) : w_R xs Ln j (i_br .eq (s_b z) 0 t f, c) Q := by
  cases z
  · exact h1 rfl
  · exact h2 rfl
theorem w_R.br_nz {j : Nat} {z : Bool} {t f : Nat} {c : i_L × List Value × s_S × Nat × Nat} {Q : i_O → s_S → Prop} (h1 : z = true → w_R xs Ln j (t, c) Q) (h2 : z = false → w_R xs Ln j (f, c) Q) : w_R xs Ln j (i_br .ne (s_b z) 0 t f, c) Q := by
  cases z
  · exact h2 rfl
  · exact h1 rfl
/-- calls that return -/
theorem w_R.callV {j : Nat} {pc i len j' na pl ce sl ce' sl' : Nat} {L : i_L} {st as rest : List Value} {σ σ' : s_S} {v : Option Value} {Q : i_O → s_S → Prop} (h : w_R xs Ln j' (0, lv_args 0 as, [], σ, 0, 0) (fun o s => o = .inl v ∧ s = σ'))
    (hr : w_R xs Ln j (pc + 3, L, v.toList ++ rest, σ', ce', sl') Q) (hat : i_at (k_t j).2.1 pc = some (.invokevirtual i, len, j', na, pl)) (has : (st.take (na + 1)).reverse = as) (hre : st.drop (na + 1) = rest)
    (hrn : i_rn rest as (k_t j').2.2.1 = true) (hlen : Nat.ble (na + 1) st.length = true) (hrc : i_rc (k_rc j') (sh1, 0, σ) as) (h1 : ce + (k_t j').2.2.2.2.1 = ce') (h2 : sl + (k_t j').2.2.2.2.2 = sl') (h3 : Nat.ble ce' (k_t j).2.2.2.2.1 = true) (h4 : Nat.ble sl' (k_t j).2.2.2.2.2 = true) :
    w_R xs Ln j (pc, L, st, σ, ce, sl) Q := by
  subst h1
  subst h2
  intro x
  refine w_callV hat has hre hrn (Nat.le_of_ble_eq_true hlen) ?_ ⟨Nat.le_of_ble_eq_true h3, Nat.le_of_ble_eq_true h4⟩ (h x) (fun v' M' ⟨x', s, e1, e2, e3⟩ => ?_) (fun x1 M' ⟨x', s, e1, e2, e3⟩ => (by cases e2)) (fun x1 pc' k M' ⟨x', s, e1, e2, e3⟩ => (by cases e2))
  · subst has
    revert hrc
    generalize (st.take (na + 1)).reverse = as
    intro hrc
    cases as with
    | nil => exact hrc
    | cons a r => cases a <;> exact hrc
  · cases e2
    subst e3
    subst e1
    exact hr x'
theorem w_R.callS {j : Nat} {pc i len j' na pl ce sl ce' sl' : Nat} {L : i_L} {st as rest : List Value} {σ σ' : s_S} {v : Option Value} {Q : i_O → s_S → Prop} (h : w_R xs Ln j' (0, lv_args 0 as, [], σ, 0, 0) (fun o s => o = .inl v ∧ s = σ'))
    (hr : w_R xs Ln j (pc + 3, L, v.toList ++ rest, σ', ce', sl') Q) (hat : i_at (k_t j).2.1 pc = some (.invokestatic i, len, j', na + 1, pl)) (has : (st.take na).reverse = as) (hre : st.drop na = rest)
    (hrn : i_rn rest as (k_t j').2.2.1 = true) (hlen : Nat.ble na st.length = true) (h1 : ce + (k_t j').2.2.2.2.1 = ce') (h2 : sl + (k_t j').2.2.2.2.2 = sl') (h3 : Nat.ble ce' (k_t j).2.2.2.2.1 = true) (h4 : Nat.ble sl' (k_t j).2.2.2.2.2 = true) :
    w_R xs Ln j (pc, L, st, σ, ce, sl) Q := by
  subst h1
  subst h2
  intro x
  refine w_callS hat has hre hrn (Nat.le_of_ble_eq_true hlen) ⟨Nat.le_of_ble_eq_true h3, Nat.le_of_ble_eq_true h4⟩ (h x) (fun v' M' ⟨x', s, e1, e2, e3⟩ => ?_) (fun x1 M' ⟨x', s, e1, e2, e3⟩ => (by cases e2))
  cases e2
  subst e3
  subst e1
  exact hr x'
end Logic
end
section
/-! Locals that are not read may lie there. -/
section Drop
variable {xs : Nat → Int32} {Ln : Nat}
abbrev d_K (K : Nat → Bool) (L : i_L) : i_L := L.filter (fun q => !K q.1)
theorem d_ld {K : Nat → Bool} {k : Nat} {v : Value} : ∀ {L : i_L}, i_ld (d_K K L) k = some v → K k = false ∧ i_ld L k = some v := by
  intro L
  unfold i_ld
  induction L with
  | nil => intro h; cases h
  | cons e r ih =>
    obtain ⟨a, x⟩ := e
    intro h
    by_cases hK : K a = true
    · have h1 : d_K K ((a, x) :: r) = d_K K r := by simp [d_K, hK]
      rw [h1] at h
      obtain ⟨h2, h3⟩ := ih h
      refine ⟨h2, ?_⟩
      have hne : (k == a) = false := by
        rw [beq_eq_false_iff_ne]
        intro e
        subst e
        rw [h2] at hK
        cases hK
      rw [List.lookup_cons, hne]
      exact h3
    · have hK : K a = false := by simpa using hK
      have h1 : d_K K ((a, x) :: r) = (a, x) :: d_K K r := by simp [d_K, hK]
      rw [h1, List.lookup_cons] at h
      rw [List.lookup_cons]
      cases he : k == a with
      | true =>
        rw [he] at h
        rw [eq_of_beq he]
        exact ⟨hK, h⟩
      | false =>
        rw [he] at h
        exact ih h
theorem d_st {K : Nat → Bool} {L : i_L} {i : Nat} {v : Value} {f : Nat × Value → Bool} (hf : ∀ q, f q = true → q.1 ≠ i) : (i, v) :: (d_K K L).filter f = d_K (fun a => K a && !(a == i)) ((i, v) :: L.filter f) := by
  have h1 : d_K (fun a => K a && !(a == i)) ((i, v) :: L.filter f) = (i, v) :: d_K (fun a => K a && !(a == i)) (L.filter f) := by simp [d_K]
  rw [h1]
  congr 1
  unfold d_K
  rw [List.filter_filter, List.filter_filter]
  apply List.filter_congr
  intro q _
  cases hq : f q with
  | false => simp
  | true =>
    have := hf q hq
    simp [this]
theorem d_s1 {K : Nat → Bool} {L : i_L} {i : Nat} {v : Value} : i_s1 (d_K K L) i v = d_K (fun a => K a && !(a == i)) (i_s1 L i v) := by
  unfold i_s1
  refine d_st (fun q hq => ?_)
  simp only [Bool.and_eq_true, Bool.not_eq_true', beq_eq_false_iff_ne] at hq
  exact hq.1
theorem d_s2 {K : Nat → Bool} {L : i_L} {i : Nat} {v : Value} : i_s2 (d_K K L) i v = d_K (fun a => K a && !(a == i)) (i_s2 L i v) := by
  unfold i_s2
  refine d_st (fun q hq => ?_)
  simp only [Bool.and_eq_true, Bool.not_eq_true', beq_eq_false_iff_ne] at hq
  exact hq.1
set_option maxHeartbeats 4000000 in
theorem d_ist {K : Nat → Bool} {mc ms : Nat} {ins : Instr} {a1 a2 pc : Nat} {L : i_L} {st : List Value} {M : s_M} {ce sl : Nat} {P : Prop} {x' : i_C} (h : i_st xs Ln mc ms ins a1 a2 pc (d_K K L) st M ce sl = some (P, x')) :
    ∃ (L1 : i_L) (K' : Nat → Bool), i_st xs Ln mc ms ins a1 a2 pc L st M ce sl = some (P, x'.1, L1, x'.2.2) ∧ x'.2.1 = d_K K' L1 := by
  cases ins with
  | iload_n k => simp only [i_st] at h; split at h <;> first | (cases h; done) | (rename_i hx; cases h; exact ⟨L, K, by simp only [i_st, (d_ld hx).2], rfl⟩)
  | iload k => simp only [i_st] at h; split at h <;> first | (cases h; done) | (rename_i hx; cases h; exact ⟨L, K, by simp only [i_st, (d_ld hx).2], rfl⟩)
  | lload k => simp only [i_st] at h; split at h <;> first | (cases h; done) | (rename_i hx; cases h; exact ⟨L, K, by simp only [i_st, (d_ld hx).2], rfl⟩)
  | aload_n k => simp only [i_st] at h; split at h <;> first | (cases h; done) | (rename_i hx; cases h; exact ⟨L, K, by simp only [i_st, (d_ld hx).2], rfl⟩)
  | aload k => simp only [i_st] at h; split at h <;> first | (cases h; done) | (rename_i hx; cases h; exact ⟨L, K, by simp only [i_st, (d_ld hx).2], rfl⟩)
  | iinc k n => simp only [i_st] at h; split at h <;> first | (cases h; done) | (rename_i hx; cases h; exact ⟨_, _, by simp only [i_st, (d_ld hx).2], d_s1⟩)
  | istore_n k => simp only [i_st] at h; split at h <;> first | (cases h; done) | (cases h; exact ⟨_, _, rfl, d_s1⟩)
  | istore k => simp only [i_st] at h; split at h <;> first | (cases h; done) | (cases h; exact ⟨_, _, rfl, d_s1⟩)
  | astore_n k => simp only [i_st] at h; split at h <;> first | (cases h; done) | (cases h; exact ⟨_, _, rfl, d_s1⟩)
  | astore k => simp only [i_st] at h; split at h <;> first | (cases h; done) | (cases h; exact ⟨_, _, rfl, d_s1⟩)
  | lstore k => simp only [i_st] at h; split at h <;> first | (cases h; done) | (cases h; exact ⟨_, _, rfl, d_s2⟩)
  | putfield i =>
    simp only [i_st] at h
    split at h
    · split at h
      · rename_i hw
        cases h
        exact ⟨L, K, by simp only [i_st, hw], rfl⟩
      · cases h
    · cases h
  | iconst n => cases h; exact ⟨L, K, rfl, rfl⟩
  | bipush n => cases h; exact ⟨L, K, rfl, rfl⟩
  | sipush n => cases h; exact ⟨L, K, rfl, rfl⟩
  | lconst n => cases h; exact ⟨L, K, rfl, rfl⟩
  | ldc n => cases h; exact ⟨L, K, rfl, rfl⟩
  | ldc2_w n => cases h; exact ⟨L, K, rfl, rfl⟩
  | goto n => cases h; exact ⟨L, K, rfl, rfl⟩
  | _ => simp only [i_st] at h; first | (cases h; done) | (split at h <;> first | (cases h; done) | (cases h; exact ⟨L, K, rfl, rfl⟩))
theorem d_comm {K : Nat → Bool} {L : i_L} {f : Nat × Value → Bool} : (d_K K L).filter f = d_K K (L.filter f) := by
  unfold d_K
  rw [List.filter_filter, List.filter_filter]
  apply List.filter_congr
  intro q _
  exact Bool.and_comm _ _
/-- what is dropped may lie there -/
theorem w_drop : ∀ (n : Nat) (t : i_T) (pc : Nat) (L : i_L) (st : List Value) (M : s_M) (ce sl : Nat) (Q : i_O → s_M → Prop) (K : Nat → Bool), w_ex xs Ln n t (pc, d_K K L, st, M, ce, sl) Q → w_ex xs Ln n t (pc, L, st, M, ce, sl) Q := by
  intro n
  induction n with
  | zero => intro t pc L st M ce sl Q K h; exact absurd h (by unfold w_ex; exact id)
  | succ n ih =>
    intro t pc L st M ce sl Q K h
    have key : ∀ (ins : Instr) (a1 a2 : Nat), (match i_st xs Ln t.2.2.2.2.1 t.2.2.2.2.2 ins a1 a2 pc (d_K K L) st M ce sl with
        | none => False
        | some (P, c') => P ∧ w_ex xs Ln n t c' Q) → (match i_st xs Ln t.2.2.2.2.1 t.2.2.2.2.2 ins a1 a2 pc L st M ce sl with
        | none => False
        | some (P, c') => P ∧ w_ex xs Ln n t c' Q) := by
      intro ins a1 a2 hk
      split at hk
      · exact hk.elim
      · rename_i P c' hst
        obtain ⟨L1, K', h1, h2⟩ := d_ist hst
        obtain ⟨pc', L', st', M', ce', sl'⟩ := c'
        simp only at h1 h2
        subst h2
        rw [h1]
        exact ⟨hk.1, ih _ _ _ _ _ _ _ _ K' hk.2⟩
    unfold w_ex at h ⊢
    split at h
    · exact h.elim
    · rename_i ins len a1 a2 pl hat
      split at h
      · exact h
      · exact h
      · exact h
      · exact h
      · split at h
        · split at h
          · exact ⟨h.1, ih _ _ _ _ _ _ _ _ K h.2⟩
          · exact h.elim
        · refine ⟨h.1, h.2.1, h.2.2.1, h.2.2.2.1, w_mono xs Ln _ _ _ _ _ (fun o M' ho => ?_) h.2.2.2.2⟩
          cases o with
          | inl v => exact ih _ _ _ _ _ _ _ _ K ho
          | inr x => exact ho
      · split at h
        · split at h
          · exact ⟨h.1, h.2.1, ih _ _ _ _ _ _ _ _ K h.2.2⟩
          · exact h.elim
        · refine ⟨h.1, h.2.1, h.2.2.1, w_mono xs Ln _ _ _ _ _ (fun o M' ho => ?_) h.2.2.2⟩
          cases o with
          | inl v => exact ih _ _ _ _ _ _ _ _ K ho
          | inr x => exact ho
      · refine ⟨h.1, h.2.1, h.2.2.1, h.2.2.2.1, w_mono xs Ln _ _ _ _ _ (fun o M' ho => ?_) h.2.2.2.2⟩
        cases o with
        | inl v => exact ih _ _ _ _ _ _ _ _ K ho
        | inr x =>
          revert ho
          show (match k_hd t.1 x with
            | none => _
            | some (pc', k) => _) → (match k_hd t.1 x with
            | none => _
            | some (pc', k) => _)
          split
          · exact id
          · intro ho
            rw [d_comm] at ho
            exact ih _ _ _ _ _ _ _ _ K ho
      · rename_i ix
        split at h
        · exact key (.new ix) a1 0 h
        · exact h
      · exact key _ _ _ h
theorem w_R.drop {j pc : Nat} {L : i_L} {c : List Value × s_S × Nat × Nat} {Q : i_O → s_S → Prop} (K : Nat → Bool) (h : w_R xs Ln j (pc, d_K K L, c) Q) : w_R xs Ln j (pc, L, c) Q := by
  intro x
  obtain ⟨n, h1⟩ := h x
  exact ⟨n, w_drop n _ _ _ _ _ _ _ _ K h1⟩
end Drop
end
section
/-! Small numbers, the shapes of the objects, and where references lead. -/
theorem n_add (a b : Nat) : Int32.ofNat a + Int32.ofNat b = Int32.ofNat (a + b) := (Int32.ofNat_add a b).symm
theorem n_mul (a b : Nat) : Int32.ofNat a * Int32.ofNat b = Int32.ofNat (a * b) := (Int32.ofNat_mul a b).symm
theorem n_sub {a b : Nat} (h : b ≤ a) : Int32.ofNat a - Int32.ofNat b = Int32.ofNat (a - b) := by
  have h1 : Int32.ofNat a = Int32.ofNat (a - b) + Int32.ofNat b := by rw [n_add, Nat.sub_add_cancel h]
  rw [h1, Int32.add_sub_cancel]
theorem n_int {a : Nat} (h : a < 2 ^ 31) : (Int32.ofNat a).toInt = a := Int32.toInt_ofNat_of_lt h
theorem n_cl {a : Nat} (h : a < 2 ^ 31) : (Int32.ofNat a).toNatClampNeg = a := Int32.toNatClampNeg_ofNat_of_lt h
theorem n_lt {a b : Nat} (ha : a < 2 ^ 31) (hb : b < 2 ^ 31) : Int32.ofNat a < Int32.ofNat b ↔ a < b := by
  rw [Int32.lt_iff_toInt_lt, n_int ha, n_int hb]
  omega
theorem n_eq {a b : Nat} (ha : a < 2 ^ 31) (hb : b < 2 ^ 31) : Int32.ofNat a = Int32.ofNat b ↔ a = b := by
  rw [← Int32.toInt_inj, n_int ha, n_int hb]
  omega
theorem n_in {a n : Nat} (h : a < n) (hn : n ≤ 2 ^ 31) : vp_in (Int32.ofNat a) n := by
  rw [vp_in_iff, n_int (by omega)]
  omega
theorem n_of {x : Int32} {n : Nat} (h0 : 0 ≤ x.toInt) (h1 : x.toInt < (n : Int)) : ∃ k, k < n ∧ x = Int32.ofNat k := by
  have hx := x.toInt_lt
  refine ⟨x.toInt.toNat, by omega, ?_⟩
  rw [← Int32.toInt_inj, n_int (by omega)]
  omega
theorem sh_1 : sh1[1]? = some (.inl 5) := by decide +kernel
theorem sh_2 : sh1[2]? = some (.inl 9) := by decide +kernel
theorem sh_6 : sh1[6]? = some (.inl 7) := by decide +kernel
theorem sh_11 : sh1[11]? = some (.inr (3, 6)) := by decide +kernel
theorem sh_12 : sh1[12]? = some (.inr (6, 2)) := by decide +kernel
theorem sh_13 : sh1[13]? = some (.inl 8) := by decide +kernel
theorem sh_14 : sh1[14]? = some (.inr (4, 16)) := by decide +kernel
theorem sh_33 : sh1[33]? = some (.inl 6) := by decide +kernel
theorem sh_34 : sh1[34]? = some (.inr (5, 49)) := by decide +kernel
theorem sh_199 : sh1[199]? = some (.inl 10) := by decide +kernel
theorem sh_3 : sh1[3]? = some (.inr (0, 12)) := by decide +kernel
theorem sh_4 : sh1[4]? = some (.inr (0, 12)) := by decide +kernel
theorem sh_5 : sh1[5]? = some (.inr (0, 144)) := by decide +kernel
theorem sh_7 : sh1[7]? = some (.inr (0, 16)) := by decide +kernel
theorem sh_8 : sh1[8]? = some (.inr (0, 16)) := by decide +kernel
theorem sh_9 : sh1[9]? = some (.inr (0, 16)) := by decide +kernel
theorem sh_10 : sh1[10]? = some (.inr (0, 16)) := by decide +kernel
theorem sh_15 : sh1[15]? = some (.inr (0, 4)) := by decide +kernel
theorem sh_16 : sh1[16]? = some (.inr (1, 4)) := by decide +kernel
theorem sh_200 : sh1[200]? = some (.inr (0, 144)) := by decide +kernel
theorem sh_201 : sh1[201]? = some (.inr (0, 12)) := by decide +kernel
theorem sh_202 : sh1[202]? = some (.inr (0, 12)) := by decide +kernel
theorem sh_203 : sh1[203]? = some (.inr (0, 16)) := by decide +kernel
theorem sh_204 : sh1[204]? = some (.inr (0, 16)) := by decide +kernel
theorem sh_205 : sh1[205]? = some (.inr (0, 16)) := by decide +kernel
theorem sh_206 : sh1[206]? = some (.inr (0, 16)) := by decide +kernel
theorem sh_207 : sh1[207]? = some (.inr (0, 16)) := by decide +kernel
theorem sh_208 : sh1[208]? = some (.inr (0, 6)) := by decide +kernel
theorem sh_209 : sh1[209]? = some (.inr (0, 6)) := by decide +kernel
theorem sh_210 : sh1[210]? = some (.inr (0, 6)) := by decide +kernel
theorem sh_211 : sh1[211]? = some (.inr (0, 6)) := by decide +kernel
theorem sh_212 : sh1[212]? = some (.inr (0, 6)) := by decide +kernel
theorem sh_213 : sh1[213]? = some (.inr (0, 6)) := by decide +kernel
theorem sh_214 : sh1[214]? = some (.inr (0, 6)) := by decide +kernel
theorem sh_215 : sh1[215]? = some (.inr (1, 3)) := by decide +kernel
theorem sh_216 : sh1[216]? = some (.inr (0, 3)) := by decide +kernel
theorem sh_217 : sh1[217]? = some (.inr (2, 3)) := by decide +kernel
theorem sh_218 : sh1[218]? = some (.inr (0, 4)) := by decide +kernel
theorem sh_219 : sh1[219]? = some (.inr (0, 4)) := by decide +kernel
theorem sh_220 : sh1[220]? = some (.inr (1, 4)) := by decide +kernel
theorem sh_221 : sh1[221]? = some (.inr (0, 8)) := by decide +kernel
theorem sh_222 : sh1[222]? = some (.inr (0, 8)) := by decide +kernel
theorem sh_223 : sh1[223]? = some (.inr (1, 8)) := by decide +kernel
theorem sh_224 : sh1[224]? = some (.inr (0, 2)) := by decide +kernel
theorem sh_225 : sh1[225]? = some (.inr (2, 48)) := by decide +kernel
theorem sh_226 : sh1[226]? = some (.inr (0, 48)) := by decide +kernel
theorem sh_227 : sh1[227]? = some (.inr (0, 48)) := by decide +kernel
theorem sh_228 : sh1[228]? = some (.inr (0, 48)) := by decide +kernel
theorem sh_229 : sh1[229]? = some (.inr (0, 48)) := by decide +kernel
theorem sh_230 : sh1[230]? = some (.inr (0, 48)) := by decide +kernel
theorem sh_231 : sh1[231]? = some (.inr (0, 48)) := by decide +kernel
theorem sh_232 : sh1[232]? = some (.inr (0, 48)) := by decide +kernel
theorem sh_233 : sh1[233]? = some (.inr (0, 48)) := by decide +kernel
theorem sh_234 : sh1[234]? = some (.inr (0, 48)) := by decide +kernel
theorem sh_235 : sh1[235]? = some (.inr (2, 48)) := by decide +kernel
theorem sh_236 : sh1[236]? = some (.inr (2, 12)) := by decide +kernel
theorem sh_237 : sh1[237]? = some (.inr (0, 12)) := by decide +kernel
theorem sh_238 : sh1[238]? = some (.inr (0, 12)) := by decide +kernel
theorem sh_239 : sh1[239]? = some (.inr (0, 12)) := by decide +kernel
theorem sh_240 : sh1[240]? = some (.inr (0, 12)) := by decide +kernel
theorem sh_241 : sh1[241]? = some (.inr (2, 12)) := by decide +kernel
theorem sh_242 : sh1[242]? = some (.inr (0, 49)) := by decide +kernel
theorem sh_243 : sh1[243]? = some (.inr (0, 49)) := by decide +kernel
theorem sh_244 : sh1[244]? = some (.inr (0, 49)) := by decide +kernel
theorem sh_245 : sh1[245]? = some (.inr (0, 49)) := by decide +kernel
theorem sh_246 : sh1[246]? = some (.inr (0, 49)) := by decide +kernel
theorem sh_247 : sh1[247]? = some (.inr (0, 49)) := by decide +kernel
theorem sh_248 : sh1[248]? = some (.inr (0, 49)) := by decide +kernel
theorem sh_249 : sh1[249]? = some (.inr (0, 49)) := by decide +kernel
theorem sh_250 : sh1[250]? = some (.inr (0, 49)) := by decide +kernel
theorem sh_251 : sh1[251]? = some (.inr (0, 49)) := by decide +kernel
theorem sh_252 : sh1[252]? = some (.inr (0, 49)) := by decide +kernel
theorem sh_253 : sh1[253]? = some (.inr (0, 49)) := by decide +kernel
theorem sh_254 : sh1[254]? = some (.inr (0, 49)) := by decide +kernel
theorem sh_255 : sh1[255]? = some (.inr (1, 49)) := by decide +kernel
theorem sh_256 : sh1[256]? = some (.inr (1, 1)) := by decide +kernel
theorem sh_amb {u : Nat} (hu : u < 6) : sh1[135 + u]? = some (.inl 0) := by
  have h : ∀ q : Fin 6, sh1[135 + q.1]? = some (.inl 0) := by decide +kernel
  exact h ⟨u, hu⟩
theorem sh_room {r : Nat} (hr : r < 2) : sh1[141 + 29 * r]? = some (.inl 3) := by
  have h : ∀ q : Fin 2, sh1[141 + 29 * q.1]? = some (.inl 3) := by decide +kernel
  exact h ⟨r, hr⟩
theorem sh_room4 {r : Nat} (hr : r < 2) : sh1[142 + 29 * r]? = some (.inr (0, 4)) := by
  have h : ∀ q : Fin 2, sh1[142 + 29 * q.1]? = some (.inr (0, 4)) := by decide +kernel
  exact h ⟨r, hr⟩
theorem sh_room5 {r : Nat} (hr : r < 2) : sh1[143 + 29 * r]? = some (.inr (4, 16)) := by
  have h : ∀ q : Fin 2, sh1[143 + 29 * q.1]? = some (.inr (4, 16)) := by decide +kernel
  exact h ⟨r, hr⟩
theorem sh_room6 {r : Nat} (hr : r < 2) : sh1[144 + 29 * r]? = some (.inr (2, 16)) := by
  have h : ∀ q : Fin 2, sh1[144 + 29 * q.1]? = some (.inr (2, 16)) := by decide +kernel
  exact h ⟨r, hr⟩
theorem sh_room7 {r : Nat} (hr : r < 2) : sh1[145 + 29 * r]? = some (.inr (7, 6)) := by
  have h : ∀ q : Fin 2, sh1[145 + 29 * q.1]? = some (.inr (7, 6)) := by decide +kernel
  exact h ⟨r, hr⟩
theorem sh_room8 {r : Nat} (hr : r < 2) : sh1[146 + 29 * r]? = some (.inr (1, 4)) := by
  have h : ∀ q : Fin 2, sh1[146 + 29 * q.1]? = some (.inr (1, 4)) := by decide +kernel
  exact h ⟨r, hr⟩
theorem sh_room9 {r : Nat} (hr : r < 2) : sh1[147 + 29 * r]? = some (.inr (0, 4)) := by
  have h : ∀ q : Fin 2, sh1[147 + 29 * q.1]? = some (.inr (0, 4)) := by decide +kernel
  exact h ⟨r, hr⟩
theorem sh_rec {r c : Nat} (hr : r < 2) (hc : c < 16) : sh1[148 + 29 * r + c]? = some (.inl 1) := by
  have h : ∀ (q : Fin 2) (p : Fin 16), sh1[148 + 29 * q.1 + p.1]? = some (.inl 1) := by decide +kernel
  exact h ⟨r, hr⟩ ⟨c, hc⟩
theorem sh_sight {r u : Nat} (hr : r < 2) (hu : u < 6) : sh1[164 + 29 * r + u]? = some (.inl 4) := by
  have h : ∀ (q : Fin 2) (p : Fin 6), sh1[164 + 29 * q.1 + p.1]? = some (.inl 4) := by decide +kernel
  exact h ⟨r, hr⟩ ⟨u, hu⟩
theorem sh_rrec {c : Nat} (hc : c < 16) : sh1[17 + c]? = some (.inl 1) := by
  have h : ∀ q : Fin 16, sh1[17 + q.1]? = some (.inl 1) := by decide +kernel
  exact h ⟨c, hc⟩
theorem sh_let {i : Nat} (hi : i < 50) : sh1[35 + 2 * i]? = some (.inl 2) := by
  have h : ∀ q : Fin 50, sh1[35 + 2 * q.1]? = some (.inl 2) := by decide +kernel
  exact h ⟨i, hi⟩
theorem sh_letrec {i : Nat} (hi : i < 50) : sh1[36 + 2 * i]? = some (.inl 1) := by
  have h : ∀ q : Fin 50, sh1[36 + 2 * q.1]? = some (.inl 1) := by decide +kernel
  exact h ⟨i, hi⟩
theorem s_upe {α : Type} (f : Nat → Nat → α) (a k : Nat) (v : α) : s_up f a k v a k = v := by simp [s_up, va_up]
theorem s_upk {α : Type} {f : Nat → Nat → α} {a k b q : Nat} {v : α} (h : q ≠ k) : s_up f a k v b q = f b q := by
  unfold s_up va_up
  by_cases hb : b = a
  · subst hb; simp [h]
  · simp [hb]
theorem s_upa {α : Type} {f : Nat → Nat → α} {a k b q : Nat} {v : α} (h : b ≠ a) : s_up f a k v b q = f b q := by
  unfold s_up va_up
  simp [h]
section Refs
variable {w : Nat → Nat} {rem : Nat}
theorem r_amb {u : Nat} (hu : u < 6) : kR w rem 11 u = 135 + u := if_pos hu
theorem r_room {r : Nat} (hr : r < 2) : kR w rem 12 r = 141 + 29 * r := if_pos hr
theorem r_rrec {c : Nat} (hc : c < 16) : kR w rem 14 c = 17 + c := if_pos hc
theorem r_room4 {r : Nat} (hr : r < 2) : kR w rem (141 + 29 * r) 4 = 142 + 29 * r := by
  rcases r with _ | _ | r
  · rfl
  · rfl
  · omega
theorem r_room5 {r : Nat} (hr : r < 2) : kR w rem (141 + 29 * r) 5 = 143 + 29 * r := by
  rcases r with _ | _ | r
  · rfl
  · rfl
  · omega
theorem r_room6 {r : Nat} (hr : r < 2) : kR w rem (141 + 29 * r) 6 = 144 + 29 * r := by
  rcases r with _ | _ | r
  · rfl
  · rfl
  · omega
theorem r_room7 {r : Nat} (hr : r < 2) : kR w rem (141 + 29 * r) 7 = 145 + 29 * r := by
  rcases r with _ | _ | r
  · rfl
  · rfl
  · omega
theorem r_room8 {r : Nat} (hr : r < 2) : kR w rem (141 + 29 * r) 8 = 146 + 29 * r := by
  rcases r with _ | _ | r
  · rfl
  · rfl
  · omega
theorem r_room9 {r : Nat} (hr : r < 2) : kR w rem (141 + 29 * r) 9 = 147 + 29 * r := by
  rcases r with _ | _ | r
  · rfl
  · rfl
  · omega
theorem r_rec {r c : Nat} (hr : r < 2) (hc : c < 16) : kR w rem (143 + 29 * r) c = 148 + 29 * r + c := by
  rcases r with _ | _ | r
  · exact if_pos hc
  · exact if_pos hc
  · omega
theorem r_sight {r u : Nat} (hr : r < 2) (hu : u < 6) : kR w rem (145 + 29 * r) u = 164 + 29 * r + u := by
  rcases r with _ | _ | r
  · exact if_pos hu
  · exact if_pos hu
  · omega
theorem r_let {i : Nat} (hi : i < 50) : kR w rem (35 + 2 * i) 10 = 36 + 2 * i := by
  have h : ∀ q : Fin 50, kR (fun _ => 0) 0 (35 + 2 * q.1) 10 = 36 + 2 * q.1 := by decide +kernel
  have h2 : ∀ q : Fin 50, 35 + 2 * q.1 ≠ 33 ∧ 35 + 2 * q.1 ≠ 34 := by decide +kernel
  rw [← h ⟨i, hi⟩]
  obtain ⟨q, hq⟩ : ∃ q, q = 35 + 2 * i := ⟨_, rfl⟩
  have h3 := h2 ⟨i, hi⟩
  simp only [← hq] at h3 ⊢
  unfold kR
  split <;> first | rfl | (exfalso; omega)
end Refs
end
section
section Small
variable {xs : Nat → Int32} {Ln : Nat} {I : Nat → Nat → Int32} {J : Nat → Nat → Int64} {Z : Nat → Nat → Bool} {w : Nat → Nat} {rem : Nat}
theorem l_b (z : Bool) : s_b z = 0 ∨ s_b z = 1 := by cases z <;> simp [s_b]
theorem l_bz (z : Bool) : (!(s_b z == 0)) = z := by cases z <;> rfl
def l_in (x : Int32) (n : Nat) : Bool := decide (0 ≤ x.toInt ∧ x.toInt < (n : Int))
theorem l_lo {x : Int32} {n : Nat} (h : x < 0) : l_in x n = false := by
  rw [Int32.lt_iff_toInt_lt, Int32.toInt_zero] at h
  exact decide_eq_false (by omega)
theorem l_hi {x y : Int32} {n : Nat} (h : ¬ x < y) (hy : y.toInt = (n : Int)) : l_in x n = false := by
  rw [Int32.lt_iff_toInt_lt, hy] at h
  exact decide_eq_false (by omega)
theorem l_yes {x y : Int32} {n : Nat} (h0 : ¬ x < 0) (h : x < y) (hy : y.toInt = (n : Int)) : l_in x n = true := by
  rw [Int32.lt_iff_toInt_lt, hy] at h
  rw [Int32.lt_iff_toInt_lt, Int32.toInt_zero] at h0
  exact decide_eq_true (by omega)
theorem l_of {x : Int32} {n : Nat} (h : l_in x n = true) : ∃ k, k < n ∧ x = Int32.ofNat k := by
  have h := of_decide_eq_true h
  exact n_of h.1 h.2
theorem d_28 (x : Int32) : w_R xs Ln 28 (0, [(0, .int x)], [], (I, J, kR w rem, Z), 0, 0) (fun o s => o = .inl (some (.int (s_b (l_in x 12)))) ∧ s = (I, J, kR w rem, Z)) := by
  refine w_R.go (c' := (i_br .lt x 0 14 4, [(0, .int x)], [], (I, J, kR w rem, Z), 0, 0)) 2 ?_ (fun n x Q h => ⟨trivial, trivial, h⟩)
  refine w_R.br_lt (fun h1 => ?_) (fun h1 => ?_)
  · refine w_R.ret 2 (.inl (some (.int 0))) (I, J, kR w rem, Z) ?_ (fun x Q h => ⟨trivial, Or.inl rfl, ⟨Nat.le_of_ble_eq_true rfl, Nat.le_of_ble_eq_true rfl⟩, h⟩)
    exact ⟨by rw [show l_in x 12 = false from by first | exact l_lo (by assumption) | exact l_hi (by assumption) rfl | exact l_yes (by assumption) (by assumption) rfl]; rfl, rfl⟩
  · refine w_R.go (c' := (i_br .ge x 12 14 10, [(0, .int x)], [], (I, J, kR w rem, Z), 0, 0)) 3 ?_ (fun n x Q h => ⟨trivial, trivial, trivial, h⟩)
    refine w_R.br_ge (fun h2 => ?_) (fun h2 => ?_)
    · refine w_R.ret 2 (.inl (some (.int 0))) (I, J, kR w rem, Z) ?_ (fun x Q h => ⟨trivial, Or.inl rfl, ⟨Nat.le_of_ble_eq_true rfl, Nat.le_of_ble_eq_true rfl⟩, h⟩)
      exact ⟨by rw [show l_in x 12 = false from by first | exact l_lo (by assumption) | exact l_hi (by assumption) rfl | exact l_yes (by assumption) (by assumption) rfl]; rfl, rfl⟩
    · refine w_R.ret 3 (.inl (some (.int 1))) (I, J, kR w rem, Z) ?_ (fun x Q h => ⟨trivial, trivial, Or.inr rfl, ⟨Nat.le_of_ble_eq_true rfl, Nat.le_of_ble_eq_true rfl⟩, h⟩)
      exact ⟨by rw [show l_in x 12 = true from by first | exact l_lo (by assumption) | exact l_hi (by assumption) rfl | exact l_yes (by assumption) (by assumption) rfl]; rfl, rfl⟩
theorem d_29 (x : Int32) : w_R xs Ln 29 (0, [(0, .int x)], [], (I, J, kR w rem, Z), 0, 0) (fun o s => o = .inl (some (.int (s_b (l_in x 4)))) ∧ s = (I, J, kR w rem, Z)) := by
  refine w_R.go (c' := (i_br .lt x 0 13 4, [(0, .int x)], [], (I, J, kR w rem, Z), 0, 0)) 2 ?_ (fun n x Q h => ⟨trivial, trivial, h⟩)
  refine w_R.br_lt (fun h1 => ?_) (fun h1 => ?_)
  · refine w_R.ret 2 (.inl (some (.int 0))) (I, J, kR w rem, Z) ?_ (fun x Q h => ⟨trivial, Or.inl rfl, ⟨Nat.le_of_ble_eq_true rfl, Nat.le_of_ble_eq_true rfl⟩, h⟩)
    exact ⟨by rw [show l_in x 4 = false from by first | exact l_lo (by assumption) | exact l_hi (by assumption) rfl | exact l_yes (by assumption) (by assumption) rfl]; rfl, rfl⟩
  · refine w_R.go (c' := (i_br .ge x 4 13 9, [(0, .int x)], [], (I, J, kR w rem, Z), 0, 0)) 3 ?_ (fun n x Q h => ⟨trivial, trivial, trivial, h⟩)
    refine w_R.br_ge (fun h2 => ?_) (fun h2 => ?_)
    · refine w_R.ret 2 (.inl (some (.int 0))) (I, J, kR w rem, Z) ?_ (fun x Q h => ⟨trivial, Or.inl rfl, ⟨Nat.le_of_ble_eq_true rfl, Nat.le_of_ble_eq_true rfl⟩, h⟩)
      exact ⟨by rw [show l_in x 4 = false from by first | exact l_lo (by assumption) | exact l_hi (by assumption) rfl | exact l_yes (by assumption) (by assumption) rfl]; rfl, rfl⟩
    · refine w_R.ret 3 (.inl (some (.int 1))) (I, J, kR w rem, Z) ?_ (fun x Q h => ⟨trivial, trivial, Or.inr rfl, ⟨Nat.le_of_ble_eq_true rfl, Nat.le_of_ble_eq_true rfl⟩, h⟩)
      exact ⟨by rw [show l_in x 4 = true from by first | exact l_lo (by assumption) | exact l_hi (by assumption) rfl | exact l_yes (by assumption) (by assumption) rfl]; rfl, rfl⟩
theorem d_30 (x : Int32) : w_R xs Ln 30 (0, [(0, .int x)], [], (I, J, kR w rem, Z), 0, 0) (fun o s => o = .inl (some (.int (s_b (l_in x 16)))) ∧ s = (I, J, kR w rem, Z)) := by
  refine w_R.go (c' := (i_br .lt x 0 14 4, [(0, .int x)], [], (I, J, kR w rem, Z), 0, 0)) 2 ?_ (fun n x Q h => ⟨trivial, trivial, h⟩)
  refine w_R.br_lt (fun h1 => ?_) (fun h1 => ?_)
  · refine w_R.ret 2 (.inl (some (.int 0))) (I, J, kR w rem, Z) ?_ (fun x Q h => ⟨trivial, Or.inl rfl, ⟨Nat.le_of_ble_eq_true rfl, Nat.le_of_ble_eq_true rfl⟩, h⟩)
    exact ⟨by rw [show l_in x 16 = false from by first | exact l_lo (by assumption) | exact l_hi (by assumption) rfl | exact l_yes (by assumption) (by assumption) rfl]; rfl, rfl⟩
  · refine w_R.go (c' := (i_br .ge x 16 14 10, [(0, .int x)], [], (I, J, kR w rem, Z), 0, 0)) 3 ?_ (fun n x Q h => ⟨trivial, trivial, trivial, h⟩)
    refine w_R.br_ge (fun h2 => ?_) (fun h2 => ?_)
    · refine w_R.ret 2 (.inl (some (.int 0))) (I, J, kR w rem, Z) ?_ (fun x Q h => ⟨trivial, Or.inl rfl, ⟨Nat.le_of_ble_eq_true rfl, Nat.le_of_ble_eq_true rfl⟩, h⟩)
      exact ⟨by rw [show l_in x 16 = false from by first | exact l_lo (by assumption) | exact l_hi (by assumption) rfl | exact l_yes (by assumption) (by assumption) rfl]; rfl, rfl⟩
    · refine w_R.ret 3 (.inl (some (.int 1))) (I, J, kR w rem, Z) ?_ (fun x Q h => ⟨trivial, trivial, Or.inr rfl, ⟨Nat.le_of_ble_eq_true rfl, Nat.le_of_ble_eq_true rfl⟩, h⟩)
      exact ⟨by rw [show l_in x 16 = true from by first | exact l_lo (by assumption) | exact l_hi (by assumption) rfl | exact l_yes (by assumption) (by assumption) rfl]; rfl, rfl⟩
theorem d_31 (x : Int32) : w_R xs Ln 31 (0, [(0, .int x)], [], (I, J, kR w rem, Z), 0, 0) (fun o s => o = .inl (some (.int (s_b (l_in x 6)))) ∧ s = (I, J, kR w rem, Z)) := by
  refine w_R.go (c' := (i_br .lt x 0 14 4, [(0, .int x)], [], (I, J, kR w rem, Z), 0, 0)) 2 ?_ (fun n x Q h => ⟨trivial, trivial, h⟩)
  refine w_R.br_lt (fun h1 => ?_) (fun h1 => ?_)
  · refine w_R.ret 2 (.inl (some (.int 0))) (I, J, kR w rem, Z) ?_ (fun x Q h => ⟨trivial, Or.inl rfl, ⟨Nat.le_of_ble_eq_true rfl, Nat.le_of_ble_eq_true rfl⟩, h⟩)
    exact ⟨by rw [show l_in x 6 = false from by first | exact l_lo (by assumption) | exact l_hi (by assumption) rfl | exact l_yes (by assumption) (by assumption) rfl]; rfl, rfl⟩
  · refine w_R.go (c' := (i_br .ge x 6 14 10, [(0, .int x)], [], (I, J, kR w rem, Z), 0, 0)) 3 ?_ (fun n x Q h => ⟨trivial, trivial, trivial, h⟩)
    refine w_R.br_ge (fun h2 => ?_) (fun h2 => ?_)
    · refine w_R.ret 2 (.inl (some (.int 0))) (I, J, kR w rem, Z) ?_ (fun x Q h => ⟨trivial, Or.inl rfl, ⟨Nat.le_of_ble_eq_true rfl, Nat.le_of_ble_eq_true rfl⟩, h⟩)
      exact ⟨by rw [show l_in x 6 = false from by first | exact l_lo (by assumption) | exact l_hi (by assumption) rfl | exact l_yes (by assumption) (by assumption) rfl]; rfl, rfl⟩
    · refine w_R.ret 3 (.inl (some (.int 1))) (I, J, kR w rem, Z) ?_ (fun x Q h => ⟨trivial, trivial, Or.inr rfl, ⟨Nat.le_of_ble_eq_true rfl, Nat.le_of_ble_eq_true rfl⟩, h⟩)
      exact ⟨by rw [show l_in x 6 = true from by first | exact l_lo (by assumption) | exact l_hi (by assumption) rfl | exact l_yes (by assumption) (by assumption) rfl]; rfl, rfl⟩
theorem d_32 (x : Int32) : w_R xs Ln 32 (0, [(0, .int x)], [], (I, J, kR w rem, Z), 0, 0) (fun o s => o = .inl (some (.int (s_b (l_in x 2)))) ∧ s = (I, J, kR w rem, Z)) := by
  refine w_R.go (c' := (i_br .lt x 0 13 4, [(0, .int x)], [], (I, J, kR w rem, Z), 0, 0)) 2 ?_ (fun n x Q h => ⟨trivial, trivial, h⟩)
  refine w_R.br_lt (fun h1 => ?_) (fun h1 => ?_)
  · refine w_R.ret 2 (.inl (some (.int 0))) (I, J, kR w rem, Z) ?_ (fun x Q h => ⟨trivial, Or.inl rfl, ⟨Nat.le_of_ble_eq_true rfl, Nat.le_of_ble_eq_true rfl⟩, h⟩)
    exact ⟨by rw [show l_in x 2 = false from by first | exact l_lo (by assumption) | exact l_hi (by assumption) rfl | exact l_yes (by assumption) (by assumption) rfl]; rfl, rfl⟩
  · refine w_R.go (c' := (i_br .ge x 2 13 9, [(0, .int x)], [], (I, J, kR w rem, Z), 0, 0)) 3 ?_ (fun n x Q h => ⟨trivial, trivial, trivial, h⟩)
    refine w_R.br_ge (fun h2 => ?_) (fun h2 => ?_)
    · refine w_R.ret 2 (.inl (some (.int 0))) (I, J, kR w rem, Z) ?_ (fun x Q h => ⟨trivial, Or.inl rfl, ⟨Nat.le_of_ble_eq_true rfl, Nat.le_of_ble_eq_true rfl⟩, h⟩)
      exact ⟨by rw [show l_in x 2 = false from by first | exact l_lo (by assumption) | exact l_hi (by assumption) rfl | exact l_yes (by assumption) (by assumption) rfl]; rfl, rfl⟩
    · refine w_R.ret 3 (.inl (some (.int 1))) (I, J, kR w rem, Z) ?_ (fun x Q h => ⟨trivial, trivial, Or.inr rfl, ⟨Nat.le_of_ble_eq_true rfl, Nat.le_of_ble_eq_true rfl⟩, h⟩)
      exact ⟨by rw [show l_in x 2 = true from by first | exact l_lo (by assumption) | exact l_hi (by assumption) rfl | exact l_yes (by assumption) (by assumption) rfl]; rfl, rfl⟩
theorem d_33 (x : Int32) : w_R xs Ln 33 (0, [(0, .int x)], [], (I, J, kR w rem, Z), 0, 0) (fun o s => o = .inl (some (.int (s_b (l_in x 16)))) ∧ s = (I, J, kR w rem, Z)) := by
  refine w_R.go (c' := (i_br .lt x 0 14 4, [(0, .int x)], [], (I, J, kR w rem, Z), 0, 0)) 2 ?_ (fun n x Q h => ⟨trivial, trivial, h⟩)
  refine w_R.br_lt (fun h1 => ?_) (fun h1 => ?_)
  · refine w_R.ret 2 (.inl (some (.int 0))) (I, J, kR w rem, Z) ?_ (fun x Q h => ⟨trivial, Or.inl rfl, ⟨Nat.le_of_ble_eq_true rfl, Nat.le_of_ble_eq_true rfl⟩, h⟩)
    exact ⟨by rw [show l_in x 16 = false from by first | exact l_lo (by assumption) | exact l_hi (by assumption) rfl | exact l_yes (by assumption) (by assumption) rfl]; rfl, rfl⟩
  · refine w_R.go (c' := (i_br .ge x 16 14 10, [(0, .int x)], [], (I, J, kR w rem, Z), 0, 0)) 3 ?_ (fun n x Q h => ⟨trivial, trivial, trivial, h⟩)
    refine w_R.br_ge (fun h2 => ?_) (fun h2 => ?_)
    · refine w_R.ret 2 (.inl (some (.int 0))) (I, J, kR w rem, Z) ?_ (fun x Q h => ⟨trivial, Or.inl rfl, ⟨Nat.le_of_ble_eq_true rfl, Nat.le_of_ble_eq_true rfl⟩, h⟩)
      exact ⟨by rw [show l_in x 16 = false from by first | exact l_lo (by assumption) | exact l_hi (by assumption) rfl | exact l_yes (by assumption) (by assumption) rfl]; rfl, rfl⟩
    · refine w_R.ret 3 (.inl (some (.int 1))) (I, J, kR w rem, Z) ?_ (fun x Q h => ⟨trivial, trivial, Or.inr rfl, ⟨Nat.le_of_ble_eq_true rfl, Nat.le_of_ble_eq_true rfl⟩, h⟩)
      exact ⟨by rw [show l_in x 16 = true from by first | exact l_lo (by assumption) | exact l_hi (by assumption) rfl | exact l_yes (by assumption) (by assumption) rfl]; rfl, rfl⟩
end Small
end
section
section Small2
variable {xs : Nat → Int32} {Ln : Nat} {I : Nat → Nat → Int32} {J : Nat → Nat → Int64} {Z : Nat → Nat → Bool} {w : Nat → Nat} {rem : Nat}
theorem l_out {x : Int32} {n : Nat} {a : Int} (hn : n < 2 ^ 31) (ha : (n : Int) = a + 1) (h : ∀ k, k < n → ¬ x = Int32.ofNat k) : x.toInt < 0 ∨ a < x.toInt := by
  by_cases h0 : 0 ≤ x.toInt
  · by_cases h1 : x.toInt < (n : Int)
    · obtain ⟨k, hk, e⟩ := n_of h0 h1
      exact absurd e (h k hk)
    · omega
  · omega
def v_55 (I : Nat → Nat → Int32) (J : Nat → Nat → Int64) (Z : Nat → Nat → Bool) (u : Nat) (x : Int32) : Bool := if x = (I (135 + u) 0) then true else if (I (135 + u) 0) = 0 then if x = 3 then true else if (I (135 + u) 0) = 3 then if x = 0 then true else if (I (135 + u) 0) = 1 then if x = 2 then true else if (I (135 + u) 0) = 2 then if x = 0 then true else false else false else if (I (135 + u) 0) = 2 then if x = 0 then true else false else false else if (I (135 + u) 0) = 1 then if x = 2 then true else if (I (135 + u) 0) = 2 then if x = 0 then true else false else false else if (I (135 + u) 0) = 2 then if x = 0 then true else false else false else if (I (135 + u) 0) = 3 then if x = 0 then true else if (I (135 + u) 0) = 1 then if x = 2 then true else if (I (135 + u) 0) = 2 then if x = 0 then true else false else false else if (I (135 + u) 0) = 2 then if x = 0 then true else false else false else if (I (135 + u) 0) = 1 then if x = 2 then true else if (I (135 + u) 0) = 2 then if x = 0 then true else false else false else if (I (135 + u) 0) = 2 then if x = 0 then true else false else false
theorem d_55 (u : Nat) (x : Int32) (hu : u < 6) : w_R xs Ln 55 (0, [(0, .ref (135 + u)), (1, .int x)], [], (I, J, kR w rem, Z), 0, 0) (fun o s => o = .inl (some (.int (s_b (v_55 I J Z u x)))) ∧ s = (I, J, kR w rem, Z)) := by
  refine w_R.go (c' := (i_br .eq x (I (135 + u) 0) 57 8, [(0, .ref (135 + u)), (1, .int x)], [], (I, J, kR w rem, Z), 0, 0)) 4 ?_ (fun m_ x_ Q_ k_ => ⟨trivial, trivial, ⟨(sh_amb hu), trivial⟩, trivial, k_⟩)
  refine w_R.br_eq (fun h1 => ?_) (fun h1 => ?_)
  · refine w_R.ret 3 (.inl (some (.int 1))) (I, J, kR w rem, Z) ?_ (fun x_ Q_ k_ => ⟨trivial, trivial, Or.inr rfl, ⟨Nat.le_of_ble_eq_true rfl, Nat.le_of_ble_eq_true rfl⟩, k_⟩)
    exact ⟨by rw [show v_55 I J Z u x = true from by unfold v_55; rw [if_pos h1]] <;> rfl, rfl⟩
  · refine w_R.go (c' := (i_br .ne (I (135 + u) 0) 0 20 15, [(0, .ref (135 + u)), (1, .int x)], [], (I, J, kR w rem, Z), 0, 0)) 3 ?_ (fun m_ x_ Q_ k_ => ⟨trivial, ⟨(sh_amb hu), trivial⟩, trivial, k_⟩)
    refine w_R.br_ne (fun h2 => ?_) (fun h2 => ?_)
    · refine w_R.go (c' := (i_br .ne (I (135 + u) 0) 3 32 28, [(0, .ref (135 + u)), (1, .int x)], [], (I, J, kR w rem, Z), 0, 0)) 4 ?_ (fun m_ x_ Q_ k_ => ⟨trivial, ⟨(sh_amb hu), trivial⟩, trivial, trivial, k_⟩)
      refine w_R.br_ne (fun h3 => ?_) (fun h3 => ?_)
      · refine w_R.go (c' := (i_br .ne (I (135 + u) 0) 1 45 40, [(0, .ref (135 + u)), (1, .int x)], [], (I, J, kR w rem, Z), 0, 0)) 4 ?_ (fun m_ x_ Q_ k_ => ⟨trivial, ⟨(sh_amb hu), trivial⟩, trivial, trivial, k_⟩)
        refine w_R.br_ne (fun h4 => ?_) (fun h4 => ?_)
        · refine w_R.go (c' := (i_br .ne (I (135 + u) 0) 2 61 53, [(0, .ref (135 + u)), (1, .int x)], [], (I, J, kR w rem, Z), 0, 0)) 4 ?_ (fun m_ x_ Q_ k_ => ⟨trivial, ⟨(sh_amb hu), trivial⟩, trivial, trivial, k_⟩)
          refine w_R.br_ne (fun h5 => ?_) (fun h5 => ?_)
          · refine w_R.ret 2 (.inl (some (.int 0))) (I, J, kR w rem, Z) ?_ (fun x_ Q_ k_ => ⟨trivial, Or.inl rfl, ⟨Nat.le_of_ble_eq_true rfl, Nat.le_of_ble_eq_true rfl⟩, k_⟩)
            exact ⟨by rw [show v_55 I J Z u x = false from by unfold v_55; rw [if_neg h1, if_neg h2, if_neg h3, if_neg h4, if_neg h5]] <;> rfl, rfl⟩
          · refine w_R.go (c' := (i_br .ne x 0 61 57, [(0, .ref (135 + u)), (1, .int x)], [], (I, J, kR w rem, Z), 0, 0)) 2 ?_ (fun m_ x_ Q_ k_ => ⟨trivial, trivial, k_⟩)
            refine w_R.br_ne (fun h6 => ?_) (fun h6 => ?_)
            · refine w_R.ret 2 (.inl (some (.int 0))) (I, J, kR w rem, Z) ?_ (fun x_ Q_ k_ => ⟨trivial, Or.inl rfl, ⟨Nat.le_of_ble_eq_true rfl, Nat.le_of_ble_eq_true rfl⟩, k_⟩)
              exact ⟨by rw [show v_55 I J Z u x = false from by unfold v_55; rw [if_neg h1, if_neg h2, if_neg h3, if_neg h4, if_pos h5, if_neg h6]] <;> rfl, rfl⟩
            · refine w_R.ret 3 (.inl (some (.int 1))) (I, J, kR w rem, Z) ?_ (fun x_ Q_ k_ => ⟨trivial, trivial, Or.inr rfl, ⟨Nat.le_of_ble_eq_true rfl, Nat.le_of_ble_eq_true rfl⟩, k_⟩)
              exact ⟨by rw [show v_55 I J Z u x = true from by unfold v_55; rw [if_neg h1, if_neg h2, if_neg h3, if_neg h4, if_pos h5, if_pos h6]] <;> rfl, rfl⟩
        · refine w_R.go (c' := (i_br .eq x 2 57 45, [(0, .ref (135 + u)), (1, .int x)], [], (I, J, kR w rem, Z), 0, 0)) 3 ?_ (fun m_ x_ Q_ k_ => ⟨trivial, trivial, trivial, k_⟩)
          refine w_R.br_eq (fun h7 => ?_) (fun h7 => ?_)
          · refine w_R.ret 3 (.inl (some (.int 1))) (I, J, kR w rem, Z) ?_ (fun x_ Q_ k_ => ⟨trivial, trivial, Or.inr rfl, ⟨Nat.le_of_ble_eq_true rfl, Nat.le_of_ble_eq_true rfl⟩, k_⟩)
            exact ⟨by rw [show v_55 I J Z u x = true from by unfold v_55; rw [if_neg h1, if_neg h2, if_neg h3, if_pos h4, if_pos h7]] <;> rfl, rfl⟩
          · refine w_R.go (c' := (i_br .ne (I (135 + u) 0) 2 61 53, [(0, .ref (135 + u)), (1, .int x)], [], (I, J, kR w rem, Z), 0, 0)) 4 ?_ (fun m_ x_ Q_ k_ => ⟨trivial, ⟨(sh_amb hu), trivial⟩, trivial, trivial, k_⟩)
            refine w_R.br_ne (fun h8 => ?_) (fun h8 => ?_)
            · refine w_R.ret 2 (.inl (some (.int 0))) (I, J, kR w rem, Z) ?_ (fun x_ Q_ k_ => ⟨trivial, Or.inl rfl, ⟨Nat.le_of_ble_eq_true rfl, Nat.le_of_ble_eq_true rfl⟩, k_⟩)
              exact ⟨by rw [show v_55 I J Z u x = false from by unfold v_55; rw [if_neg h1, if_neg h2, if_neg h3, if_pos h4, if_neg h7, if_neg h8]] <;> rfl, rfl⟩
            · refine w_R.go (c' := (i_br .ne x 0 61 57, [(0, .ref (135 + u)), (1, .int x)], [], (I, J, kR w rem, Z), 0, 0)) 2 ?_ (fun m_ x_ Q_ k_ => ⟨trivial, trivial, k_⟩)
              refine w_R.br_ne (fun h9 => ?_) (fun h9 => ?_)
              · refine w_R.ret 2 (.inl (some (.int 0))) (I, J, kR w rem, Z) ?_ (fun x_ Q_ k_ => ⟨trivial, Or.inl rfl, ⟨Nat.le_of_ble_eq_true rfl, Nat.le_of_ble_eq_true rfl⟩, k_⟩)
                exact ⟨by rw [show v_55 I J Z u x = false from by unfold v_55; rw [if_neg h1, if_neg h2, if_neg h3, if_pos h4, if_neg h7, if_pos h8, if_neg h9]] <;> rfl, rfl⟩
              · refine w_R.ret 3 (.inl (some (.int 1))) (I, J, kR w rem, Z) ?_ (fun x_ Q_ k_ => ⟨trivial, trivial, Or.inr rfl, ⟨Nat.le_of_ble_eq_true rfl, Nat.le_of_ble_eq_true rfl⟩, k_⟩)
                exact ⟨by rw [show v_55 I J Z u x = true from by unfold v_55; rw [if_neg h1, if_neg h2, if_neg h3, if_pos h4, if_neg h7, if_pos h8, if_pos h9]] <;> rfl, rfl⟩
      · refine w_R.go (c' := (i_br .eq x 0 57 32, [(0, .ref (135 + u)), (1, .int x)], [], (I, J, kR w rem, Z), 0, 0)) 2 ?_ (fun m_ x_ Q_ k_ => ⟨trivial, trivial, k_⟩)
        refine w_R.br_eq (fun h10 => ?_) (fun h10 => ?_)
        · refine w_R.ret 3 (.inl (some (.int 1))) (I, J, kR w rem, Z) ?_ (fun x_ Q_ k_ => ⟨trivial, trivial, Or.inr rfl, ⟨Nat.le_of_ble_eq_true rfl, Nat.le_of_ble_eq_true rfl⟩, k_⟩)
          exact ⟨by rw [show v_55 I J Z u x = true from by unfold v_55; rw [if_neg h1, if_neg h2, if_pos h3, if_pos h10]] <;> rfl, rfl⟩
        · refine w_R.go (c' := (i_br .ne (I (135 + u) 0) 1 45 40, [(0, .ref (135 + u)), (1, .int x)], [], (I, J, kR w rem, Z), 0, 0)) 4 ?_ (fun m_ x_ Q_ k_ => ⟨trivial, ⟨(sh_amb hu), trivial⟩, trivial, trivial, k_⟩)
          refine w_R.br_ne (fun h11 => ?_) (fun h11 => ?_)
          · refine w_R.go (c' := (i_br .ne (I (135 + u) 0) 2 61 53, [(0, .ref (135 + u)), (1, .int x)], [], (I, J, kR w rem, Z), 0, 0)) 4 ?_ (fun m_ x_ Q_ k_ => ⟨trivial, ⟨(sh_amb hu), trivial⟩, trivial, trivial, k_⟩)
            refine w_R.br_ne (fun h12 => ?_) (fun h12 => ?_)
            · refine w_R.ret 2 (.inl (some (.int 0))) (I, J, kR w rem, Z) ?_ (fun x_ Q_ k_ => ⟨trivial, Or.inl rfl, ⟨Nat.le_of_ble_eq_true rfl, Nat.le_of_ble_eq_true rfl⟩, k_⟩)
              exact ⟨by rw [show v_55 I J Z u x = false from by unfold v_55; rw [if_neg h1, if_neg h2, if_pos h3, if_neg h10, if_neg h11, if_neg h12]] <;> rfl, rfl⟩
            · refine w_R.go (c' := (i_br .ne x 0 61 57, [(0, .ref (135 + u)), (1, .int x)], [], (I, J, kR w rem, Z), 0, 0)) 2 ?_ (fun m_ x_ Q_ k_ => ⟨trivial, trivial, k_⟩)
              refine w_R.br_ne (fun h13 => ?_) (fun h13 => ?_)
              · refine w_R.ret 2 (.inl (some (.int 0))) (I, J, kR w rem, Z) ?_ (fun x_ Q_ k_ => ⟨trivial, Or.inl rfl, ⟨Nat.le_of_ble_eq_true rfl, Nat.le_of_ble_eq_true rfl⟩, k_⟩)
                exact ⟨by rw [show v_55 I J Z u x = false from by unfold v_55; rw [if_neg h1, if_neg h2, if_pos h3, if_neg h10, if_neg h11, if_pos h12, if_neg h13]] <;> rfl, rfl⟩
              · refine w_R.ret 3 (.inl (some (.int 1))) (I, J, kR w rem, Z) ?_ (fun x_ Q_ k_ => ⟨trivial, trivial, Or.inr rfl, ⟨Nat.le_of_ble_eq_true rfl, Nat.le_of_ble_eq_true rfl⟩, k_⟩)
                exact ⟨by rw [show v_55 I J Z u x = true from by unfold v_55; rw [if_neg h1, if_neg h2, if_pos h3, if_neg h10, if_neg h11, if_pos h12, if_pos h13]] <;> rfl, rfl⟩
          · refine w_R.go (c' := (i_br .eq x 2 57 45, [(0, .ref (135 + u)), (1, .int x)], [], (I, J, kR w rem, Z), 0, 0)) 3 ?_ (fun m_ x_ Q_ k_ => ⟨trivial, trivial, trivial, k_⟩)
            refine w_R.br_eq (fun h14 => ?_) (fun h14 => ?_)
            · refine w_R.ret 3 (.inl (some (.int 1))) (I, J, kR w rem, Z) ?_ (fun x_ Q_ k_ => ⟨trivial, trivial, Or.inr rfl, ⟨Nat.le_of_ble_eq_true rfl, Nat.le_of_ble_eq_true rfl⟩, k_⟩)
              exact ⟨by rw [show v_55 I J Z u x = true from by unfold v_55; rw [if_neg h1, if_neg h2, if_pos h3, if_neg h10, if_pos h11, if_pos h14]] <;> rfl, rfl⟩
            · refine w_R.go (c' := (i_br .ne (I (135 + u) 0) 2 61 53, [(0, .ref (135 + u)), (1, .int x)], [], (I, J, kR w rem, Z), 0, 0)) 4 ?_ (fun m_ x_ Q_ k_ => ⟨trivial, ⟨(sh_amb hu), trivial⟩, trivial, trivial, k_⟩)
              refine w_R.br_ne (fun h15 => ?_) (fun h15 => ?_)
              · refine w_R.ret 2 (.inl (some (.int 0))) (I, J, kR w rem, Z) ?_ (fun x_ Q_ k_ => ⟨trivial, Or.inl rfl, ⟨Nat.le_of_ble_eq_true rfl, Nat.le_of_ble_eq_true rfl⟩, k_⟩)
                exact ⟨by rw [show v_55 I J Z u x = false from by unfold v_55; rw [if_neg h1, if_neg h2, if_pos h3, if_neg h10, if_pos h11, if_neg h14, if_neg h15]] <;> rfl, rfl⟩
              · refine w_R.go (c' := (i_br .ne x 0 61 57, [(0, .ref (135 + u)), (1, .int x)], [], (I, J, kR w rem, Z), 0, 0)) 2 ?_ (fun m_ x_ Q_ k_ => ⟨trivial, trivial, k_⟩)
                refine w_R.br_ne (fun h16 => ?_) (fun h16 => ?_)
                · refine w_R.ret 2 (.inl (some (.int 0))) (I, J, kR w rem, Z) ?_ (fun x_ Q_ k_ => ⟨trivial, Or.inl rfl, ⟨Nat.le_of_ble_eq_true rfl, Nat.le_of_ble_eq_true rfl⟩, k_⟩)
                  exact ⟨by rw [show v_55 I J Z u x = false from by unfold v_55; rw [if_neg h1, if_neg h2, if_pos h3, if_neg h10, if_pos h11, if_neg h14, if_pos h15, if_neg h16]] <;> rfl, rfl⟩
                · refine w_R.ret 3 (.inl (some (.int 1))) (I, J, kR w rem, Z) ?_ (fun x_ Q_ k_ => ⟨trivial, trivial, Or.inr rfl, ⟨Nat.le_of_ble_eq_true rfl, Nat.le_of_ble_eq_true rfl⟩, k_⟩)
                  exact ⟨by rw [show v_55 I J Z u x = true from by unfold v_55; rw [if_neg h1, if_neg h2, if_pos h3, if_neg h10, if_pos h11, if_neg h14, if_pos h15, if_pos h16]] <;> rfl, rfl⟩
    · refine w_R.go (c' := (i_br .eq x 3 57 20, [(0, .ref (135 + u)), (1, .int x)], [], (I, J, kR w rem, Z), 0, 0)) 3 ?_ (fun m_ x_ Q_ k_ => ⟨trivial, trivial, trivial, k_⟩)
      refine w_R.br_eq (fun h17 => ?_) (fun h17 => ?_)
      · refine w_R.ret 3 (.inl (some (.int 1))) (I, J, kR w rem, Z) ?_ (fun x_ Q_ k_ => ⟨trivial, trivial, Or.inr rfl, ⟨Nat.le_of_ble_eq_true rfl, Nat.le_of_ble_eq_true rfl⟩, k_⟩)
        exact ⟨by rw [show v_55 I J Z u x = true from by unfold v_55; rw [if_neg h1, if_pos h2, if_pos h17]] <;> rfl, rfl⟩
      · refine w_R.go (c' := (i_br .ne (I (135 + u) 0) 3 32 28, [(0, .ref (135 + u)), (1, .int x)], [], (I, J, kR w rem, Z), 0, 0)) 4 ?_ (fun m_ x_ Q_ k_ => ⟨trivial, ⟨(sh_amb hu), trivial⟩, trivial, trivial, k_⟩)
        refine w_R.br_ne (fun h18 => ?_) (fun h18 => ?_)
        · refine w_R.go (c' := (i_br .ne (I (135 + u) 0) 1 45 40, [(0, .ref (135 + u)), (1, .int x)], [], (I, J, kR w rem, Z), 0, 0)) 4 ?_ (fun m_ x_ Q_ k_ => ⟨trivial, ⟨(sh_amb hu), trivial⟩, trivial, trivial, k_⟩)
          refine w_R.br_ne (fun h19 => ?_) (fun h19 => ?_)
          · refine w_R.go (c' := (i_br .ne (I (135 + u) 0) 2 61 53, [(0, .ref (135 + u)), (1, .int x)], [], (I, J, kR w rem, Z), 0, 0)) 4 ?_ (fun m_ x_ Q_ k_ => ⟨trivial, ⟨(sh_amb hu), trivial⟩, trivial, trivial, k_⟩)
            refine w_R.br_ne (fun h20 => ?_) (fun h20 => ?_)
            · refine w_R.ret 2 (.inl (some (.int 0))) (I, J, kR w rem, Z) ?_ (fun x_ Q_ k_ => ⟨trivial, Or.inl rfl, ⟨Nat.le_of_ble_eq_true rfl, Nat.le_of_ble_eq_true rfl⟩, k_⟩)
              exact ⟨by rw [show v_55 I J Z u x = false from by unfold v_55; rw [if_neg h1, if_pos h2, if_neg h17, if_neg h18, if_neg h19, if_neg h20]] <;> rfl, rfl⟩
            · refine w_R.go (c' := (i_br .ne x 0 61 57, [(0, .ref (135 + u)), (1, .int x)], [], (I, J, kR w rem, Z), 0, 0)) 2 ?_ (fun m_ x_ Q_ k_ => ⟨trivial, trivial, k_⟩)
              refine w_R.br_ne (fun h21 => ?_) (fun h21 => ?_)
              · refine w_R.ret 2 (.inl (some (.int 0))) (I, J, kR w rem, Z) ?_ (fun x_ Q_ k_ => ⟨trivial, Or.inl rfl, ⟨Nat.le_of_ble_eq_true rfl, Nat.le_of_ble_eq_true rfl⟩, k_⟩)
                exact ⟨by rw [show v_55 I J Z u x = false from by unfold v_55; rw [if_neg h1, if_pos h2, if_neg h17, if_neg h18, if_neg h19, if_pos h20, if_neg h21]] <;> rfl, rfl⟩
              · refine w_R.ret 3 (.inl (some (.int 1))) (I, J, kR w rem, Z) ?_ (fun x_ Q_ k_ => ⟨trivial, trivial, Or.inr rfl, ⟨Nat.le_of_ble_eq_true rfl, Nat.le_of_ble_eq_true rfl⟩, k_⟩)
                exact ⟨by rw [show v_55 I J Z u x = true from by unfold v_55; rw [if_neg h1, if_pos h2, if_neg h17, if_neg h18, if_neg h19, if_pos h20, if_pos h21]] <;> rfl, rfl⟩
          · refine w_R.go (c' := (i_br .eq x 2 57 45, [(0, .ref (135 + u)), (1, .int x)], [], (I, J, kR w rem, Z), 0, 0)) 3 ?_ (fun m_ x_ Q_ k_ => ⟨trivial, trivial, trivial, k_⟩)
            refine w_R.br_eq (fun h22 => ?_) (fun h22 => ?_)
            · refine w_R.ret 3 (.inl (some (.int 1))) (I, J, kR w rem, Z) ?_ (fun x_ Q_ k_ => ⟨trivial, trivial, Or.inr rfl, ⟨Nat.le_of_ble_eq_true rfl, Nat.le_of_ble_eq_true rfl⟩, k_⟩)
              exact ⟨by rw [show v_55 I J Z u x = true from by unfold v_55; rw [if_neg h1, if_pos h2, if_neg h17, if_neg h18, if_pos h19, if_pos h22]] <;> rfl, rfl⟩
            · refine w_R.go (c' := (i_br .ne (I (135 + u) 0) 2 61 53, [(0, .ref (135 + u)), (1, .int x)], [], (I, J, kR w rem, Z), 0, 0)) 4 ?_ (fun m_ x_ Q_ k_ => ⟨trivial, ⟨(sh_amb hu), trivial⟩, trivial, trivial, k_⟩)
              refine w_R.br_ne (fun h23 => ?_) (fun h23 => ?_)
              · refine w_R.ret 2 (.inl (some (.int 0))) (I, J, kR w rem, Z) ?_ (fun x_ Q_ k_ => ⟨trivial, Or.inl rfl, ⟨Nat.le_of_ble_eq_true rfl, Nat.le_of_ble_eq_true rfl⟩, k_⟩)
                exact ⟨by rw [show v_55 I J Z u x = false from by unfold v_55; rw [if_neg h1, if_pos h2, if_neg h17, if_neg h18, if_pos h19, if_neg h22, if_neg h23]] <;> rfl, rfl⟩
              · refine w_R.go (c' := (i_br .ne x 0 61 57, [(0, .ref (135 + u)), (1, .int x)], [], (I, J, kR w rem, Z), 0, 0)) 2 ?_ (fun m_ x_ Q_ k_ => ⟨trivial, trivial, k_⟩)
                refine w_R.br_ne (fun h24 => ?_) (fun h24 => ?_)
                · refine w_R.ret 2 (.inl (some (.int 0))) (I, J, kR w rem, Z) ?_ (fun x_ Q_ k_ => ⟨trivial, Or.inl rfl, ⟨Nat.le_of_ble_eq_true rfl, Nat.le_of_ble_eq_true rfl⟩, k_⟩)
                  exact ⟨by rw [show v_55 I J Z u x = false from by unfold v_55; rw [if_neg h1, if_pos h2, if_neg h17, if_neg h18, if_pos h19, if_neg h22, if_pos h23, if_neg h24]] <;> rfl, rfl⟩
                · refine w_R.ret 3 (.inl (some (.int 1))) (I, J, kR w rem, Z) ?_ (fun x_ Q_ k_ => ⟨trivial, trivial, Or.inr rfl, ⟨Nat.le_of_ble_eq_true rfl, Nat.le_of_ble_eq_true rfl⟩, k_⟩)
                  exact ⟨by rw [show v_55 I J Z u x = true from by unfold v_55; rw [if_neg h1, if_pos h2, if_neg h17, if_neg h18, if_pos h19, if_neg h22, if_pos h23, if_pos h24]] <;> rfl, rfl⟩
        · refine w_R.go (c' := (i_br .eq x 0 57 32, [(0, .ref (135 + u)), (1, .int x)], [], (I, J, kR w rem, Z), 0, 0)) 2 ?_ (fun m_ x_ Q_ k_ => ⟨trivial, trivial, k_⟩)
          refine w_R.br_eq (fun h25 => ?_) (fun h25 => ?_)
          · refine w_R.ret 3 (.inl (some (.int 1))) (I, J, kR w rem, Z) ?_ (fun x_ Q_ k_ => ⟨trivial, trivial, Or.inr rfl, ⟨Nat.le_of_ble_eq_true rfl, Nat.le_of_ble_eq_true rfl⟩, k_⟩)
            exact ⟨by rw [show v_55 I J Z u x = true from by unfold v_55; rw [if_neg h1, if_pos h2, if_neg h17, if_pos h18, if_pos h25]] <;> rfl, rfl⟩
          · refine w_R.go (c' := (i_br .ne (I (135 + u) 0) 1 45 40, [(0, .ref (135 + u)), (1, .int x)], [], (I, J, kR w rem, Z), 0, 0)) 4 ?_ (fun m_ x_ Q_ k_ => ⟨trivial, ⟨(sh_amb hu), trivial⟩, trivial, trivial, k_⟩)
            refine w_R.br_ne (fun h26 => ?_) (fun h26 => ?_)
            · refine w_R.go (c' := (i_br .ne (I (135 + u) 0) 2 61 53, [(0, .ref (135 + u)), (1, .int x)], [], (I, J, kR w rem, Z), 0, 0)) 4 ?_ (fun m_ x_ Q_ k_ => ⟨trivial, ⟨(sh_amb hu), trivial⟩, trivial, trivial, k_⟩)
              refine w_R.br_ne (fun h27 => ?_) (fun h27 => ?_)
              · refine w_R.ret 2 (.inl (some (.int 0))) (I, J, kR w rem, Z) ?_ (fun x_ Q_ k_ => ⟨trivial, Or.inl rfl, ⟨Nat.le_of_ble_eq_true rfl, Nat.le_of_ble_eq_true rfl⟩, k_⟩)
                exact ⟨by rw [show v_55 I J Z u x = false from by unfold v_55; rw [if_neg h1, if_pos h2, if_neg h17, if_pos h18, if_neg h25, if_neg h26, if_neg h27]] <;> rfl, rfl⟩
              · refine w_R.go (c' := (i_br .ne x 0 61 57, [(0, .ref (135 + u)), (1, .int x)], [], (I, J, kR w rem, Z), 0, 0)) 2 ?_ (fun m_ x_ Q_ k_ => ⟨trivial, trivial, k_⟩)
                refine w_R.br_ne (fun h28 => ?_) (fun h28 => ?_)
                · refine w_R.ret 2 (.inl (some (.int 0))) (I, J, kR w rem, Z) ?_ (fun x_ Q_ k_ => ⟨trivial, Or.inl rfl, ⟨Nat.le_of_ble_eq_true rfl, Nat.le_of_ble_eq_true rfl⟩, k_⟩)
                  exact ⟨by rw [show v_55 I J Z u x = false from by unfold v_55; rw [if_neg h1, if_pos h2, if_neg h17, if_pos h18, if_neg h25, if_neg h26, if_pos h27, if_neg h28]] <;> rfl, rfl⟩
                · refine w_R.ret 3 (.inl (some (.int 1))) (I, J, kR w rem, Z) ?_ (fun x_ Q_ k_ => ⟨trivial, trivial, Or.inr rfl, ⟨Nat.le_of_ble_eq_true rfl, Nat.le_of_ble_eq_true rfl⟩, k_⟩)
                  exact ⟨by rw [show v_55 I J Z u x = true from by unfold v_55; rw [if_neg h1, if_pos h2, if_neg h17, if_pos h18, if_neg h25, if_neg h26, if_pos h27, if_pos h28]] <;> rfl, rfl⟩
            · refine w_R.go (c' := (i_br .eq x 2 57 45, [(0, .ref (135 + u)), (1, .int x)], [], (I, J, kR w rem, Z), 0, 0)) 3 ?_ (fun m_ x_ Q_ k_ => ⟨trivial, trivial, trivial, k_⟩)
              refine w_R.br_eq (fun h29 => ?_) (fun h29 => ?_)
              · refine w_R.ret 3 (.inl (some (.int 1))) (I, J, kR w rem, Z) ?_ (fun x_ Q_ k_ => ⟨trivial, trivial, Or.inr rfl, ⟨Nat.le_of_ble_eq_true rfl, Nat.le_of_ble_eq_true rfl⟩, k_⟩)
                exact ⟨by rw [show v_55 I J Z u x = true from by unfold v_55; rw [if_neg h1, if_pos h2, if_neg h17, if_pos h18, if_neg h25, if_pos h26, if_pos h29]] <;> rfl, rfl⟩
              · refine w_R.go (c' := (i_br .ne (I (135 + u) 0) 2 61 53, [(0, .ref (135 + u)), (1, .int x)], [], (I, J, kR w rem, Z), 0, 0)) 4 ?_ (fun m_ x_ Q_ k_ => ⟨trivial, ⟨(sh_amb hu), trivial⟩, trivial, trivial, k_⟩)
                refine w_R.br_ne (fun h30 => ?_) (fun h30 => ?_)
                · refine w_R.ret 2 (.inl (some (.int 0))) (I, J, kR w rem, Z) ?_ (fun x_ Q_ k_ => ⟨trivial, Or.inl rfl, ⟨Nat.le_of_ble_eq_true rfl, Nat.le_of_ble_eq_true rfl⟩, k_⟩)
                  exact ⟨by rw [show v_55 I J Z u x = false from by unfold v_55; rw [if_neg h1, if_pos h2, if_neg h17, if_pos h18, if_neg h25, if_pos h26, if_neg h29, if_neg h30]] <;> rfl, rfl⟩
                · refine w_R.go (c' := (i_br .ne x 0 61 57, [(0, .ref (135 + u)), (1, .int x)], [], (I, J, kR w rem, Z), 0, 0)) 2 ?_ (fun m_ x_ Q_ k_ => ⟨trivial, trivial, k_⟩)
                  refine w_R.br_ne (fun h31 => ?_) (fun h31 => ?_)
                  · refine w_R.ret 2 (.inl (some (.int 0))) (I, J, kR w rem, Z) ?_ (fun x_ Q_ k_ => ⟨trivial, Or.inl rfl, ⟨Nat.le_of_ble_eq_true rfl, Nat.le_of_ble_eq_true rfl⟩, k_⟩)
                    exact ⟨by rw [show v_55 I J Z u x = false from by unfold v_55; rw [if_neg h1, if_pos h2, if_neg h17, if_pos h18, if_neg h25, if_pos h26, if_neg h29, if_pos h30, if_neg h31]] <;> rfl, rfl⟩
                  · refine w_R.ret 3 (.inl (some (.int 1))) (I, J, kR w rem, Z) ?_ (fun x_ Q_ k_ => ⟨trivial, trivial, Or.inr rfl, ⟨Nat.le_of_ble_eq_true rfl, Nat.le_of_ble_eq_true rfl⟩, k_⟩)
                    exact ⟨by rw [show v_55 I J Z u x = true from by unfold v_55; rw [if_neg h1, if_pos h2, if_neg h17, if_pos h18, if_neg h25, if_pos h26, if_neg h29, if_pos h30, if_pos h31]] <;> rfl, rfl⟩
def i_56 (I : Nat → Nat → Int32) (J : Nat → Nat → Int64) (Z : Nat → Nat → Bool) (u : Nat) (x : Int32) : Nat → Nat → Int32 := if (I (135 + u) 0) = 1 then if x = 2 then if (I (135 + u) 0) = 2 then if x = 0 then s_up (s_up (s_up I (135 + u) 1 (I (135 + u) 5)) (135 + u) 4 (-1)) (135 + u) 0 x else s_up (s_up I (135 + u) 1 (I (135 + u) 5)) (135 + u) 0 x else s_up (s_up I (135 + u) 1 (I (135 + u) 5)) (135 + u) 0 x else if (I (135 + u) 0) = 2 then if x = 0 then s_up (s_up I (135 + u) 4 (-1)) (135 + u) 0 x else s_up I (135 + u) 0 x else s_up I (135 + u) 0 x else if (I (135 + u) 0) = 2 then if x = 0 then s_up (s_up I (135 + u) 4 (-1)) (135 + u) 0 x else s_up I (135 + u) 0 x else s_up I (135 + u) 0 x
theorem d_56 (u : Nat) (x : Int32) (hu : u < 6) : w_R xs Ln 56 (0, [(0, .ref (135 + u)), (1, .int x)], [], (I, J, kR w rem, Z), 0, 0) (fun o s => o = .inl none ∧ s = (i_56 I J Z u x, J, kR w rem, Z)) := by
  refine w_R.go (c' := (i_br .ne (I (135 + u) 0) 1 21 8, [(0, .ref (135 + u)), (1, .int x)], [], (I, J, kR w rem, Z), 0, 0)) 4 ?_ (fun m_ x_ Q_ k_ => ⟨trivial, ⟨(sh_amb hu), trivial⟩, trivial, trivial, k_⟩)
  refine w_R.br_ne (fun h1 => ?_) (fun h1 => ?_)
  · refine w_R.go (c' := (i_br .ne (I (135 + u) 0) 2 38 29, [(0, .ref (135 + u)), (1, .int x)], [], (I, J, kR w rem, Z), 0, 0)) 4 ?_ (fun m_ x_ Q_ k_ => ⟨trivial, ⟨(sh_amb hu), trivial⟩, trivial, trivial, k_⟩)
    refine w_R.br_ne (fun h2 => ?_) (fun h2 => ?_)
    · refine w_R.ret 4 (.inl none) (s_up I (135 + u) 0 x, J, kR w rem, Z) ?_ (fun x_ Q_ k_ => ⟨trivial, trivial, ⟨(sh_amb hu), trivial⟩, ⟨Nat.le_of_ble_eq_true rfl, Nat.le_of_ble_eq_true rfl⟩, k_⟩)
      exact ⟨rfl, by rw [show i_56 I J Z u x = (s_up I (135 + u) 0 x) from by unfold i_56; rw [if_neg h1, if_neg h2]]⟩
    · refine w_R.go (c' := (i_br .ne x 0 38 33, [(0, .ref (135 + u)), (1, .int x)], [], (I, J, kR w rem, Z), 0, 0)) 2 ?_ (fun m_ x_ Q_ k_ => ⟨trivial, trivial, k_⟩)
      refine w_R.br_ne (fun h3 => ?_) (fun h3 => ?_)
      · refine w_R.ret 4 (.inl none) (s_up I (135 + u) 0 x, J, kR w rem, Z) ?_ (fun x_ Q_ k_ => ⟨trivial, trivial, ⟨(sh_amb hu), trivial⟩, ⟨Nat.le_of_ble_eq_true rfl, Nat.le_of_ble_eq_true rfl⟩, k_⟩)
        exact ⟨rfl, by rw [show i_56 I J Z u x = (s_up I (135 + u) 0 x) from by unfold i_56; rw [if_neg h1, if_pos h2, if_neg h3]]⟩
      · refine w_R.ret 7 (.inl none) (s_up (s_up I (135 + u) 4 (-1)) (135 + u) 0 x, J, kR w rem, Z) ?_ (fun x_ Q_ k_ => ⟨trivial, trivial, ⟨(sh_amb hu), trivial⟩, trivial, trivial, ⟨(sh_amb hu), trivial⟩, ⟨Nat.le_of_ble_eq_true rfl, Nat.le_of_ble_eq_true rfl⟩, k_⟩)
        exact ⟨rfl, by rw [show i_56 I J Z u x = (s_up (s_up I (135 + u) 4 (-1)) (135 + u) 0 x) from by unfold i_56; rw [if_neg h1, if_pos h2, if_pos h3]]⟩
  · refine w_R.go (c' := (i_br .ne x 2 21 13, [(0, .ref (135 + u)), (1, .int x)], [], (I, J, kR w rem, Z), 0, 0)) 3 ?_ (fun m_ x_ Q_ k_ => ⟨trivial, trivial, trivial, k_⟩)
    refine w_R.br_ne (fun h4 => ?_) (fun h4 => ?_)
    · refine w_R.go (c' := (i_br .ne (I (135 + u) 0) 2 38 29, [(0, .ref (135 + u)), (1, .int x)], [], (I, J, kR w rem, Z), 0, 0)) 4 ?_ (fun m_ x_ Q_ k_ => ⟨trivial, ⟨(sh_amb hu), trivial⟩, trivial, trivial, k_⟩)
      refine w_R.br_ne (fun h5 => ?_) (fun h5 => ?_)
      · refine w_R.ret 4 (.inl none) (s_up I (135 + u) 0 x, J, kR w rem, Z) ?_ (fun x_ Q_ k_ => ⟨trivial, trivial, ⟨(sh_amb hu), trivial⟩, ⟨Nat.le_of_ble_eq_true rfl, Nat.le_of_ble_eq_true rfl⟩, k_⟩)
        exact ⟨rfl, by rw [show i_56 I J Z u x = (s_up I (135 + u) 0 x) from by unfold i_56; rw [if_pos h1, if_neg h4, if_neg h5]]⟩
      · refine w_R.go (c' := (i_br .ne x 0 38 33, [(0, .ref (135 + u)), (1, .int x)], [], (I, J, kR w rem, Z), 0, 0)) 2 ?_ (fun m_ x_ Q_ k_ => ⟨trivial, trivial, k_⟩)
        refine w_R.br_ne (fun h6 => ?_) (fun h6 => ?_)
        · refine w_R.ret 4 (.inl none) (s_up I (135 + u) 0 x, J, kR w rem, Z) ?_ (fun x_ Q_ k_ => ⟨trivial, trivial, ⟨(sh_amb hu), trivial⟩, ⟨Nat.le_of_ble_eq_true rfl, Nat.le_of_ble_eq_true rfl⟩, k_⟩)
          exact ⟨rfl, by rw [show i_56 I J Z u x = (s_up I (135 + u) 0 x) from by unfold i_56; rw [if_pos h1, if_neg h4, if_pos h5, if_neg h6]]⟩
        · refine w_R.ret 7 (.inl none) (s_up (s_up I (135 + u) 4 (-1)) (135 + u) 0 x, J, kR w rem, Z) ?_ (fun x_ Q_ k_ => ⟨trivial, trivial, ⟨(sh_amb hu), trivial⟩, trivial, trivial, ⟨(sh_amb hu), trivial⟩, ⟨Nat.le_of_ble_eq_true rfl, Nat.le_of_ble_eq_true rfl⟩, k_⟩)
          exact ⟨rfl, by rw [show i_56 I J Z u x = (s_up (s_up I (135 + u) 4 (-1)) (135 + u) 0 x) from by unfold i_56; rw [if_pos h1, if_neg h4, if_pos h5, if_pos h6]]⟩
    · refine w_R.go (c' := (25, [(0, .ref (135 + u)), (1, .int x)], [.int ((s_up I (135 + u) 1 (I (135 + u) 5)) (135 + u) 0)], (s_up I (135 + u) 1 (I (135 + u) 5), J, kR w rem, Z), 0, 0)) 6 ?_ (fun m_ x_ Q_ k_ => ⟨trivial, trivial, ⟨(sh_amb hu), trivial⟩, ⟨(sh_amb hu), trivial⟩, trivial, ⟨(sh_amb hu), trivial⟩, k_⟩)
      rw [show (s_up I (135 + u) 1 (I (135 + u) 5)) (135 + u) 0 = I (135 + u) 0 from (s_upk (by decide))]
      show w_R xs Ln 56 (25, [(0, .ref (135 + u)), (1, .int x)], [.int (I (135 + u) 0)], (s_up I (135 + u) 1 (I (135 + u) 5), J, kR w rem, Z), 0, 0) _
      refine w_R.go (c' := (i_br .ne (I (135 + u) 0) 2 38 29, [(0, .ref (135 + u)), (1, .int x)], [], (s_up I (135 + u) 1 (I (135 + u) 5), J, kR w rem, Z), 0, 0)) 2 ?_ (fun m_ x_ Q_ k_ => ⟨trivial, trivial, k_⟩)
      refine w_R.br_ne (fun h7 => ?_) (fun h7 => ?_)
      · refine w_R.ret 4 (.inl none) (s_up (s_up I (135 + u) 1 (I (135 + u) 5)) (135 + u) 0 x, J, kR w rem, Z) ?_ (fun x_ Q_ k_ => ⟨trivial, trivial, ⟨(sh_amb hu), trivial⟩, ⟨Nat.le_of_ble_eq_true rfl, Nat.le_of_ble_eq_true rfl⟩, k_⟩)
        exact ⟨rfl, by rw [show i_56 I J Z u x = (s_up (s_up I (135 + u) 1 (I (135 + u) 5)) (135 + u) 0 x) from by unfold i_56; rw [if_pos h1, if_pos h4, if_neg h7]]⟩
      · refine w_R.go (c' := (i_br .ne x 0 38 33, [(0, .ref (135 + u)), (1, .int x)], [], (s_up I (135 + u) 1 (I (135 + u) 5), J, kR w rem, Z), 0, 0)) 2 ?_ (fun m_ x_ Q_ k_ => ⟨trivial, trivial, k_⟩)
        refine w_R.br_ne (fun h8 => ?_) (fun h8 => ?_)
        · refine w_R.ret 4 (.inl none) (s_up (s_up I (135 + u) 1 (I (135 + u) 5)) (135 + u) 0 x, J, kR w rem, Z) ?_ (fun x_ Q_ k_ => ⟨trivial, trivial, ⟨(sh_amb hu), trivial⟩, ⟨Nat.le_of_ble_eq_true rfl, Nat.le_of_ble_eq_true rfl⟩, k_⟩)
          exact ⟨rfl, by rw [show i_56 I J Z u x = (s_up (s_up I (135 + u) 1 (I (135 + u) 5)) (135 + u) 0 x) from by unfold i_56; rw [if_pos h1, if_pos h4, if_pos h7, if_neg h8]]⟩
        · refine w_R.ret 7 (.inl none) (s_up (s_up (s_up I (135 + u) 1 (I (135 + u) 5)) (135 + u) 4 (-1)) (135 + u) 0 x, J, kR w rem, Z) ?_ (fun x_ Q_ k_ => ⟨trivial, trivial, ⟨(sh_amb hu), trivial⟩, trivial, trivial, ⟨(sh_amb hu), trivial⟩, ⟨Nat.le_of_ble_eq_true rfl, Nat.le_of_ble_eq_true rfl⟩, k_⟩)
          exact ⟨rfl, by rw [show i_56 I J Z u x = (s_up (s_up (s_up I (135 + u) 1 (I (135 + u) 5)) (135 + u) 4 (-1)) (135 + u) 0 x) from by unfold i_56; rw [if_pos h1, if_pos h4, if_pos h7, if_pos h8]]⟩
def v_58 (I : Nat → Nat → Int32) (J : Nat → Nat → Int64) (Z : Nat → Nat → Bool) (u : Nat) (x : Int32) : Int32 := if x = 0 then I (135 + u) 0 else if x = 1 then I (135 + u) 1 else if x = 2 then I (135 + u) 4 else if x = 3 then I (135 + u) 6 else if x = 4 then I (135 + u) 3 else if x = 5 then I (135 + u) 2 else (-1)
theorem d_58 (u : Nat) (x : Int32) (hu : u < 6) : w_R xs Ln 58 (0, [(0, .ref (135 + u)), (1, .int x)], [], (I, J, kR w rem, Z), 0, 0) (fun o s => o = .inl (some (.int (v_58 I J Z u x))) ∧ s = (I, J, kR w rem, Z)) := by
  refine w_R.go (c' := (if x.toInt < 0 ∨ 5 < x.toInt then 70 else i_tg 1 ((#[39, 44, 49, 54, 59, 64] : Array Int).getD (x.toInt - 0).toNat 0), [(0, .ref (135 + u)), (1, .int x)], [], (I, J, kR w rem, Z), 0, 0)) 2 ?_ (fun m_ x_ Q_ k_ => ⟨trivial, trivial, k_⟩)
  by_cases h1 : x = 0
  · rw [show (if x.toInt < 0 ∨ 5 < x.toInt then 70 else i_tg 1 ((#[39, 44, 49, 54, 59, 64] : Array Int).getD (x.toInt - 0).toNat 0)) = 40 by rw [h1]; rfl]
    refine w_R.ret 3 (.inl (some (.int (I (135 + u) 0)))) (I, J, kR w rem, Z) ?_ (fun x_ Q_ k_ => ⟨trivial, ⟨(sh_amb hu), trivial⟩, trivial, ⟨Nat.le_of_ble_eq_true rfl, Nat.le_of_ble_eq_true rfl⟩, k_⟩)
    exact ⟨by rw [show v_58 I J Z u x = (I (135 + u) 0) from by unfold v_58; rw [if_pos h1]] <;> rfl, rfl⟩
  by_cases h2 : x = 1
  · rw [show (if x.toInt < 0 ∨ 5 < x.toInt then 70 else i_tg 1 ((#[39, 44, 49, 54, 59, 64] : Array Int).getD (x.toInt - 0).toNat 0)) = 45 by rw [h2]; rfl]
    refine w_R.ret 3 (.inl (some (.int (I (135 + u) 1)))) (I, J, kR w rem, Z) ?_ (fun x_ Q_ k_ => ⟨trivial, ⟨(sh_amb hu), trivial⟩, trivial, ⟨Nat.le_of_ble_eq_true rfl, Nat.le_of_ble_eq_true rfl⟩, k_⟩)
    exact ⟨by rw [show v_58 I J Z u x = (I (135 + u) 1) from by unfold v_58; rw [if_neg h1, if_pos h2]] <;> rfl, rfl⟩
  by_cases h3 : x = 2
  · rw [show (if x.toInt < 0 ∨ 5 < x.toInt then 70 else i_tg 1 ((#[39, 44, 49, 54, 59, 64] : Array Int).getD (x.toInt - 0).toNat 0)) = 50 by rw [h3]; rfl]
    refine w_R.ret 3 (.inl (some (.int (I (135 + u) 4)))) (I, J, kR w rem, Z) ?_ (fun x_ Q_ k_ => ⟨trivial, ⟨(sh_amb hu), trivial⟩, trivial, ⟨Nat.le_of_ble_eq_true rfl, Nat.le_of_ble_eq_true rfl⟩, k_⟩)
    exact ⟨by rw [show v_58 I J Z u x = (I (135 + u) 4) from by unfold v_58; rw [if_neg h1, if_neg h2, if_pos h3]] <;> rfl, rfl⟩
  by_cases h4 : x = 3
  · rw [show (if x.toInt < 0 ∨ 5 < x.toInt then 70 else i_tg 1 ((#[39, 44, 49, 54, 59, 64] : Array Int).getD (x.toInt - 0).toNat 0)) = 55 by rw [h4]; rfl]
    refine w_R.ret 3 (.inl (some (.int (I (135 + u) 6)))) (I, J, kR w rem, Z) ?_ (fun x_ Q_ k_ => ⟨trivial, ⟨(sh_amb hu), trivial⟩, trivial, ⟨Nat.le_of_ble_eq_true rfl, Nat.le_of_ble_eq_true rfl⟩, k_⟩)
    exact ⟨by rw [show v_58 I J Z u x = (I (135 + u) 6) from by unfold v_58; rw [if_neg h1, if_neg h2, if_neg h3, if_pos h4]] <;> rfl, rfl⟩
  by_cases h5 : x = 4
  · rw [show (if x.toInt < 0 ∨ 5 < x.toInt then 70 else i_tg 1 ((#[39, 44, 49, 54, 59, 64] : Array Int).getD (x.toInt - 0).toNat 0)) = 60 by rw [h5]; rfl]
    refine w_R.ret 3 (.inl (some (.int (I (135 + u) 3)))) (I, J, kR w rem, Z) ?_ (fun x_ Q_ k_ => ⟨trivial, ⟨(sh_amb hu), trivial⟩, trivial, ⟨Nat.le_of_ble_eq_true rfl, Nat.le_of_ble_eq_true rfl⟩, k_⟩)
    exact ⟨by rw [show v_58 I J Z u x = (I (135 + u) 3) from by unfold v_58; rw [if_neg h1, if_neg h2, if_neg h3, if_neg h4, if_pos h5]] <;> rfl, rfl⟩
  by_cases h6 : x = 5
  · rw [show (if x.toInt < 0 ∨ 5 < x.toInt then 70 else i_tg 1 ((#[39, 44, 49, 54, 59, 64] : Array Int).getD (x.toInt - 0).toNat 0)) = 65 by rw [h6]; rfl]
    refine w_R.ret 3 (.inl (some (.int (I (135 + u) 2)))) (I, J, kR w rem, Z) ?_ (fun x_ Q_ k_ => ⟨trivial, ⟨(sh_amb hu), trivial⟩, trivial, ⟨Nat.le_of_ble_eq_true rfl, Nat.le_of_ble_eq_true rfl⟩, k_⟩)
    exact ⟨by rw [show v_58 I J Z u x = (I (135 + u) 2) from by unfold v_58; rw [if_neg h1, if_neg h2, if_neg h3, if_neg h4, if_neg h5, if_pos h6]] <;> rfl, rfl⟩
  rw [if_pos (l_out (x := x) (a := 5) (n := 6) (by omega) rfl (by intro k hk; (rcases k with _ | _ | _ | _ | _ | _ | k) <;> first | assumption | omega))]
  refine w_R.ret 2 (.inl (some (.int (-1)))) (I, J, kR w rem, Z) ?_ (fun x_ Q_ k_ => ⟨trivial, trivial, ⟨Nat.le_of_ble_eq_true rfl, Nat.le_of_ble_eq_true rfl⟩, k_⟩)
  exact ⟨by rw [show v_58 I J Z u x = (-1) from by unfold v_58; rw [if_neg h1, if_neg h2, if_neg h3, if_neg h4, if_neg h5, if_neg h6]] <;> rfl, rfl⟩
def i_76 (I : Nat → Nat → Int32) (J : Nat → Nat → Int64) (Z : Nat → Nat → Bool) (n : Nat) (x : Int32) : Nat → Nat → Int32 := s_up I 9 n x
theorem d_76 (n : Nat) (x : Int32) (hn : n < 16) : w_R xs Ln 76 (0, [(0, .ref 6), (1, .int (Int32.ofNat n)), (2, .int x)], [], (I, J, kR w rem, Z), 0, 0) (fun o s => o = .inl none ∧ s = (i_76 I J Z n x, J, kR w rem, Z)) := by
  refine w_R.go (c' := (7, [(0, .ref 6), (1, .int (Int32.ofNat n)), (2, .int x)], [], (s_up I 9 ((Int32.ofNat n).toNatClampNeg) x, J, kR w rem, Z), 0, 0)) 5 ?_ (fun m_ x_ Q_ k_ => ⟨trivial, ⟨sh_6, (Nat.succ_ne_zero 8)⟩, trivial, trivial, ⟨_, sh_9, (n_in (a := n) (by omega) (by decide))⟩, k_⟩)
  rw [n_cl (a := n) (by omega)]
  show w_R xs Ln 76 (7, [(0, .ref 6), (1, .int (Int32.ofNat n)), (2, .int x)], [], (s_up I 9 n x, J, kR w rem, Z), 0, 0) _
  refine w_R.ret 1 (.inl none) (s_up I 9 n x, J, kR w rem, Z) ?_ (fun x_ Q_ k_ => ⟨⟨Nat.le_of_ble_eq_true rfl, Nat.le_of_ble_eq_true rfl⟩, k_⟩)
  exact ⟨rfl, by rw [show i_76 I J Z n x = (s_up I 9 n x) from by unfold i_76; rfl]⟩
def i_77 (I : Nat → Nat → Int32) (J : Nat → Nat → Int64) (Z : Nat → Nat → Bool) (n : Nat) (x : Int32) (y : Int32) : Nat → Nat → Int32 := s_up (s_up (s_up I 9 n 0) 7 n x) 8 n y
theorem d_77 (n : Nat) (x : Int32) (y : Int32) (hn : n < 16) : w_R xs Ln 77 (0, [(0, .ref 6), (1, .int (Int32.ofNat n)), (2, .int x), (3, .int y)], [], (I, J, kR w rem, Z), 0, 0) (fun o s => o = .inl none ∧ s = (i_77 I J Z n x y, J, kR w rem, Z)) := by
  refine w_R.go (c' := (7, [(0, .ref 6), (1, .int (Int32.ofNat n)), (2, .int x), (3, .int y)], [], (s_up I 9 ((Int32.ofNat n).toNatClampNeg) 0, J, kR w rem, Z), 0, 0)) 5 ?_ (fun m_ x_ Q_ k_ => ⟨trivial, ⟨sh_6, (Nat.succ_ne_zero 8)⟩, trivial, trivial, ⟨_, sh_9, (n_in (a := n) (by omega) (by decide))⟩, k_⟩)
  rw [n_cl (a := n) (by omega)]
  show w_R xs Ln 77 (7, [(0, .ref 6), (1, .int (Int32.ofNat n)), (2, .int x), (3, .int y)], [], (s_up I 9 n 0, J, kR w rem, Z), 0, 0) _
  refine w_R.go (c' := (14, [(0, .ref 6), (1, .int (Int32.ofNat n)), (2, .int x), (3, .int y)], [], (s_up (s_up I 9 n 0) 7 ((Int32.ofNat n).toNatClampNeg) x, J, kR w rem, Z), 0, 0)) 5 ?_ (fun m_ x_ Q_ k_ => ⟨trivial, ⟨sh_6, (Nat.succ_ne_zero 6)⟩, trivial, trivial, ⟨_, sh_7, (n_in (a := n) (by omega) (by decide))⟩, k_⟩)
  rw [n_cl (a := n) (by omega)]
  show w_R xs Ln 77 (14, [(0, .ref 6), (1, .int (Int32.ofNat n)), (2, .int x), (3, .int y)], [], (s_up (s_up I 9 n 0) 7 n x, J, kR w rem, Z), 0, 0) _
  refine w_R.go (c' := (21, [(0, .ref 6), (1, .int (Int32.ofNat n)), (2, .int x), (3, .int y)], [], (s_up (s_up (s_up I 9 n 0) 7 n x) 8 ((Int32.ofNat n).toNatClampNeg) y, J, kR w rem, Z), 0, 0)) 5 ?_ (fun m_ x_ Q_ k_ => ⟨trivial, ⟨sh_6, (Nat.succ_ne_zero 7)⟩, trivial, trivial, ⟨_, sh_8, (n_in (a := n) (by omega) (by decide))⟩, k_⟩)
  rw [n_cl (a := n) (by omega)]
  show w_R xs Ln 77 (21, [(0, .ref 6), (1, .int (Int32.ofNat n)), (2, .int x), (3, .int y)], [], (s_up (s_up (s_up I 9 n 0) 7 n x) 8 n y, J, kR w rem, Z), 0, 0) _
  refine w_R.ret 1 (.inl none) (s_up (s_up (s_up I 9 n 0) 7 n x) 8 n y, J, kR w rem, Z) ?_ (fun x_ Q_ k_ => ⟨⟨Nat.le_of_ble_eq_true rfl, Nat.le_of_ble_eq_true rfl⟩, k_⟩)
  exact ⟨rfl, by rw [show i_77 I J Z n x y = (s_up (s_up (s_up I 9 n 0) 7 n x) 8 n y) from by unfold i_77; rfl]⟩
def v_78 (I : Nat → Nat → Int32) (J : Nat → Nat → Int64) (Z : Nat → Nat → Bool) (n : Nat) : Bool := if 0 < (I 9 n) then true else false
theorem d_78 (n : Nat) (hn : n < 16) : w_R xs Ln 78 (0, [(0, .ref 6), (1, .int (Int32.ofNat n))], [], (I, J, kR w rem, Z), 0, 0) (fun o s => o = .inl (some (.int (s_b (v_78 I J Z n)))) ∧ s = (I, J, kR w rem, Z)) := by
  refine w_R.go (c' := (6, [(0, .ref 6), (1, .int (Int32.ofNat n))], [.int (I 9 (Int32.ofNat n).toNatClampNeg)], (I, J, kR w rem, Z), 0, 0)) 4 ?_ (fun m_ x_ Q_ k_ => ⟨trivial, ⟨sh_6, (Nat.succ_ne_zero 8)⟩, trivial, ⟨_, sh_9, (n_in (a := n) (by omega) (by decide))⟩, k_⟩)
  rw [n_cl (a := n) (by omega)]
  show w_R xs Ln 78 (6, [(0, .ref 6), (1, .int (Int32.ofNat n))], [.int (I 9 n)], (I, J, kR w rem, Z), 0, 0) _
  refine w_R.go (c' := (i_br .le (I 9 n) 0 13 9, [(0, .ref 6), (1, .int (Int32.ofNat n))], [], (I, J, kR w rem, Z), 0, 0)) 1 ?_ (fun m_ x_ Q_ k_ => ⟨trivial, k_⟩)
  refine w_R.br_le (fun h1 => ?_) (fun h1 => ?_)
  · refine w_R.ret 2 (.inl (some (.int 0))) (I, J, kR w rem, Z) ?_ (fun x_ Q_ k_ => ⟨trivial, Or.inl rfl, ⟨Nat.le_of_ble_eq_true rfl, Nat.le_of_ble_eq_true rfl⟩, k_⟩)
    exact ⟨by rw [show v_78 I J Z n = false from by unfold v_78; rw [if_neg h1]] <;> rfl, rfl⟩
  · refine w_R.ret 3 (.inl (some (.int 1))) (I, J, kR w rem, Z) ?_ (fun x_ Q_ k_ => ⟨trivial, trivial, Or.inr rfl, ⟨Nat.le_of_ble_eq_true rfl, Nat.le_of_ble_eq_true rfl⟩, k_⟩)
    exact ⟨by rw [show v_78 I J Z n = true from by unfold v_78; rw [if_pos h1]] <;> rfl, rfl⟩
def v_79 (I : Nat → Nat → Int32) (J : Nat → Nat → Int64) (Z : Nat → Nat → Bool) (n : Nat) : Int32 := I 9 n
theorem d_79 (n : Nat) (hn : n < 16) : w_R xs Ln 79 (0, [(0, .ref 6), (1, .int (Int32.ofNat n))], [], (I, J, kR w rem, Z), 0, 0) (fun o s => o = .inl (some (.int (v_79 I J Z n))) ∧ s = (I, J, kR w rem, Z)) := by
  refine w_R.go (c' := (6, [(0, .ref 6), (1, .int (Int32.ofNat n))], [.int (I 9 (Int32.ofNat n).toNatClampNeg)], (I, J, kR w rem, Z), 0, 0)) 4 ?_ (fun m_ x_ Q_ k_ => ⟨trivial, ⟨sh_6, (Nat.succ_ne_zero 8)⟩, trivial, ⟨_, sh_9, (n_in (a := n) (by omega) (by decide))⟩, k_⟩)
  rw [n_cl (a := n) (by omega)]
  show w_R xs Ln 79 (6, [(0, .ref 6), (1, .int (Int32.ofNat n))], [.int (I 9 n)], (I, J, kR w rem, Z), 0, 0) _
  refine w_R.ret 1 (.inl (some (.int (I 9 n)))) (I, J, kR w rem, Z) ?_ (fun x_ Q_ k_ => ⟨trivial, ⟨Nat.le_of_ble_eq_true rfl, Nat.le_of_ble_eq_true rfl⟩, k_⟩)
  exact ⟨by rw [show v_79 I J Z n = (I 9 n) from by unfold v_79; rfl] <;> rfl, rfl⟩
def v_80 (I : Nat → Nat → Int32) (J : Nat → Nat → Int64) (Z : Nat → Nat → Bool) (n : Nat) (z : Bool) : Int32 := if z = true then I 7 n else I 8 n
theorem d_80 (n : Nat) (z : Bool) (hn : n < 16) : w_R xs Ln 80 (0, [(0, .ref 6), (1, .int (Int32.ofNat n)), (2, .int (s_b z))], [], (I, J, kR w rem, Z), 0, 0) (fun o s => o = .inl (some (.int (v_80 I J Z n z))) ∧ s = (I, J, kR w rem, Z)) := by
  refine w_R.go (c' := (i_br .eq (s_b z) 0 13 4, [(0, .ref 6), (1, .int (Int32.ofNat n)), (2, .int (s_b z))], [], (I, J, kR w rem, Z), 0, 0)) 2 ?_ (fun m_ x_ Q_ k_ => ⟨trivial, trivial, k_⟩)
  refine w_R.br_z (fun h1 => ?_) (fun h1 => ?_)
  · replace h1 := Bool.eq_false_iff.mp h1
    refine w_R.go (c' := (19, [(0, .ref 6), (1, .int (Int32.ofNat n)), (2, .int (s_b z))], [.int (I 8 (Int32.ofNat n).toNatClampNeg)], (I, J, kR w rem, Z), 0, 0)) 4 ?_ (fun m_ x_ Q_ k_ => ⟨trivial, ⟨sh_6, (Nat.succ_ne_zero 7)⟩, trivial, ⟨_, sh_8, (n_in (a := n) (by omega) (by decide))⟩, k_⟩)
    rw [n_cl (a := n) (by omega)]
    show w_R xs Ln 80 (19, [(0, .ref 6), (1, .int (Int32.ofNat n)), (2, .int (s_b z))], [.int (I 8 n)], (I, J, kR w rem, Z), 0, 0) _
    refine w_R.ret 1 (.inl (some (.int (I 8 n)))) (I, J, kR w rem, Z) ?_ (fun x_ Q_ k_ => ⟨trivial, ⟨Nat.le_of_ble_eq_true rfl, Nat.le_of_ble_eq_true rfl⟩, k_⟩)
    exact ⟨by rw [show v_80 I J Z n z = (I 8 n) from by unfold v_80; rw [if_neg h1]] <;> rfl, rfl⟩
  · refine w_R.go (c' := (10, [(0, .ref 6), (1, .int (Int32.ofNat n)), (2, .int (s_b z))], [.int (I 7 (Int32.ofNat n).toNatClampNeg)], (I, J, kR w rem, Z), 0, 0)) 4 ?_ (fun m_ x_ Q_ k_ => ⟨trivial, ⟨sh_6, (Nat.succ_ne_zero 6)⟩, trivial, ⟨_, sh_7, (n_in (a := n) (by omega) (by decide))⟩, k_⟩)
    rw [n_cl (a := n) (by omega)]
    show w_R xs Ln 80 (10, [(0, .ref 6), (1, .int (Int32.ofNat n)), (2, .int (s_b z))], [.int (I 7 n)], (I, J, kR w rem, Z), 0, 0) _
    refine w_R.ret 2 (.inl (some (.int (I 7 n)))) (I, J, kR w rem, Z) ?_ (fun x_ Q_ k_ => ⟨trivial, trivial, ⟨Nat.le_of_ble_eq_true rfl, Nat.le_of_ble_eq_true rfl⟩, k_⟩)
    exact ⟨by rw [show v_80 I J Z n z = (I 7 n) from by unfold v_80; rw [if_pos h1]] <;> rfl, rfl⟩
def i_60 (I : Nat → Nat → Int32) (J : Nat → Nat → Int64) (Z : Nat → Nat → Bool) (a : Nat) (x : Int32) (y : Int32) (v : Int32) : Nat → Nat → Int32 := s_up (s_up (s_up (s_up (s_up (s_up (s_up I a 1 x) a 2 y) a 3 0) a 4 v) a 5 0) a 6 (-1)) a 7 0
def z_60 (I : Nat → Nat → Int32) (J : Nat → Nat → Int64) (Z : Nat → Nat → Bool) (a : Nat) (x : Int32) (y : Int32) (v : Int32) : Nat → Nat → Bool := s_up Z a 0 true
theorem d_60 (a : Nat) (x : Int32) (y : Int32) (v : Int32) (ha : sh1[a]? = some (.inl 1)) : w_R xs Ln 60 (0, [(0, .ref a), (1, .int x), (2, .int y), (3, .int v)], [], (I, J, kR w rem, Z), 0, 0) (fun o s => o = .inl none ∧ s = (i_60 I J Z a x y v, J, kR w rem, z_60 I J Z a x y v)) := by
  refine w_R.ret 25 (.inl none) (s_up (s_up (s_up (s_up (s_up (s_up (s_up I a 1 x) a 2 y) a 3 0) a 4 v) a 5 0) a 6 (-1)) a 7 0, J, kR w rem, s_up Z a 0 true) ?_ (fun x_ Q_ k_ => ⟨trivial, trivial, ⟨ha, (Or.inr rfl)⟩, trivial, trivial, ⟨ha, trivial⟩, trivial, trivial, ⟨ha, trivial⟩, trivial, trivial, ⟨ha, trivial⟩, trivial, trivial, ⟨ha, trivial⟩, trivial, trivial, ⟨ha, trivial⟩, trivial, trivial, ⟨ha, trivial⟩, trivial, trivial, ⟨ha, trivial⟩, ⟨Nat.le_of_ble_eq_true rfl, Nat.le_of_ble_eq_true rfl⟩, k_⟩)
  exact ⟨rfl, by rw [show i_60 I J Z a x y v = (s_up (s_up (s_up (s_up (s_up (s_up (s_up I a 1 x) a 2 y) a 3 0) a 4 v) a 5 0) a 6 (-1)) a 7 0) from by unfold i_60; rfl, show z_60 I J Z a x y v = (s_up Z a 0 true) from by unfold z_60; rfl]⟩
def i_61 (I : Nat → Nat → Int32) (J : Nat → Nat → Int64) (Z : Nat → Nat → Bool) (a : Nat) (x : Int32) : Nat → Nat → Int32 := if (I a 8) = x then s_up (s_up I a 9 ((I a 9) + 1)) a 8 x else s_up (s_up I a 9 1) a 8 x
theorem d_61 (a : Nat) (x : Int32) (ha : sh1[a]? = some (.inl 1)) : w_R xs Ln 61 (0, [(0, .ref a), (1, .int x)], [], (I, J, kR w rem, Z), 0, 0) (fun o s => o = .inl none ∧ s = (i_61 I J Z a x, J, kR w rem, Z)) := by
  refine w_R.go (c' := (i_br .ne (I a 8) x 18 9, [(0, .ref a), (1, .int x)], [.ref a], (I, J, kR w rem, Z), 0, 0)) 5 ?_ (fun m_ x_ Q_ k_ => ⟨trivial, trivial, ⟨ha, trivial⟩, trivial, trivial, k_⟩)
  refine w_R.br_ne (fun h1 => ?_) (fun h1 => ?_)
  · refine w_R.ret 6 (.inl none) (s_up (s_up I a 9 1) a 8 x, J, kR w rem, Z) ?_ (fun x_ Q_ k_ => ⟨trivial, ⟨ha, trivial⟩, trivial, trivial, ⟨ha, trivial⟩, ⟨Nat.le_of_ble_eq_true rfl, Nat.le_of_ble_eq_true rfl⟩, k_⟩)
    exact ⟨rfl, by rw [show i_61 I J Z a x = (s_up (s_up I a 9 1) a 8 x) from by unfold i_61; rw [if_neg h1]]⟩
  · refine w_R.ret 10 (.inl none) (s_up (s_up I a 9 ((I a 9) + 1)) a 8 x, J, kR w rem, Z) ?_ (fun x_ Q_ k_ => ⟨trivial, ⟨ha, trivial⟩, trivial, trivial, trivial, ⟨ha, trivial⟩, trivial, trivial, ⟨ha, trivial⟩, ⟨Nat.le_of_ble_eq_true rfl, Nat.le_of_ble_eq_true rfl⟩, k_⟩)
    exact ⟨rfl, by rw [show i_61 I J Z a x = (s_up (s_up I a 9 ((I a 9) + 1)) a 8 x) from by unfold i_61; rw [if_pos h1]]⟩
def v_62 (I : Nat → Nat → Int32) (J : Nat → Nat → Int64) (Z : Nat → Nat → Bool) (a : Nat) (x : Int32) (y : Int32) : Bool := if (Z a 0) = true then if (I a 8) = x then if (I a 9) = y then true else false else false else false
theorem d_62 (a : Nat) (x : Int32) (y : Int32) (ha : sh1[a]? = some (.inl 1)) : w_R xs Ln 62 (0, [(0, .ref a), (1, .int x), (2, .int y)], [], (I, J, kR w rem, Z), 0, 0) (fun o s => o = .inl (some (.int (s_b (v_62 I J Z a x y)))) ∧ s = (I, J, kR w rem, Z)) := by
  refine w_R.go (c' := (i_br .eq (s_b (Z a 0)) 0 27 7, [(0, .ref a), (1, .int x), (2, .int y)], [], (I, J, kR w rem, Z), 0, 0)) 3 ?_ (fun m_ x_ Q_ k_ => ⟨trivial, ⟨ha, trivial⟩, trivial, k_⟩)
  refine w_R.br_z (fun h1 => ?_) (fun h1 => ?_)
  · replace h1 := Bool.eq_false_iff.mp h1
    refine w_R.ret 2 (.inl (some (.int 0))) (I, J, kR w rem, Z) ?_ (fun x_ Q_ k_ => ⟨trivial, Or.inl rfl, ⟨Nat.le_of_ble_eq_true rfl, Nat.le_of_ble_eq_true rfl⟩, k_⟩)
    exact ⟨by rw [show v_62 I J Z a x y = false from by unfold v_62; rw [if_neg h1]] <;> rfl, rfl⟩
  · refine w_R.go (c' := (i_br .ne (I a 8) x 27 15, [(0, .ref a), (1, .int x), (2, .int y)], [], (I, J, kR w rem, Z), 0, 0)) 4 ?_ (fun m_ x_ Q_ k_ => ⟨trivial, ⟨ha, trivial⟩, trivial, trivial, k_⟩)
    refine w_R.br_ne (fun h2 => ?_) (fun h2 => ?_)
    · refine w_R.ret 2 (.inl (some (.int 0))) (I, J, kR w rem, Z) ?_ (fun x_ Q_ k_ => ⟨trivial, Or.inl rfl, ⟨Nat.le_of_ble_eq_true rfl, Nat.le_of_ble_eq_true rfl⟩, k_⟩)
      exact ⟨by rw [show v_62 I J Z a x y = false from by unfold v_62; rw [if_pos h1, if_neg h2]] <;> rfl, rfl⟩
    · refine w_R.go (c' := (i_br .ne (I a 9) y 27 23, [(0, .ref a), (1, .int x), (2, .int y)], [], (I, J, kR w rem, Z), 0, 0)) 4 ?_ (fun m_ x_ Q_ k_ => ⟨trivial, ⟨ha, trivial⟩, trivial, trivial, k_⟩)
      refine w_R.br_ne (fun h3 => ?_) (fun h3 => ?_)
      · refine w_R.ret 2 (.inl (some (.int 0))) (I, J, kR w rem, Z) ?_ (fun x_ Q_ k_ => ⟨trivial, Or.inl rfl, ⟨Nat.le_of_ble_eq_true rfl, Nat.le_of_ble_eq_true rfl⟩, k_⟩)
        exact ⟨by rw [show v_62 I J Z a x y = false from by unfold v_62; rw [if_pos h1, if_pos h2, if_neg h3]] <;> rfl, rfl⟩
      · refine w_R.ret 3 (.inl (some (.int 1))) (I, J, kR w rem, Z) ?_ (fun x_ Q_ k_ => ⟨trivial, trivial, Or.inr rfl, ⟨Nat.le_of_ble_eq_true rfl, Nat.le_of_ble_eq_true rfl⟩, k_⟩)
        exact ⟨by rw [show v_62 I J Z a x y = true from by unfold v_62; rw [if_pos h1, if_pos h2, if_pos h3]] <;> rfl, rfl⟩
def i_64 (I : Nat → Nat → Int32) (J : Nat → Nat → Int64) (Z : Nat → Nat → Bool) (a : Nat) (b : Nat) : Nat → Nat → Int32 := s_up (s_up (s_up (s_up (s_up (s_up (s_up (s_up (s_up I a 1 (I b 1)) a 2 (I b 2)) a 3 (I b 3)) a 4 (I b 4)) a 5 (I b 5)) a 6 (I b 6)) a 7 (I b 7)) a 8 (I b 8)) a 9 (I b 9)
def z_64 (I : Nat → Nat → Int32) (J : Nat → Nat → Int64) (Z : Nat → Nat → Bool) (a : Nat) (b : Nat) : Nat → Nat → Bool := s_up Z a 0 (Z b 0)
theorem d_64 (a : Nat) (b : Nat) (ha : sh1[a]? = some (.inl 1)) (hb : sh1[b]? = some (.inl 1)) : w_R xs Ln 64 (0, [(0, .ref a), (1, .ref b)], [], (I, J, kR w rem, Z), 0, 0) (fun o s => o = .inl none ∧ s = (i_64 I J Z a b, J, kR w rem, z_64 I J Z a b)) := by
  refine w_R.go (c' := (8, [(0, .ref a), (1, .ref b)], [], (I, J, kR w rem, s_up Z a 0 (!(s_b (Z b 0) == 0))), 0, 0)) 4 ?_ (fun m_ x_ Q_ k_ => ⟨trivial, trivial, ⟨hb, trivial⟩, ⟨ha, (l_b _)⟩, k_⟩)
  rw [l_bz (Z b 0)]
  show w_R xs Ln 64 (8, [(0, .ref a), (1, .ref b)], [], (I, J, kR w rem, s_up Z a 0 (Z b 0)), 0, 0) _
  refine w_R.go (c' := (21, [(0, .ref a), (1, .ref b)], [.int ((s_up I a 1 (I b 1)) b 2), .ref a], (s_up I a 1 (I b 1), J, kR w rem, s_up Z a 0 (Z b 0)), 0, 0)) 7 ?_ (fun m_ x_ Q_ k_ => ⟨trivial, trivial, ⟨hb, trivial⟩, ⟨ha, trivial⟩, trivial, trivial, ⟨hb, trivial⟩, k_⟩)
  rw [show (s_up I a 1 (I b 1)) b 2 = I b 2 from (s_upk (by decide))]
  show w_R xs Ln 64 (21, [(0, .ref a), (1, .ref b)], [.int (I b 2), .ref a], (s_up I a 1 (I b 1), J, kR w rem, s_up Z a 0 (Z b 0)), 0, 0) _
  refine w_R.go (c' := (29, [(0, .ref a), (1, .ref b)], [.int ((s_up (s_up I a 1 (I b 1)) a 2 (I b 2)) b 3), .ref a], (s_up (s_up I a 1 (I b 1)) a 2 (I b 2), J, kR w rem, s_up Z a 0 (Z b 0)), 0, 0)) 4 ?_ (fun m_ x_ Q_ k_ => ⟨⟨ha, trivial⟩, trivial, trivial, ⟨hb, trivial⟩, k_⟩)
  rw [show (s_up (s_up I a 1 (I b 1)) a 2 (I b 2)) b 3 = I b 3 from ((s_upk (by decide)).trans (s_upk (by decide)))]
  show w_R xs Ln 64 (29, [(0, .ref a), (1, .ref b)], [.int (I b 3), .ref a], (s_up (s_up I a 1 (I b 1)) a 2 (I b 2), J, kR w rem, s_up Z a 0 (Z b 0)), 0, 0) _
  refine w_R.go (c' := (37, [(0, .ref a), (1, .ref b)], [.int ((s_up (s_up (s_up I a 1 (I b 1)) a 2 (I b 2)) a 3 (I b 3)) b 4), .ref a], (s_up (s_up (s_up I a 1 (I b 1)) a 2 (I b 2)) a 3 (I b 3), J, kR w rem, s_up Z a 0 (Z b 0)), 0, 0)) 4 ?_ (fun m_ x_ Q_ k_ => ⟨⟨ha, trivial⟩, trivial, trivial, ⟨hb, trivial⟩, k_⟩)
  rw [show (s_up (s_up (s_up I a 1 (I b 1)) a 2 (I b 2)) a 3 (I b 3)) b 4 = I b 4 from ((s_upk (by decide)).trans ((s_upk (by decide)).trans (s_upk (by decide))))]
  show w_R xs Ln 64 (37, [(0, .ref a), (1, .ref b)], [.int (I b 4), .ref a], (s_up (s_up (s_up I a 1 (I b 1)) a 2 (I b 2)) a 3 (I b 3), J, kR w rem, s_up Z a 0 (Z b 0)), 0, 0) _
  refine w_R.go (c' := (45, [(0, .ref a), (1, .ref b)], [.int ((s_up (s_up (s_up (s_up I a 1 (I b 1)) a 2 (I b 2)) a 3 (I b 3)) a 4 (I b 4)) b 5), .ref a], (s_up (s_up (s_up (s_up I a 1 (I b 1)) a 2 (I b 2)) a 3 (I b 3)) a 4 (I b 4), J, kR w rem, s_up Z a 0 (Z b 0)), 0, 0)) 4 ?_ (fun m_ x_ Q_ k_ => ⟨⟨ha, trivial⟩, trivial, trivial, ⟨hb, trivial⟩, k_⟩)
  rw [show (s_up (s_up (s_up (s_up I a 1 (I b 1)) a 2 (I b 2)) a 3 (I b 3)) a 4 (I b 4)) b 5 = I b 5 from ((s_upk (by decide)).trans ((s_upk (by decide)).trans ((s_upk (by decide)).trans (s_upk (by decide)))))]
  show w_R xs Ln 64 (45, [(0, .ref a), (1, .ref b)], [.int (I b 5), .ref a], (s_up (s_up (s_up (s_up I a 1 (I b 1)) a 2 (I b 2)) a 3 (I b 3)) a 4 (I b 4), J, kR w rem, s_up Z a 0 (Z b 0)), 0, 0) _
  refine w_R.go (c' := (53, [(0, .ref a), (1, .ref b)], [.int ((s_up (s_up (s_up (s_up (s_up I a 1 (I b 1)) a 2 (I b 2)) a 3 (I b 3)) a 4 (I b 4)) a 5 (I b 5)) b 6), .ref a], (s_up (s_up (s_up (s_up (s_up I a 1 (I b 1)) a 2 (I b 2)) a 3 (I b 3)) a 4 (I b 4)) a 5 (I b 5), J, kR w rem, s_up Z a 0 (Z b 0)), 0, 0)) 4 ?_ (fun m_ x_ Q_ k_ => ⟨⟨ha, trivial⟩, trivial, trivial, ⟨hb, trivial⟩, k_⟩)
  rw [show (s_up (s_up (s_up (s_up (s_up I a 1 (I b 1)) a 2 (I b 2)) a 3 (I b 3)) a 4 (I b 4)) a 5 (I b 5)) b 6 = I b 6 from ((s_upk (by decide)).trans ((s_upk (by decide)).trans ((s_upk (by decide)).trans ((s_upk (by decide)).trans (s_upk (by decide))))))]
  show w_R xs Ln 64 (53, [(0, .ref a), (1, .ref b)], [.int (I b 6), .ref a], (s_up (s_up (s_up (s_up (s_up I a 1 (I b 1)) a 2 (I b 2)) a 3 (I b 3)) a 4 (I b 4)) a 5 (I b 5), J, kR w rem, s_up Z a 0 (Z b 0)), 0, 0) _
  refine w_R.go (c' := (61, [(0, .ref a), (1, .ref b)], [.int ((s_up (s_up (s_up (s_up (s_up (s_up I a 1 (I b 1)) a 2 (I b 2)) a 3 (I b 3)) a 4 (I b 4)) a 5 (I b 5)) a 6 (I b 6)) b 7), .ref a], (s_up (s_up (s_up (s_up (s_up (s_up I a 1 (I b 1)) a 2 (I b 2)) a 3 (I b 3)) a 4 (I b 4)) a 5 (I b 5)) a 6 (I b 6), J, kR w rem, s_up Z a 0 (Z b 0)), 0, 0)) 4 ?_ (fun m_ x_ Q_ k_ => ⟨⟨ha, trivial⟩, trivial, trivial, ⟨hb, trivial⟩, k_⟩)
  rw [show (s_up (s_up (s_up (s_up (s_up (s_up I a 1 (I b 1)) a 2 (I b 2)) a 3 (I b 3)) a 4 (I b 4)) a 5 (I b 5)) a 6 (I b 6)) b 7 = I b 7 from ((s_upk (by decide)).trans ((s_upk (by decide)).trans ((s_upk (by decide)).trans ((s_upk (by decide)).trans ((s_upk (by decide)).trans (s_upk (by decide)))))))]
  show w_R xs Ln 64 (61, [(0, .ref a), (1, .ref b)], [.int (I b 7), .ref a], (s_up (s_up (s_up (s_up (s_up (s_up I a 1 (I b 1)) a 2 (I b 2)) a 3 (I b 3)) a 4 (I b 4)) a 5 (I b 5)) a 6 (I b 6), J, kR w rem, s_up Z a 0 (Z b 0)), 0, 0) _
  refine w_R.go (c' := (69, [(0, .ref a), (1, .ref b)], [.int ((s_up (s_up (s_up (s_up (s_up (s_up (s_up I a 1 (I b 1)) a 2 (I b 2)) a 3 (I b 3)) a 4 (I b 4)) a 5 (I b 5)) a 6 (I b 6)) a 7 (I b 7)) b 8), .ref a], (s_up (s_up (s_up (s_up (s_up (s_up (s_up I a 1 (I b 1)) a 2 (I b 2)) a 3 (I b 3)) a 4 (I b 4)) a 5 (I b 5)) a 6 (I b 6)) a 7 (I b 7), J, kR w rem, s_up Z a 0 (Z b 0)), 0, 0)) 4 ?_ (fun m_ x_ Q_ k_ => ⟨⟨ha, trivial⟩, trivial, trivial, ⟨hb, trivial⟩, k_⟩)
  rw [show (s_up (s_up (s_up (s_up (s_up (s_up (s_up I a 1 (I b 1)) a 2 (I b 2)) a 3 (I b 3)) a 4 (I b 4)) a 5 (I b 5)) a 6 (I b 6)) a 7 (I b 7)) b 8 = I b 8 from ((s_upk (by decide)).trans ((s_upk (by decide)).trans ((s_upk (by decide)).trans ((s_upk (by decide)).trans ((s_upk (by decide)).trans ((s_upk (by decide)).trans (s_upk (by decide))))))))]
  show w_R xs Ln 64 (69, [(0, .ref a), (1, .ref b)], [.int (I b 8), .ref a], (s_up (s_up (s_up (s_up (s_up (s_up (s_up I a 1 (I b 1)) a 2 (I b 2)) a 3 (I b 3)) a 4 (I b 4)) a 5 (I b 5)) a 6 (I b 6)) a 7 (I b 7), J, kR w rem, s_up Z a 0 (Z b 0)), 0, 0) _
  refine w_R.go (c' := (77, [(0, .ref a), (1, .ref b)], [.int ((s_up (s_up (s_up (s_up (s_up (s_up (s_up (s_up I a 1 (I b 1)) a 2 (I b 2)) a 3 (I b 3)) a 4 (I b 4)) a 5 (I b 5)) a 6 (I b 6)) a 7 (I b 7)) a 8 (I b 8)) b 9), .ref a], (s_up (s_up (s_up (s_up (s_up (s_up (s_up (s_up I a 1 (I b 1)) a 2 (I b 2)) a 3 (I b 3)) a 4 (I b 4)) a 5 (I b 5)) a 6 (I b 6)) a 7 (I b 7)) a 8 (I b 8), J, kR w rem, s_up Z a 0 (Z b 0)), 0, 0)) 4 ?_ (fun m_ x_ Q_ k_ => ⟨⟨ha, trivial⟩, trivial, trivial, ⟨hb, trivial⟩, k_⟩)
  rw [show (s_up (s_up (s_up (s_up (s_up (s_up (s_up (s_up I a 1 (I b 1)) a 2 (I b 2)) a 3 (I b 3)) a 4 (I b 4)) a 5 (I b 5)) a 6 (I b 6)) a 7 (I b 7)) a 8 (I b 8)) b 9 = I b 9 from ((s_upk (by decide)).trans ((s_upk (by decide)).trans ((s_upk (by decide)).trans ((s_upk (by decide)).trans ((s_upk (by decide)).trans ((s_upk (by decide)).trans ((s_upk (by decide)).trans (s_upk (by decide)))))))))]
  show w_R xs Ln 64 (77, [(0, .ref a), (1, .ref b)], [.int (I b 9), .ref a], (s_up (s_up (s_up (s_up (s_up (s_up (s_up (s_up I a 1 (I b 1)) a 2 (I b 2)) a 3 (I b 3)) a 4 (I b 4)) a 5 (I b 5)) a 6 (I b 6)) a 7 (I b 7)) a 8 (I b 8), J, kR w rem, s_up Z a 0 (Z b 0)), 0, 0) _
  refine w_R.ret 2 (.inl none) (s_up (s_up (s_up (s_up (s_up (s_up (s_up (s_up (s_up I a 1 (I b 1)) a 2 (I b 2)) a 3 (I b 3)) a 4 (I b 4)) a 5 (I b 5)) a 6 (I b 6)) a 7 (I b 7)) a 8 (I b 8)) a 9 (I b 9), J, kR w rem, s_up Z a 0 (Z b 0)) ?_ (fun x_ Q_ k_ => ⟨⟨ha, trivial⟩, ⟨Nat.le_of_ble_eq_true rfl, Nat.le_of_ble_eq_true rfl⟩, k_⟩)
  exact ⟨rfl, by rw [show i_64 I J Z a b = (s_up (s_up (s_up (s_up (s_up (s_up (s_up (s_up (s_up I a 1 (I b 1)) a 2 (I b 2)) a 3 (I b 3)) a 4 (I b 4)) a 5 (I b 5)) a 6 (I b 6)) a 7 (I b 7)) a 8 (I b 8)) a 9 (I b 9)) from by unfold i_64; rfl, show z_64 I J Z a b = (s_up Z a 0 (Z b 0)) from by unfold z_64; rfl]⟩
def v_65 (I : Nat → Nat → Int32) (J : Nat → Nat → Int64) (Z : Nat → Nat → Bool) (a : Nat) : Int32 := if (I a 4) = 0 then (5 - 1) / 2 else ((I a 4) - 1) / 2
theorem d_65 (a : Nat) (ha : sh1[a]? = some (.inl 1)) : w_R xs Ln 65 (0, [(0, .ref a)], [], (I, J, kR w rem, Z), 0, 0) (fun o s => o = .inl (some (.int (v_65 I J Z a))) ∧ s = (I, J, kR w rem, Z)) := by
  refine w_R.go (c' := (i_br .ne (I a 4) 0 11 7, [(0, .ref a)], [], (I, J, kR w rem, Z), 0, 0)) 3 ?_ (fun m_ x_ Q_ k_ => ⟨trivial, ⟨ha, trivial⟩, trivial, k_⟩)
  refine w_R.br_ne (fun h1 => ?_) (fun h1 => ?_)
  · refine w_R.ret 7 (.inl (some (.int (((I a 4) - 1) / 2)))) (I, J, kR w rem, Z) ?_ (fun x_ Q_ k_ => ⟨trivial, ⟨ha, trivial⟩, trivial, trivial, trivial, (by decide), trivial, ⟨Nat.le_of_ble_eq_true rfl, Nat.le_of_ble_eq_true rfl⟩, k_⟩)
    exact ⟨by rw [show v_65 I J Z a = (((I a 4) - 1) / 2) from by unfold v_65; rw [if_neg h1]] <;> rfl, rfl⟩
  · refine w_R.ret 7 (.inl (some (.int ((5 - 1) / 2)))) (I, J, kR w rem, Z) ?_ (fun x_ Q_ k_ => ⟨trivial, trivial, trivial, trivial, trivial, (by decide), trivial, ⟨Nat.le_of_ble_eq_true rfl, Nat.le_of_ble_eq_true rfl⟩, k_⟩)
    exact ⟨by rw [show v_65 I J Z a = ((5 - 1) / 2) from by unfold v_65; rw [if_pos h1]] <;> rfl, rfl⟩
def v_66 (I : Nat → Nat → Int32) (J : Nat → Nat → Int64) (Z : Nat → Nat → Bool) (a : Nat) (x : Int32) (z : Bool) : Int32 := if (Z a 0) = true then if x = 0 then I a 1 else if x = 1 then I a 3 else if x = 2 then I a 4 else if x = 3 then I a 5 else if x = 4 then I a 6 else if x = 5 then I a 7 else if x = 6 then I a 8 else if x = 7 then I a 9 else if x = 8 then if z = true then 1 else 0 else (-1) else (-1)
theorem d_66 (a : Nat) (x : Int32) (z : Bool) (ha : sh1[a]? = some (.inl 1)) : w_R xs Ln 66 (0, [(0, .ref a), (1, .int x), (2, .int (s_b z))], [], (I, J, kR w rem, Z), 0, 0) (fun o s => o = .inl (some (.int (v_66 I J Z a x z))) ∧ s = (I, J, kR w rem, Z)) := by
  refine w_R.go (c' := (i_br .ne (s_b (Z a 0)) 0 9 7, [(0, .ref a), (1, .int x), (2, .int (s_b z))], [], (I, J, kR w rem, Z), 0, 0)) 3 ?_ (fun m_ x_ Q_ k_ => ⟨trivial, ⟨ha, trivial⟩, trivial, k_⟩)
  refine w_R.br_nz (fun h1 => ?_) (fun h1 => ?_)
  · refine w_R.go (c' := (if x.toInt < 0 ∨ 8 < x.toInt then 110 else i_tg 10 ((#[50, 55, 60, 65, 70, 75, 80, 85, 90] : Array Int).getD (x.toInt - 0).toNat 0), [(0, .ref a), (1, .int x), (2, .int (s_b z))], [], (I, J, kR w rem, Z), 0, 0)) 2 ?_ (fun m_ x_ Q_ k_ => ⟨trivial, trivial, k_⟩)
    by_cases h2 : x = 0
    · rw [show (if x.toInt < 0 ∨ 8 < x.toInt then 110 else i_tg 10 ((#[50, 55, 60, 65, 70, 75, 80, 85, 90] : Array Int).getD (x.toInt - 0).toNat 0)) = 60 by rw [h2]; rfl]
      refine w_R.ret 3 (.inl (some (.int (I a 1)))) (I, J, kR w rem, Z) ?_ (fun x_ Q_ k_ => ⟨trivial, ⟨ha, trivial⟩, trivial, ⟨Nat.le_of_ble_eq_true rfl, Nat.le_of_ble_eq_true rfl⟩, k_⟩)
      exact ⟨by rw [show v_66 I J Z a x z = (I a 1) from by unfold v_66; rw [if_pos h1, if_pos h2]] <;> rfl, rfl⟩
    by_cases h3 : x = 1
    · rw [show (if x.toInt < 0 ∨ 8 < x.toInt then 110 else i_tg 10 ((#[50, 55, 60, 65, 70, 75, 80, 85, 90] : Array Int).getD (x.toInt - 0).toNat 0)) = 65 by rw [h3]; rfl]
      refine w_R.ret 3 (.inl (some (.int (I a 3)))) (I, J, kR w rem, Z) ?_ (fun x_ Q_ k_ => ⟨trivial, ⟨ha, trivial⟩, trivial, ⟨Nat.le_of_ble_eq_true rfl, Nat.le_of_ble_eq_true rfl⟩, k_⟩)
      exact ⟨by rw [show v_66 I J Z a x z = (I a 3) from by unfold v_66; rw [if_pos h1, if_neg h2, if_pos h3]] <;> rfl, rfl⟩
    by_cases h4 : x = 2
    · rw [show (if x.toInt < 0 ∨ 8 < x.toInt then 110 else i_tg 10 ((#[50, 55, 60, 65, 70, 75, 80, 85, 90] : Array Int).getD (x.toInt - 0).toNat 0)) = 70 by rw [h4]; rfl]
      refine w_R.ret 3 (.inl (some (.int (I a 4)))) (I, J, kR w rem, Z) ?_ (fun x_ Q_ k_ => ⟨trivial, ⟨ha, trivial⟩, trivial, ⟨Nat.le_of_ble_eq_true rfl, Nat.le_of_ble_eq_true rfl⟩, k_⟩)
      exact ⟨by rw [show v_66 I J Z a x z = (I a 4) from by unfold v_66; rw [if_pos h1, if_neg h2, if_neg h3, if_pos h4]] <;> rfl, rfl⟩
    by_cases h5 : x = 3
    · rw [show (if x.toInt < 0 ∨ 8 < x.toInt then 110 else i_tg 10 ((#[50, 55, 60, 65, 70, 75, 80, 85, 90] : Array Int).getD (x.toInt - 0).toNat 0)) = 75 by rw [h5]; rfl]
      refine w_R.ret 3 (.inl (some (.int (I a 5)))) (I, J, kR w rem, Z) ?_ (fun x_ Q_ k_ => ⟨trivial, ⟨ha, trivial⟩, trivial, ⟨Nat.le_of_ble_eq_true rfl, Nat.le_of_ble_eq_true rfl⟩, k_⟩)
      exact ⟨by rw [show v_66 I J Z a x z = (I a 5) from by unfold v_66; rw [if_pos h1, if_neg h2, if_neg h3, if_neg h4, if_pos h5]] <;> rfl, rfl⟩
    by_cases h6 : x = 4
    · rw [show (if x.toInt < 0 ∨ 8 < x.toInt then 110 else i_tg 10 ((#[50, 55, 60, 65, 70, 75, 80, 85, 90] : Array Int).getD (x.toInt - 0).toNat 0)) = 80 by rw [h6]; rfl]
      refine w_R.ret 3 (.inl (some (.int (I a 6)))) (I, J, kR w rem, Z) ?_ (fun x_ Q_ k_ => ⟨trivial, ⟨ha, trivial⟩, trivial, ⟨Nat.le_of_ble_eq_true rfl, Nat.le_of_ble_eq_true rfl⟩, k_⟩)
      exact ⟨by rw [show v_66 I J Z a x z = (I a 6) from by unfold v_66; rw [if_pos h1, if_neg h2, if_neg h3, if_neg h4, if_neg h5, if_pos h6]] <;> rfl, rfl⟩
    by_cases h7 : x = 5
    · rw [show (if x.toInt < 0 ∨ 8 < x.toInt then 110 else i_tg 10 ((#[50, 55, 60, 65, 70, 75, 80, 85, 90] : Array Int).getD (x.toInt - 0).toNat 0)) = 85 by rw [h7]; rfl]
      refine w_R.ret 3 (.inl (some (.int (I a 7)))) (I, J, kR w rem, Z) ?_ (fun x_ Q_ k_ => ⟨trivial, ⟨ha, trivial⟩, trivial, ⟨Nat.le_of_ble_eq_true rfl, Nat.le_of_ble_eq_true rfl⟩, k_⟩)
      exact ⟨by rw [show v_66 I J Z a x z = (I a 7) from by unfold v_66; rw [if_pos h1, if_neg h2, if_neg h3, if_neg h4, if_neg h5, if_neg h6, if_pos h7]] <;> rfl, rfl⟩
    by_cases h8 : x = 6
    · rw [show (if x.toInt < 0 ∨ 8 < x.toInt then 110 else i_tg 10 ((#[50, 55, 60, 65, 70, 75, 80, 85, 90] : Array Int).getD (x.toInt - 0).toNat 0)) = 90 by rw [h8]; rfl]
      refine w_R.ret 3 (.inl (some (.int (I a 8)))) (I, J, kR w rem, Z) ?_ (fun x_ Q_ k_ => ⟨trivial, ⟨ha, trivial⟩, trivial, ⟨Nat.le_of_ble_eq_true rfl, Nat.le_of_ble_eq_true rfl⟩, k_⟩)
      exact ⟨by rw [show v_66 I J Z a x z = (I a 8) from by unfold v_66; rw [if_pos h1, if_neg h2, if_neg h3, if_neg h4, if_neg h5, if_neg h6, if_neg h7, if_pos h8]] <;> rfl, rfl⟩
    by_cases h9 : x = 7
    · rw [show (if x.toInt < 0 ∨ 8 < x.toInt then 110 else i_tg 10 ((#[50, 55, 60, 65, 70, 75, 80, 85, 90] : Array Int).getD (x.toInt - 0).toNat 0)) = 95 by rw [h9]; rfl]
      refine w_R.ret 3 (.inl (some (.int (I a 9)))) (I, J, kR w rem, Z) ?_ (fun x_ Q_ k_ => ⟨trivial, ⟨ha, trivial⟩, trivial, ⟨Nat.le_of_ble_eq_true rfl, Nat.le_of_ble_eq_true rfl⟩, k_⟩)
      exact ⟨by rw [show v_66 I J Z a x z = (I a 9) from by unfold v_66; rw [if_pos h1, if_neg h2, if_neg h3, if_neg h4, if_neg h5, if_neg h6, if_neg h7, if_neg h8, if_pos h9]] <;> rfl, rfl⟩
    by_cases h10 : x = 8
    · rw [show (if x.toInt < 0 ∨ 8 < x.toInt then 110 else i_tg 10 ((#[50, 55, 60, 65, 70, 75, 80, 85, 90] : Array Int).getD (x.toInt - 0).toNat 0)) = 100 by rw [h10]; rfl]
      refine w_R.go (c' := (i_br .eq (s_b z) 0 108 104, [(0, .ref a), (1, .int x), (2, .int (s_b z))], [], (I, J, kR w rem, Z), 0, 0)) 2 ?_ (fun m_ x_ Q_ k_ => ⟨trivial, trivial, k_⟩)
      refine w_R.br_z (fun h11 => ?_) (fun h11 => ?_)
      · replace h11 := Bool.eq_false_iff.mp h11
        refine w_R.ret 2 (.inl (some (.int 0))) (I, J, kR w rem, Z) ?_ (fun x_ Q_ k_ => ⟨trivial, trivial, ⟨Nat.le_of_ble_eq_true rfl, Nat.le_of_ble_eq_true rfl⟩, k_⟩)
        exact ⟨by rw [show v_66 I J Z a x z = 0 from by unfold v_66; rw [if_pos h1, if_neg h2, if_neg h3, if_neg h4, if_neg h5, if_neg h6, if_neg h7, if_neg h8, if_neg h9, if_pos h10, if_neg h11]] <;> rfl, rfl⟩
      · refine w_R.ret 3 (.inl (some (.int 1))) (I, J, kR w rem, Z) ?_ (fun x_ Q_ k_ => ⟨trivial, trivial, trivial, ⟨Nat.le_of_ble_eq_true rfl, Nat.le_of_ble_eq_true rfl⟩, k_⟩)
        exact ⟨by rw [show v_66 I J Z a x z = 1 from by unfold v_66; rw [if_pos h1, if_neg h2, if_neg h3, if_neg h4, if_neg h5, if_neg h6, if_neg h7, if_neg h8, if_neg h9, if_pos h10, if_pos h11]] <;> rfl, rfl⟩
    rw [if_pos (l_out (x := x) (a := 8) (n := 9) (by omega) rfl (by intro k hk; (rcases k with _ | _ | _ | _ | _ | _ | _ | _ | _ | k) <;> first | assumption | omega))]
    refine w_R.ret 2 (.inl (some (.int (-1)))) (I, J, kR w rem, Z) ?_ (fun x_ Q_ k_ => ⟨trivial, trivial, ⟨Nat.le_of_ble_eq_true rfl, Nat.le_of_ble_eq_true rfl⟩, k_⟩)
    exact ⟨by rw [show v_66 I J Z a x z = (-1) from by unfold v_66; rw [if_pos h1, if_neg h2, if_neg h3, if_neg h4, if_neg h5, if_neg h6, if_neg h7, if_neg h8, if_neg h9, if_neg h10]] <;> rfl, rfl⟩
  · replace h1 := Bool.eq_false_iff.mp h1
    refine w_R.ret 2 (.inl (some (.int (-1)))) (I, J, kR w rem, Z) ?_ (fun x_ Q_ k_ => ⟨trivial, trivial, ⟨Nat.le_of_ble_eq_true rfl, Nat.le_of_ble_eq_true rfl⟩, k_⟩)
    exact ⟨by rw [show v_66 I J Z a x z = (-1) from by unfold v_66; rw [if_neg h1]] <;> rfl, rfl⟩
def v_90 (I : Nat → Nat → Int32) (J : Nat → Nat → Int64) (Z : Nat → Nat → Bool) (x : Int32) (y : Int32) : Bool := if y = (-1) then true else if x < y then true else false
theorem d_90 (x : Int32) (y : Int32)  : w_R xs Ln 90 (0, [(0, .int x), (1, .int y)], [], (I, J, kR w rem, Z), 0, 0) (fun o s => o = .inl (some (.int (s_b (v_90 I J Z x y)))) ∧ s = (I, J, kR w rem, Z)) := by
  refine w_R.go (c' := (i_br .eq y (-1) 10 5, [(0, .int x), (1, .int y)], [], (I, J, kR w rem, Z), 0, 0)) 3 ?_ (fun m_ x_ Q_ k_ => ⟨trivial, trivial, trivial, k_⟩)
  refine w_R.br_eq (fun h1 => ?_) (fun h1 => ?_)
  · refine w_R.ret 3 (.inl (some (.int 1))) (I, J, kR w rem, Z) ?_ (fun x_ Q_ k_ => ⟨trivial, trivial, Or.inr rfl, ⟨Nat.le_of_ble_eq_true rfl, Nat.le_of_ble_eq_true rfl⟩, k_⟩)
    exact ⟨by rw [show v_90 I J Z x y = true from by unfold v_90; rw [if_pos h1]] <;> rfl, rfl⟩
  · refine w_R.go (c' := (i_br .ge x y 14 10, [(0, .int x), (1, .int y)], [], (I, J, kR w rem, Z), 0, 0)) 3 ?_ (fun m_ x_ Q_ k_ => ⟨trivial, trivial, trivial, k_⟩)
    refine w_R.br_ge (fun h2 => ?_) (fun h2 => ?_)
    · refine w_R.ret 2 (.inl (some (.int 0))) (I, J, kR w rem, Z) ?_ (fun x_ Q_ k_ => ⟨trivial, Or.inl rfl, ⟨Nat.le_of_ble_eq_true rfl, Nat.le_of_ble_eq_true rfl⟩, k_⟩)
      exact ⟨by rw [show v_90 I J Z x y = false from by unfold v_90; rw [if_neg h1, if_neg h2]] <;> rfl, rfl⟩
    · refine w_R.ret 3 (.inl (some (.int 1))) (I, J, kR w rem, Z) ?_ (fun x_ Q_ k_ => ⟨trivial, trivial, Or.inr rfl, ⟨Nat.le_of_ble_eq_true rfl, Nat.le_of_ble_eq_true rfl⟩, k_⟩)
      exact ⟨by rw [show v_90 I J Z x y = true from by unfold v_90; rw [if_neg h1, if_pos h2]] <;> rfl, rfl⟩
def v_87 (I : Nat → Nat → Int32) (J : Nat → Nat → Int64) (Z : Nat → Nat → Bool) (f : Nat) (t : Nat) (x : Int32) : Bool := if 0 < (I 5 ((f * 12) + t)) then if 0 < x then if 30 < (((I 2 3) - 1) + 1) then false else true else if 30 < (((I 2 3) - 1) + 0) then false else true else if 0 < x then if 30 < (((I 2 3) - 0) + 1) then false else true else if 30 < (((I 2 3) - 0) + 0) then false else true
def i_87 (I : Nat → Nat → Int32) (J : Nat → Nat → Int64) (Z : Nat → Nat → Bool) (f : Nat) (t : Nat) (x : Int32) : Nat → Nat → Int32 := if 0 < (I 5 ((f * 12) + t)) then if 0 < x then if 30 < (((I 2 3) - 1) + 1) then I else s_up (s_up I 2 3 ((I 2 3) + (1 - 1))) 5 ((f * 12) + t) x else if 30 < (((I 2 3) - 1) + 0) then I else s_up (s_up I 2 3 ((I 2 3) + (0 - 1))) 5 ((f * 12) + t) x else if 0 < x then if 30 < (((I 2 3) - 0) + 1) then I else s_up (s_up I 2 3 ((I 2 3) + (1 - 0))) 5 ((f * 12) + t) x else if 30 < (((I 2 3) - 0) + 0) then I else s_up (s_up I 2 3 ((I 2 3) + (0 - 0))) 5 ((f * 12) + t) x
theorem d_87 (f : Nat) (t : Nat) (x : Int32) (hf : f < 12) (ht : t < 12) : w_R xs Ln 87 (0, [(0, .ref 2), (1, .int (Int32.ofNat f)), (2, .int (Int32.ofNat t)), (3, .int x)], [], (I, J, kR w rem, Z), 0, 0) (fun o s => o = .inl (some (.int (s_b (v_87 I J Z f t x)))) ∧ s = (i_87 I J Z f t x, J, kR w rem, Z)) := by
  refine w_R.go (c' := (4, [(0, .ref 2), (1, .int (Int32.ofNat f)), (2, .int (Int32.ofNat t)), (3, .int x)], [.int (Int32.ofNat f * Int32.ofNat 12)], (I, J, kR w rem, Z), 0, 0)) 3 ?_ (fun m_ x_ Q_ k_ => ⟨trivial, trivial, trivial, k_⟩)
  rw [n_mul f 12]
  show w_R xs Ln 87 (4, [(0, .ref 2), (1, .int (Int32.ofNat f)), (2, .int (Int32.ofNat t)), (3, .int x)], [.int (Int32.ofNat (f * 12))], (I, J, kR w rem, Z), 0, 0) _
  refine w_R.go (c' := (6, [(0, .ref 2), (1, .int (Int32.ofNat f)), (2, .int (Int32.ofNat t)), (3, .int x)], [.int (Int32.ofNat (f * 12) + Int32.ofNat t)], (I, J, kR w rem, Z), 0, 0)) 2 ?_ (fun m_ x_ Q_ k_ => ⟨trivial, trivial, k_⟩)
  rw [n_add (f * 12) t]
  show w_R xs Ln 87 (6, [(0, .ref 2), (1, .int (Int32.ofNat f)), (2, .int (Int32.ofNat t)), (3, .int x)], [.int (Int32.ofNat ((f * 12) + t))], (I, J, kR w rem, Z), 0, 0) _
  refine w_R.go (c' := (15, [(4, .int (Int32.ofNat ((f * 12) + t))), (0, .ref 2), (1, .int (Int32.ofNat f)), (2, .int (Int32.ofNat t)), (3, .int x)], [.int (I 5 (Int32.ofNat ((f * 12) + t)).toNatClampNeg)], (I, J, kR w rem, Z), 0, 0)) 5 ?_ (fun m_ x_ Q_ k_ => ⟨trivial, trivial, ⟨sh_2, (Nat.succ_ne_zero 4)⟩, trivial, ⟨_, sh_5, (n_in (a := (f * 12) + t) (by omega) (by decide))⟩, k_⟩)
  rw [n_cl (a := (f * 12) + t) (by omega)]
  show w_R xs Ln 87 (15, [(4, .int (Int32.ofNat ((f * 12) + t))), (0, .ref 2), (1, .int (Int32.ofNat f)), (2, .int (Int32.ofNat t)), (3, .int x)], [.int (I 5 ((f * 12) + t))], (I, J, kR w rem, Z), 0, 0) _
  refine w_R.go (c' := (i_br .le (I 5 ((f * 12) + t)) 0 22 18, [(4, .int (Int32.ofNat ((f * 12) + t))), (0, .ref 2), (1, .int (Int32.ofNat f)), (2, .int (Int32.ofNat t)), (3, .int x)], [], (I, J, kR w rem, Z), 0, 0)) 1 ?_ (fun m_ x_ Q_ k_ => ⟨trivial, k_⟩)
  refine w_R.br_le (fun h1 => ?_) (fun h1 => ?_)
  · refine w_R.go (c' := (i_br .le x 0 33 29, [(5, .int 0), (4, .int (Int32.ofNat ((f * 12) + t))), (0, .ref 2), (1, .int (Int32.ofNat f)), (2, .int (Int32.ofNat t)), (3, .int x)], [], (I, J, kR w rem, Z), 0, 0)) 4 ?_ (fun m_ x_ Q_ k_ => ⟨trivial, trivial, trivial, trivial, k_⟩)
    refine w_R.br_le (fun h2 => ?_) (fun h2 => ?_)
    · refine w_R.go (c' := (i_br .le (((I 2 3) - 0) + 0) 30 53 51, [(6, .int 0), (5, .int 0), (4, .int (Int32.ofNat ((f * 12) + t))), (0, .ref 2), (1, .int (Int32.ofNat f)), (2, .int (Int32.ofNat t)), (3, .int x)], [], (I, J, kR w rem, Z), 0, 0)) 10 ?_ (fun m_ x_ Q_ k_ => ⟨trivial, trivial, trivial, ⟨sh_2, trivial⟩, trivial, trivial, trivial, trivial, trivial, trivial, k_⟩)
      refine w_R.br_le (fun h3 => ?_) (fun h3 => ?_)
      · refine w_R.go (c' := (75, [(6, .int 0), (5, .int 0), (4, .int (Int32.ofNat ((f * 12) + t))), (0, .ref 2), (1, .int (Int32.ofNat f)), (2, .int (Int32.ofNat t)), (3, .int x)], [], (s_up (s_up I 2 3 ((I 2 3) + (0 - 0))) 5 ((Int32.ofNat ((f * 12) + t)).toNatClampNeg) x, J, kR w rem, Z), 0, 0)) 13 ?_ (fun m_ x_ Q_ k_ => ⟨trivial, trivial, ⟨sh_2, trivial⟩, trivial, trivial, trivial, trivial, ⟨sh_2, trivial⟩, trivial, ⟨sh_2, (Nat.succ_ne_zero 4)⟩, trivial, trivial, ⟨_, sh_5, (n_in (a := (f * 12) + t) (by omega) (by decide))⟩, k_⟩)
        rw [n_cl (a := (f * 12) + t) (by omega)]
        show w_R xs Ln 87 (75, [(6, .int 0), (5, .int 0), (4, .int (Int32.ofNat ((f * 12) + t))), (0, .ref 2), (1, .int (Int32.ofNat f)), (2, .int (Int32.ofNat t)), (3, .int x)], [], (s_up (s_up I 2 3 ((I 2 3) + (0 - 0))) 5 ((f * 12) + t) x, J, kR w rem, Z), 0, 0) _
        refine w_R.ret 2 (.inl (some (.int 1))) (s_up (s_up I 2 3 ((I 2 3) + (0 - 0))) 5 ((f * 12) + t) x, J, kR w rem, Z) ?_ (fun x_ Q_ k_ => ⟨trivial, Or.inr rfl, ⟨Nat.le_of_ble_eq_true rfl, Nat.le_of_ble_eq_true rfl⟩, k_⟩)
        exact ⟨by rw [show v_87 I J Z f t x = true from by unfold v_87; rw [if_neg h1, if_neg h2, if_neg h3]] <;> rfl, by rw [show i_87 I J Z f t x = (s_up (s_up I 2 3 ((I 2 3) + (0 - 0))) 5 ((f * 12) + t) x) from by unfold i_87; rw [if_neg h1, if_neg h2, if_neg h3]]⟩
      · refine w_R.ret 2 (.inl (some (.int 0))) (I, J, kR w rem, Z) ?_ (fun x_ Q_ k_ => ⟨trivial, Or.inl rfl, ⟨Nat.le_of_ble_eq_true rfl, Nat.le_of_ble_eq_true rfl⟩, k_⟩)
        exact ⟨by rw [show v_87 I J Z f t x = false from by unfold v_87; rw [if_neg h1, if_neg h2, if_pos h3]] <;> rfl, by rw [show i_87 I J Z f t x = I from by unfold i_87; rw [if_neg h1, if_neg h2, if_pos h3]]⟩
    · refine w_R.go (c' := (i_br .le (((I 2 3) - 0) + 1) 30 53 51, [(6, .int 1), (5, .int 0), (4, .int (Int32.ofNat ((f * 12) + t))), (0, .ref 2), (1, .int (Int32.ofNat f)), (2, .int (Int32.ofNat t)), (3, .int x)], [], (I, J, kR w rem, Z), 0, 0)) 11 ?_ (fun m_ x_ Q_ k_ => ⟨trivial, trivial, trivial, trivial, ⟨sh_2, trivial⟩, trivial, trivial, trivial, trivial, trivial, trivial, k_⟩)
      refine w_R.br_le (fun h4 => ?_) (fun h4 => ?_)
      · refine w_R.go (c' := (75, [(6, .int 1), (5, .int 0), (4, .int (Int32.ofNat ((f * 12) + t))), (0, .ref 2), (1, .int (Int32.ofNat f)), (2, .int (Int32.ofNat t)), (3, .int x)], [], (s_up (s_up I 2 3 ((I 2 3) + (1 - 0))) 5 ((Int32.ofNat ((f * 12) + t)).toNatClampNeg) x, J, kR w rem, Z), 0, 0)) 13 ?_ (fun m_ x_ Q_ k_ => ⟨trivial, trivial, ⟨sh_2, trivial⟩, trivial, trivial, trivial, trivial, ⟨sh_2, trivial⟩, trivial, ⟨sh_2, (Nat.succ_ne_zero 4)⟩, trivial, trivial, ⟨_, sh_5, (n_in (a := (f * 12) + t) (by omega) (by decide))⟩, k_⟩)
        rw [n_cl (a := (f * 12) + t) (by omega)]
        show w_R xs Ln 87 (75, [(6, .int 1), (5, .int 0), (4, .int (Int32.ofNat ((f * 12) + t))), (0, .ref 2), (1, .int (Int32.ofNat f)), (2, .int (Int32.ofNat t)), (3, .int x)], [], (s_up (s_up I 2 3 ((I 2 3) + (1 - 0))) 5 ((f * 12) + t) x, J, kR w rem, Z), 0, 0) _
        refine w_R.ret 2 (.inl (some (.int 1))) (s_up (s_up I 2 3 ((I 2 3) + (1 - 0))) 5 ((f * 12) + t) x, J, kR w rem, Z) ?_ (fun x_ Q_ k_ => ⟨trivial, Or.inr rfl, ⟨Nat.le_of_ble_eq_true rfl, Nat.le_of_ble_eq_true rfl⟩, k_⟩)
        exact ⟨by rw [show v_87 I J Z f t x = true from by unfold v_87; rw [if_neg h1, if_pos h2, if_neg h4]] <;> rfl, by rw [show i_87 I J Z f t x = (s_up (s_up I 2 3 ((I 2 3) + (1 - 0))) 5 ((f * 12) + t) x) from by unfold i_87; rw [if_neg h1, if_pos h2, if_neg h4]]⟩
      · refine w_R.ret 2 (.inl (some (.int 0))) (I, J, kR w rem, Z) ?_ (fun x_ Q_ k_ => ⟨trivial, Or.inl rfl, ⟨Nat.le_of_ble_eq_true rfl, Nat.le_of_ble_eq_true rfl⟩, k_⟩)
        exact ⟨by rw [show v_87 I J Z f t x = false from by unfold v_87; rw [if_neg h1, if_pos h2, if_pos h4]] <;> rfl, by rw [show i_87 I J Z f t x = I from by unfold i_87; rw [if_neg h1, if_pos h2, if_pos h4]]⟩
  · refine w_R.go (c' := (i_br .le x 0 33 29, [(5, .int 1), (4, .int (Int32.ofNat ((f * 12) + t))), (0, .ref 2), (1, .int (Int32.ofNat f)), (2, .int (Int32.ofNat t)), (3, .int x)], [], (I, J, kR w rem, Z), 0, 0)) 5 ?_ (fun m_ x_ Q_ k_ => ⟨trivial, trivial, trivial, trivial, trivial, k_⟩)
    refine w_R.br_le (fun h5 => ?_) (fun h5 => ?_)
    · refine w_R.go (c' := (i_br .le (((I 2 3) - 1) + 0) 30 53 51, [(6, .int 0), (5, .int 1), (4, .int (Int32.ofNat ((f * 12) + t))), (0, .ref 2), (1, .int (Int32.ofNat f)), (2, .int (Int32.ofNat t)), (3, .int x)], [], (I, J, kR w rem, Z), 0, 0)) 10 ?_ (fun m_ x_ Q_ k_ => ⟨trivial, trivial, trivial, ⟨sh_2, trivial⟩, trivial, trivial, trivial, trivial, trivial, trivial, k_⟩)
      refine w_R.br_le (fun h6 => ?_) (fun h6 => ?_)
      · refine w_R.go (c' := (75, [(6, .int 0), (5, .int 1), (4, .int (Int32.ofNat ((f * 12) + t))), (0, .ref 2), (1, .int (Int32.ofNat f)), (2, .int (Int32.ofNat t)), (3, .int x)], [], (s_up (s_up I 2 3 ((I 2 3) + (0 - 1))) 5 ((Int32.ofNat ((f * 12) + t)).toNatClampNeg) x, J, kR w rem, Z), 0, 0)) 13 ?_ (fun m_ x_ Q_ k_ => ⟨trivial, trivial, ⟨sh_2, trivial⟩, trivial, trivial, trivial, trivial, ⟨sh_2, trivial⟩, trivial, ⟨sh_2, (Nat.succ_ne_zero 4)⟩, trivial, trivial, ⟨_, sh_5, (n_in (a := (f * 12) + t) (by omega) (by decide))⟩, k_⟩)
        rw [n_cl (a := (f * 12) + t) (by omega)]
        show w_R xs Ln 87 (75, [(6, .int 0), (5, .int 1), (4, .int (Int32.ofNat ((f * 12) + t))), (0, .ref 2), (1, .int (Int32.ofNat f)), (2, .int (Int32.ofNat t)), (3, .int x)], [], (s_up (s_up I 2 3 ((I 2 3) + (0 - 1))) 5 ((f * 12) + t) x, J, kR w rem, Z), 0, 0) _
        refine w_R.ret 2 (.inl (some (.int 1))) (s_up (s_up I 2 3 ((I 2 3) + (0 - 1))) 5 ((f * 12) + t) x, J, kR w rem, Z) ?_ (fun x_ Q_ k_ => ⟨trivial, Or.inr rfl, ⟨Nat.le_of_ble_eq_true rfl, Nat.le_of_ble_eq_true rfl⟩, k_⟩)
        exact ⟨by rw [show v_87 I J Z f t x = true from by unfold v_87; rw [if_pos h1, if_neg h5, if_neg h6]] <;> rfl, by rw [show i_87 I J Z f t x = (s_up (s_up I 2 3 ((I 2 3) + (0 - 1))) 5 ((f * 12) + t) x) from by unfold i_87; rw [if_pos h1, if_neg h5, if_neg h6]]⟩
      · refine w_R.ret 2 (.inl (some (.int 0))) (I, J, kR w rem, Z) ?_ (fun x_ Q_ k_ => ⟨trivial, Or.inl rfl, ⟨Nat.le_of_ble_eq_true rfl, Nat.le_of_ble_eq_true rfl⟩, k_⟩)
        exact ⟨by rw [show v_87 I J Z f t x = false from by unfold v_87; rw [if_pos h1, if_neg h5, if_pos h6]] <;> rfl, by rw [show i_87 I J Z f t x = I from by unfold i_87; rw [if_pos h1, if_neg h5, if_pos h6]]⟩
    · refine w_R.go (c' := (i_br .le (((I 2 3) - 1) + 1) 30 53 51, [(6, .int 1), (5, .int 1), (4, .int (Int32.ofNat ((f * 12) + t))), (0, .ref 2), (1, .int (Int32.ofNat f)), (2, .int (Int32.ofNat t)), (3, .int x)], [], (I, J, kR w rem, Z), 0, 0)) 11 ?_ (fun m_ x_ Q_ k_ => ⟨trivial, trivial, trivial, trivial, ⟨sh_2, trivial⟩, trivial, trivial, trivial, trivial, trivial, trivial, k_⟩)
      refine w_R.br_le (fun h7 => ?_) (fun h7 => ?_)
      · refine w_R.go (c' := (75, [(6, .int 1), (5, .int 1), (4, .int (Int32.ofNat ((f * 12) + t))), (0, .ref 2), (1, .int (Int32.ofNat f)), (2, .int (Int32.ofNat t)), (3, .int x)], [], (s_up (s_up I 2 3 ((I 2 3) + (1 - 1))) 5 ((Int32.ofNat ((f * 12) + t)).toNatClampNeg) x, J, kR w rem, Z), 0, 0)) 13 ?_ (fun m_ x_ Q_ k_ => ⟨trivial, trivial, ⟨sh_2, trivial⟩, trivial, trivial, trivial, trivial, ⟨sh_2, trivial⟩, trivial, ⟨sh_2, (Nat.succ_ne_zero 4)⟩, trivial, trivial, ⟨_, sh_5, (n_in (a := (f * 12) + t) (by omega) (by decide))⟩, k_⟩)
        rw [n_cl (a := (f * 12) + t) (by omega)]
        show w_R xs Ln 87 (75, [(6, .int 1), (5, .int 1), (4, .int (Int32.ofNat ((f * 12) + t))), (0, .ref 2), (1, .int (Int32.ofNat f)), (2, .int (Int32.ofNat t)), (3, .int x)], [], (s_up (s_up I 2 3 ((I 2 3) + (1 - 1))) 5 ((f * 12) + t) x, J, kR w rem, Z), 0, 0) _
        refine w_R.ret 2 (.inl (some (.int 1))) (s_up (s_up I 2 3 ((I 2 3) + (1 - 1))) 5 ((f * 12) + t) x, J, kR w rem, Z) ?_ (fun x_ Q_ k_ => ⟨trivial, Or.inr rfl, ⟨Nat.le_of_ble_eq_true rfl, Nat.le_of_ble_eq_true rfl⟩, k_⟩)
        exact ⟨by rw [show v_87 I J Z f t x = true from by unfold v_87; rw [if_pos h1, if_pos h5, if_neg h7]] <;> rfl, by rw [show i_87 I J Z f t x = (s_up (s_up I 2 3 ((I 2 3) + (1 - 1))) 5 ((f * 12) + t) x) from by unfold i_87; rw [if_pos h1, if_pos h5, if_neg h7]]⟩
      · refine w_R.ret 2 (.inl (some (.int 0))) (I, J, kR w rem, Z) ?_ (fun x_ Q_ k_ => ⟨trivial, Or.inl rfl, ⟨Nat.le_of_ble_eq_true rfl, Nat.le_of_ble_eq_true rfl⟩, k_⟩)
        exact ⟨by rw [show v_87 I J Z f t x = false from by unfold v_87; rw [if_pos h1, if_pos h5, if_pos h7]] <;> rfl, by rw [show i_87 I J Z f t x = I from by unfold i_87; rw [if_pos h1, if_pos h5, if_pos h7]]⟩
def z_100 (I : Nat → Nat → Int32) (J : Nat → Nat → Int64) (Z : Nat → Nat → Bool) (a : Nat) : Nat → Nat → Bool := s_up Z a 0 false
theorem d_100 (a : Nat) (ha : sh1[a]? = some (.inl 4)) : w_R xs Ln 100 (0, [(0, .ref a)], [], (I, J, kR w rem, Z), 0, 0) (fun o s => o = .inl none ∧ s = (I, J, kR w rem, z_100 I J Z a)) := by
  refine w_R.ret 4 (.inl none) (I, J, kR w rem, s_up Z a 0 false) ?_ (fun x_ Q_ k_ => ⟨trivial, trivial, ⟨ha, (Or.inl rfl)⟩, ⟨Nat.le_of_ble_eq_true rfl, Nat.le_of_ble_eq_true rfl⟩, k_⟩)
  exact ⟨rfl, by rw [show z_100 I J Z a = (s_up Z a 0 false) from by unfold z_100; rfl]⟩
def v_101 (I : Nat → Nat → Int32) (J : Nat → Nat → Int64) (Z : Nat → Nat → Bool) (a : Nat) : Bool := if (Z a 0) = true then if (I a 3) = 0 then if (Z a 1) = true then false else true else false else false
theorem d_101 (a : Nat) (ha : sh1[a]? = some (.inl 4)) : w_R xs Ln 101 (0, [(0, .ref a)], [], (I, J, kR w rem, Z), 0, 0) (fun o s => o = .inl (some (.int (s_b (v_101 I J Z a)))) ∧ s = (I, J, kR w rem, Z)) := by
  refine w_R.go (c' := (i_br .eq (s_b (Z a 0)) 0 25 7, [(0, .ref a)], [], (I, J, kR w rem, Z), 0, 0)) 3 ?_ (fun m_ x_ Q_ k_ => ⟨trivial, ⟨ha, trivial⟩, trivial, k_⟩)
  refine w_R.br_z (fun h1 => ?_) (fun h1 => ?_)
  · replace h1 := Bool.eq_false_iff.mp h1
    refine w_R.ret 2 (.inl (some (.int 0))) (I, J, kR w rem, Z) ?_ (fun x_ Q_ k_ => ⟨trivial, Or.inl rfl, ⟨Nat.le_of_ble_eq_true rfl, Nat.le_of_ble_eq_true rfl⟩, k_⟩)
    exact ⟨by rw [show v_101 I J Z a = false from by unfold v_101; rw [if_neg h1]] <;> rfl, rfl⟩
  · refine w_R.go (c' := (i_br .ne (I a 3) 0 25 14, [(0, .ref a)], [], (I, J, kR w rem, Z), 0, 0)) 3 ?_ (fun m_ x_ Q_ k_ => ⟨trivial, ⟨ha, trivial⟩, trivial, k_⟩)
    refine w_R.br_ne (fun h2 => ?_) (fun h2 => ?_)
    · refine w_R.ret 2 (.inl (some (.int 0))) (I, J, kR w rem, Z) ?_ (fun x_ Q_ k_ => ⟨trivial, Or.inl rfl, ⟨Nat.le_of_ble_eq_true rfl, Nat.le_of_ble_eq_true rfl⟩, k_⟩)
      exact ⟨by rw [show v_101 I J Z a = false from by unfold v_101; rw [if_pos h1, if_neg h2]] <;> rfl, rfl⟩
    · refine w_R.go (c' := (i_br .ne (s_b (Z a 1)) 0 25 21, [(0, .ref a)], [], (I, J, kR w rem, Z), 0, 0)) 3 ?_ (fun m_ x_ Q_ k_ => ⟨trivial, ⟨ha, trivial⟩, trivial, k_⟩)
      refine w_R.br_nz (fun h3 => ?_) (fun h3 => ?_)
      · refine w_R.ret 2 (.inl (some (.int 0))) (I, J, kR w rem, Z) ?_ (fun x_ Q_ k_ => ⟨trivial, Or.inl rfl, ⟨Nat.le_of_ble_eq_true rfl, Nat.le_of_ble_eq_true rfl⟩, k_⟩)
        exact ⟨by rw [show v_101 I J Z a = false from by unfold v_101; rw [if_pos h1, if_pos h2, if_pos h3]] <;> rfl, rfl⟩
      · replace h3 := Bool.eq_false_iff.mp h3
        refine w_R.ret 3 (.inl (some (.int 1))) (I, J, kR w rem, Z) ?_ (fun x_ Q_ k_ => ⟨trivial, trivial, Or.inr rfl, ⟨Nat.le_of_ble_eq_true rfl, Nat.le_of_ble_eq_true rfl⟩, k_⟩)
        exact ⟨by rw [show v_101 I J Z a = true from by unfold v_101; rw [if_pos h1, if_pos h2, if_neg h3]] <;> rfl, rfl⟩
def v_102 (I : Nat → Nat → Int32) (J : Nat → Nat → Int64) (Z : Nat → Nat → Bool) (a : Nat) (x : Int32) : Bool := if (Z a 0) = true then if (I a 4) = x then if (I a 3) = 0 then false else if (I a 3) = 3 then false else true else false else false
theorem d_102 (a : Nat) (x : Int32) (ha : sh1[a]? = some (.inl 4)) : w_R xs Ln 102 (0, [(0, .ref a), (1, .int x)], [], (I, J, kR w rem, Z), 0, 0) (fun o s => o = .inl (some (.int (s_b (v_102 I J Z a x)))) ∧ s = (I, J, kR w rem, Z)) := by
  refine w_R.go (c' := (i_br .eq (s_b (Z a 0)) 0 34 7, [(0, .ref a), (1, .int x)], [], (I, J, kR w rem, Z), 0, 0)) 3 ?_ (fun m_ x_ Q_ k_ => ⟨trivial, ⟨ha, trivial⟩, trivial, k_⟩)
  refine w_R.br_z (fun h1 => ?_) (fun h1 => ?_)
  · replace h1 := Bool.eq_false_iff.mp h1
    refine w_R.ret 2 (.inl (some (.int 0))) (I, J, kR w rem, Z) ?_ (fun x_ Q_ k_ => ⟨trivial, Or.inl rfl, ⟨Nat.le_of_ble_eq_true rfl, Nat.le_of_ble_eq_true rfl⟩, k_⟩)
    exact ⟨by rw [show v_102 I J Z a x = false from by unfold v_102; rw [if_neg h1]] <;> rfl, rfl⟩
  · refine w_R.go (c' := (i_br .ne (I a 4) x 34 15, [(0, .ref a), (1, .int x)], [], (I, J, kR w rem, Z), 0, 0)) 4 ?_ (fun m_ x_ Q_ k_ => ⟨trivial, ⟨ha, trivial⟩, trivial, trivial, k_⟩)
    refine w_R.br_ne (fun h2 => ?_) (fun h2 => ?_)
    · refine w_R.ret 2 (.inl (some (.int 0))) (I, J, kR w rem, Z) ?_ (fun x_ Q_ k_ => ⟨trivial, Or.inl rfl, ⟨Nat.le_of_ble_eq_true rfl, Nat.le_of_ble_eq_true rfl⟩, k_⟩)
      exact ⟨by rw [show v_102 I J Z a x = false from by unfold v_102; rw [if_pos h1, if_neg h2]] <;> rfl, rfl⟩
    · refine w_R.go (c' := (i_br .eq (I a 3) 0 34 22, [(0, .ref a), (1, .int x)], [], (I, J, kR w rem, Z), 0, 0)) 3 ?_ (fun m_ x_ Q_ k_ => ⟨trivial, ⟨ha, trivial⟩, trivial, k_⟩)
      refine w_R.br_eq (fun h3 => ?_) (fun h3 => ?_)
      · refine w_R.ret 2 (.inl (some (.int 0))) (I, J, kR w rem, Z) ?_ (fun x_ Q_ k_ => ⟨trivial, Or.inl rfl, ⟨Nat.le_of_ble_eq_true rfl, Nat.le_of_ble_eq_true rfl⟩, k_⟩)
        exact ⟨by rw [show v_102 I J Z a x = false from by unfold v_102; rw [if_pos h1, if_pos h2, if_pos h3]] <;> rfl, rfl⟩
      · refine w_R.go (c' := (i_br .eq (I a 3) 3 34 30, [(0, .ref a), (1, .int x)], [], (I, J, kR w rem, Z), 0, 0)) 4 ?_ (fun m_ x_ Q_ k_ => ⟨trivial, ⟨ha, trivial⟩, trivial, trivial, k_⟩)
        refine w_R.br_eq (fun h4 => ?_) (fun h4 => ?_)
        · refine w_R.ret 2 (.inl (some (.int 0))) (I, J, kR w rem, Z) ?_ (fun x_ Q_ k_ => ⟨trivial, Or.inl rfl, ⟨Nat.le_of_ble_eq_true rfl, Nat.le_of_ble_eq_true rfl⟩, k_⟩)
          exact ⟨by rw [show v_102 I J Z a x = false from by unfold v_102; rw [if_pos h1, if_pos h2, if_neg h3, if_pos h4]] <;> rfl, rfl⟩
        · refine w_R.ret 3 (.inl (some (.int 1))) (I, J, kR w rem, Z) ?_ (fun x_ Q_ k_ => ⟨trivial, trivial, Or.inr rfl, ⟨Nat.le_of_ble_eq_true rfl, Nat.le_of_ble_eq_true rfl⟩, k_⟩)
          exact ⟨by rw [show v_102 I J Z a x = true from by unfold v_102; rw [if_pos h1, if_pos h2, if_neg h3, if_neg h4]] <;> rfl, rfl⟩
def v_16 (I : Nat → Nat → Int32) (J : Nat → Nat → Int64) (Z : Nat → Nat → Bool)  : Int32 := I 33 1
theorem d_16   : w_R xs Ln 16 (0, [(0, .ref 1)], [], (I, J, kR w rem, Z), 0, 0) (fun o s => o = .inl (some (.int (v_16 I J Z))) ∧ s = (I, J, kR w rem, Z)) := by
  refine w_R.ret 4 (.inl (some (.int (I 33 1)))) (I, J, kR w rem, Z) ?_ (fun x_ Q_ k_ => ⟨trivial, ⟨sh_1, (Nat.succ_ne_zero 32)⟩, ⟨sh_33, trivial⟩, trivial, ⟨Nat.le_of_ble_eq_true rfl, Nat.le_of_ble_eq_true rfl⟩, k_⟩)
  exact ⟨by rw [show v_16 I J Z = (I 33 1) from by unfold v_16; rfl] <;> rfl, rfl⟩
def v_71 (I : Nat → Nat → Int32) (J : Nat → Nat → Int64) (Z : Nat → Nat → Bool) (x : Int32) : Bool := if x < 0 then false else if x < (I 33 1) then true else false
theorem d_71 (x : Int32)  : w_R xs Ln 71 (0, [(0, .ref 33), (1, .int x)], [], (I, J, kR w rem, Z), 0, 0) (fun o s => o = .inl (some (.int (s_b (v_71 I J Z x)))) ∧ s = (I, J, kR w rem, Z)) := by
  refine w_R.go (c' := (i_br .lt x 0 16 4, [(0, .ref 33), (1, .int x)], [], (I, J, kR w rem, Z), 0, 0)) 2 ?_ (fun m_ x_ Q_ k_ => ⟨trivial, trivial, k_⟩)
  refine w_R.br_lt (fun h1 => ?_) (fun h1 => ?_)
  · refine w_R.ret 2 (.inl (some (.int 0))) (I, J, kR w rem, Z) ?_ (fun x_ Q_ k_ => ⟨trivial, Or.inl rfl, ⟨Nat.le_of_ble_eq_true rfl, Nat.le_of_ble_eq_true rfl⟩, k_⟩)
    exact ⟨by rw [show v_71 I J Z x = false from by unfold v_71; rw [if_pos h1]] <;> rfl, rfl⟩
  · refine w_R.go (c' := (i_br .ge x (I 33 1) 16 12, [(0, .ref 33), (1, .int x)], [], (I, J, kR w rem, Z), 0, 0)) 4 ?_ (fun m_ x_ Q_ k_ => ⟨trivial, trivial, ⟨sh_33, trivial⟩, trivial, k_⟩)
    refine w_R.br_ge (fun h2 => ?_) (fun h2 => ?_)
    · refine w_R.ret 2 (.inl (some (.int 0))) (I, J, kR w rem, Z) ?_ (fun x_ Q_ k_ => ⟨trivial, Or.inl rfl, ⟨Nat.le_of_ble_eq_true rfl, Nat.le_of_ble_eq_true rfl⟩, k_⟩)
      exact ⟨by rw [show v_71 I J Z x = false from by unfold v_71; rw [if_neg h1, if_neg h2]] <;> rfl, rfl⟩
    · refine w_R.ret 3 (.inl (some (.int 1))) (I, J, kR w rem, Z) ?_ (fun x_ Q_ k_ => ⟨trivial, trivial, Or.inr rfl, ⟨Nat.le_of_ble_eq_true rfl, Nat.le_of_ble_eq_true rfl⟩, k_⟩)
      exact ⟨by rw [show v_71 I J Z x = true from by unfold v_71; rw [if_neg h1, if_pos h2]] <;> rfl, rfl⟩
def v_92 (I : Nat → Nat → Int32) (J : Nat → Nat → Int64) (Z : Nat → Nat → Bool) (r : Nat) (d : Nat) : Int32 := if (Z (141 + 29 * r) 0) = true then if (lg_cmp ((J (141 + 29 * r) 2) - (J (146 + 29 * r) d)) 2000) < 0 then I (142 + 29 * r) d else 0 else 0
theorem d_92 (r : Nat) (d : Nat) (hr : r < 2) (hd : d < 4) : w_R xs Ln 92 (0, [(0, .ref (141 + 29 * r)), (1, .int (Int32.ofNat d))], [], (I, J, kR w rem, Z), 0, 0) (fun o s => o = .inl (some (.int (v_92 I J Z r d))) ∧ s = (I, J, kR w rem, Z)) := by
  refine w_R.go (c' := (i_br .eq (s_b (Z (141 + 29 * r) 0)) 0 29 7, [(0, .ref (141 + 29 * r)), (1, .int (Int32.ofNat d))], [], (I, J, kR w rem, Z), 0, 0)) 3 ?_ (fun m_ x_ Q_ k_ => ⟨trivial, ⟨(sh_room hr), trivial⟩, trivial, k_⟩)
  refine w_R.br_z (fun h1 => ?_) (fun h1 => ?_)
  · replace h1 := Bool.eq_false_iff.mp h1
    refine w_R.ret 6 (.inl (some (.int 0))) (I, J, kR w rem, Z) ?_ (fun x_ Q_ k_ => ⟨trivial, trivial, trivial, trivial, trivial, trivial, ⟨Nat.le_of_ble_eq_true rfl, Nat.le_of_ble_eq_true rfl⟩, k_⟩)
    exact ⟨by rw [show v_92 I J Z r d = 0 from by unfold v_92; rw [if_neg h1]] <;> rfl, rfl⟩
  · refine w_R.go (c' := (15, [(0, .ref (141 + 29 * r)), (1, .int (Int32.ofNat d))], [.ref (kR w rem (141 + 29 * r) 8), .long (J (141 + 29 * r) 2)], (I, J, kR w rem, Z), 0, 0)) 4 ?_ (fun m_ x_ Q_ k_ => ⟨trivial, ⟨(sh_room hr), trivial⟩, trivial, ⟨(sh_room hr), (show kR w rem (141 + 29 * r) 8 ≠ 0 by rw [r_room8 (w := w) (rem := rem) (r := r) hr]; omega)⟩, k_⟩)
    rw [r_room8 (w := w) (rem := rem) (r := r) hr]
    show w_R xs Ln 92 (15, [(0, .ref (141 + 29 * r)), (1, .int (Int32.ofNat d))], [.ref (146 + 29 * r), .long (J (141 + 29 * r) 2)], (I, J, kR w rem, Z), 0, 0) _
    refine w_R.go (c' := (17, [(0, .ref (141 + 29 * r)), (1, .int (Int32.ofNat d))], [.long (J (146 + 29 * r) (Int32.ofNat d).toNatClampNeg), .long (J (141 + 29 * r) 2)], (I, J, kR w rem, Z), 0, 0)) 2 ?_ (fun m_ x_ Q_ k_ => ⟨trivial, ⟨_, (sh_room8 hr), (n_in (a := d) (by omega) (by decide))⟩, k_⟩)
    rw [n_cl (a := d) (by omega)]
    show w_R xs Ln 92 (17, [(0, .ref (141 + 29 * r)), (1, .int (Int32.ofNat d))], [.long (J (146 + 29 * r) d), .long (J (141 + 29 * r) 2)], (I, J, kR w rem, Z), 0, 0) _
    refine w_R.go (c' := (i_br .ge (lg_cmp ((J (141 + 29 * r) 2) - (J (146 + 29 * r) d)) 2000) 0 29 25, [(0, .ref (141 + 29 * r)), (1, .int (Int32.ofNat d))], [], (I, J, kR w rem, Z), 0, 0)) 4 ?_ (fun m_ x_ Q_ k_ => ⟨trivial, trivial, trivial, trivial, k_⟩)
    refine w_R.br_ge (fun h2 => ?_) (fun h2 => ?_)
    · refine w_R.ret 6 (.inl (some (.int 0))) (I, J, kR w rem, Z) ?_ (fun x_ Q_ k_ => ⟨trivial, trivial, trivial, trivial, trivial, trivial, ⟨Nat.le_of_ble_eq_true rfl, Nat.le_of_ble_eq_true rfl⟩, k_⟩)
      exact ⟨by rw [show v_92 I J Z r d = 0 from by unfold v_92; rw [if_pos h1, if_neg h2]] <;> rfl, rfl⟩
    · refine w_R.go (c' := (39, [(2, .int 1), (0, .ref (141 + 29 * r)), (1, .int (Int32.ofNat d))], [.ref (kR w rem (141 + 29 * r) 4)], (I, J, kR w rem, Z), 0, 0)) 7 ?_ (fun m_ x_ Q_ k_ => ⟨trivial, trivial, trivial, trivial, trivial, trivial, ⟨(sh_room hr), (show kR w rem (141 + 29 * r) 4 ≠ 0 by rw [r_room4 (w := w) (rem := rem) (r := r) hr]; omega)⟩, k_⟩)
      rw [r_room4 (w := w) (rem := rem) (r := r) hr]
      show w_R xs Ln 92 (39, [(2, .int 1), (0, .ref (141 + 29 * r)), (1, .int (Int32.ofNat d))], [.ref (142 + 29 * r)], (I, J, kR w rem, Z), 0, 0) _
      refine w_R.go (c' := (41, [(2, .int 1), (0, .ref (141 + 29 * r)), (1, .int (Int32.ofNat d))], [.int (I (142 + 29 * r) (Int32.ofNat d).toNatClampNeg)], (I, J, kR w rem, Z), 0, 0)) 2 ?_ (fun m_ x_ Q_ k_ => ⟨trivial, ⟨_, (sh_room4 hr), (n_in (a := d) (by omega) (by decide))⟩, k_⟩)
      rw [n_cl (a := d) (by omega)]
      show w_R xs Ln 92 (41, [(2, .int 1), (0, .ref (141 + 29 * r)), (1, .int (Int32.ofNat d))], [.int (I (142 + 29 * r) d)], (I, J, kR w rem, Z), 0, 0) _
      refine w_R.ret 2 (.inl (some (.int (I (142 + 29 * r) d)))) (I, J, kR w rem, Z) ?_ (fun x_ Q_ k_ => ⟨trivial, trivial, ⟨Nat.le_of_ble_eq_true rfl, Nat.le_of_ble_eq_true rfl⟩, k_⟩)
      exact ⟨by rw [show v_92 I J Z r d = (I (142 + 29 * r) d) from by unfold v_92; rw [if_pos h1, if_pos h2]] <;> rfl, rfl⟩
def v_84 (I : Nat → Nat → Int32) (J : Nat → Nat → Int64) (Z : Nat → Nat → Bool) (x : Int32) (d : Nat) : Bool := if (I 15 d) = (-1) then true else if (I 15 d) = x then true else if (lg_cmp ((J 13 0) - (J 16 d)) 2100) < 0 then false else true
theorem d_84 (x : Int32) (d : Nat) (hd : d < 4) : w_R xs Ln 84 (0, [(0, .ref 13), (1, .int x), (2, .int (Int32.ofNat d))], [], (I, J, kR w rem, Z), 0, 0) (fun o s => o = .inl (some (.int (s_b (v_84 I J Z x d)))) ∧ s = (I, J, kR w rem, Z)) := by
  refine w_R.go (c' := (6, [(0, .ref 13), (1, .int x), (2, .int (Int32.ofNat d))], [.int (I 15 (Int32.ofNat d).toNatClampNeg)], (I, J, kR w rem, Z), 0, 0)) 4 ?_ (fun m_ x_ Q_ k_ => ⟨trivial, ⟨sh_13, (Nat.succ_ne_zero 14)⟩, trivial, ⟨_, sh_15, (n_in (a := d) (by omega) (by decide))⟩, k_⟩)
  rw [n_cl (a := d) (by omega)]
  show w_R xs Ln 84 (6, [(0, .ref 13), (1, .int x), (2, .int (Int32.ofNat d))], [.int (I 15 d)], (I, J, kR w rem, Z), 0, 0) _
  refine w_R.go (c' := (i_br .eq (I 15 d) (-1) 38 10, [(0, .ref 13), (1, .int x), (2, .int (Int32.ofNat d))], [], (I, J, kR w rem, Z), 0, 0)) 2 ?_ (fun m_ x_ Q_ k_ => ⟨trivial, trivial, k_⟩)
  refine w_R.br_eq (fun h1 => ?_) (fun h1 => ?_)
  · refine w_R.ret 3 (.inl (some (.int 1))) (I, J, kR w rem, Z) ?_ (fun x_ Q_ k_ => ⟨trivial, trivial, Or.inr rfl, ⟨Nat.le_of_ble_eq_true rfl, Nat.le_of_ble_eq_true rfl⟩, k_⟩)
    exact ⟨by rw [show v_84 I J Z x d = true from by unfold v_84; rw [if_pos h1]] <;> rfl, rfl⟩
  · refine w_R.go (c' := (16, [(0, .ref 13), (1, .int x), (2, .int (Int32.ofNat d))], [.int (I 15 (Int32.ofNat d).toNatClampNeg)], (I, J, kR w rem, Z), 0, 0)) 4 ?_ (fun m_ x_ Q_ k_ => ⟨trivial, ⟨sh_13, (Nat.succ_ne_zero 14)⟩, trivial, ⟨_, sh_15, (n_in (a := d) (by omega) (by decide))⟩, k_⟩)
    rw [n_cl (a := d) (by omega)]
    show w_R xs Ln 84 (16, [(0, .ref 13), (1, .int x), (2, .int (Int32.ofNat d))], [.int (I 15 d)], (I, J, kR w rem, Z), 0, 0) _
    refine w_R.go (c' := (i_br .eq (I 15 d) x 38 20, [(0, .ref 13), (1, .int x), (2, .int (Int32.ofNat d))], [], (I, J, kR w rem, Z), 0, 0)) 2 ?_ (fun m_ x_ Q_ k_ => ⟨trivial, trivial, k_⟩)
    refine w_R.br_eq (fun h2 => ?_) (fun h2 => ?_)
    · refine w_R.ret 3 (.inl (some (.int 1))) (I, J, kR w rem, Z) ?_ (fun x_ Q_ k_ => ⟨trivial, trivial, Or.inr rfl, ⟨Nat.le_of_ble_eq_true rfl, Nat.le_of_ble_eq_true rfl⟩, k_⟩)
      exact ⟨by rw [show v_84 I J Z x d = true from by unfold v_84; rw [if_neg h1, if_pos h2]] <;> rfl, rfl⟩
    · refine w_R.go (c' := (30, [(0, .ref 13), (1, .int x), (2, .int (Int32.ofNat d))], [.long (J 16 (Int32.ofNat d).toNatClampNeg), .long (J 13 0)], (I, J, kR w rem, Z), 0, 0)) 6 ?_ (fun m_ x_ Q_ k_ => ⟨trivial, ⟨sh_13, trivial⟩, trivial, ⟨sh_13, (Nat.succ_ne_zero 15)⟩, trivial, ⟨_, sh_16, (n_in (a := d) (by omega) (by decide))⟩, k_⟩)
      rw [n_cl (a := d) (by omega)]
      show w_R xs Ln 84 (30, [(0, .ref 13), (1, .int x), (2, .int (Int32.ofNat d))], [.long (J 16 d), .long (J 13 0)], (I, J, kR w rem, Z), 0, 0) _
      refine w_R.go (c' := (i_br .lt (lg_cmp ((J 13 0) - (J 16 d)) 2100) 0 42 38, [(0, .ref 13), (1, .int x), (2, .int (Int32.ofNat d))], [], (I, J, kR w rem, Z), 0, 0)) 4 ?_ (fun m_ x_ Q_ k_ => ⟨trivial, trivial, trivial, trivial, k_⟩)
      refine w_R.br_lt (fun h3 => ?_) (fun h3 => ?_)
      · refine w_R.ret 2 (.inl (some (.int 0))) (I, J, kR w rem, Z) ?_ (fun x_ Q_ k_ => ⟨trivial, Or.inl rfl, ⟨Nat.le_of_ble_eq_true rfl, Nat.le_of_ble_eq_true rfl⟩, k_⟩)
        exact ⟨by rw [show v_84 I J Z x d = false from by unfold v_84; rw [if_neg h1, if_neg h2, if_pos h3]] <;> rfl, rfl⟩
      · refine w_R.ret 3 (.inl (some (.int 1))) (I, J, kR w rem, Z) ?_ (fun x_ Q_ k_ => ⟨trivial, trivial, Or.inr rfl, ⟨Nat.le_of_ble_eq_true rfl, Nat.le_of_ble_eq_true rfl⟩, k_⟩)
        exact ⟨by rw [show v_84 I J Z x d = true from by unfold v_84; rw [if_neg h1, if_neg h2, if_neg h3]] <;> rfl, rfl⟩
def v_85 (I : Nat → Nat → Int32) (J : Nat → Nat → Int64) (Z : Nat → Nat → Bool) (x : Int32) (d : Nat) : Int32 := (I 13 4) + 1
def i_85 (I : Nat → Nat → Int32) (J : Nat → Nat → Int64) (Z : Nat → Nat → Bool) (x : Int32) (d : Nat) : Nat → Nat → Int32 := s_up (s_up I 15 d x) 13 4 ((I 13 4) + 1)
def j_85 (I : Nat → Nat → Int32) (J : Nat → Nat → Int64) (Z : Nat → Nat → Bool) (x : Int32) (d : Nat) : Nat → Nat → Int64 := s_up J 16 d (J 13 0)
theorem d_85 (x : Int32) (d : Nat) (hd : d < 4) : w_R xs Ln 85 (0, [(0, .ref 13), (1, .int x), (2, .int (Int32.ofNat d))], [], (I, J, kR w rem, Z), 0, 0) (fun o s => o = .inl (some (.int (v_85 I J Z x d))) ∧ s = (i_85 I J Z x d, j_85 I J Z x d, kR w rem, Z)) := by
  refine w_R.go (c' := (7, [(0, .ref 13), (1, .int x), (2, .int (Int32.ofNat d))], [], (s_up I 15 ((Int32.ofNat d).toNatClampNeg) x, J, kR w rem, Z), 0, 0)) 5 ?_ (fun m_ x_ Q_ k_ => ⟨trivial, ⟨sh_13, (Nat.succ_ne_zero 14)⟩, trivial, trivial, ⟨_, sh_15, (n_in (a := d) (by omega) (by decide))⟩, k_⟩)
  rw [n_cl (a := d) (by omega)]
  show w_R xs Ln 85 (7, [(0, .ref 13), (1, .int x), (2, .int (Int32.ofNat d))], [], (s_up I 15 d x, J, kR w rem, Z), 0, 0) _
  refine w_R.go (c' := (17, [(0, .ref 13), (1, .int x), (2, .int (Int32.ofNat d))], [], (s_up I 15 d x, s_up J 16 ((Int32.ofNat d).toNatClampNeg) (J 13 0), kR w rem, Z), 0, 0)) 6 ?_ (fun m_ x_ Q_ k_ => ⟨trivial, ⟨sh_13, (Nat.succ_ne_zero 15)⟩, trivial, trivial, ⟨sh_13, trivial⟩, ⟨_, sh_16, (n_in (a := d) (by omega) (by decide))⟩, k_⟩)
  rw [n_cl (a := d) (by omega)]
  show w_R xs Ln 85 (17, [(0, .ref 13), (1, .int x), (2, .int (Int32.ofNat d))], [], (s_up I 15 d x, s_up J 16 d (J 13 0), kR w rem, Z), 0, 0) _
  refine w_R.go (c' := (22, [(0, .ref 13), (1, .int x), (2, .int (Int32.ofNat d))], [.int ((s_up I 15 d x) 13 4), .ref 13], (s_up I 15 d x, s_up J 16 d (J 13 0), kR w rem, Z), 0, 0)) 3 ?_ (fun m_ x_ Q_ k_ => ⟨trivial, trivial, ⟨sh_13, trivial⟩, k_⟩)
  rw [show (s_up I 15 d x) 13 4 = I 13 4 from (s_upa (by decide))]
  show w_R xs Ln 85 (22, [(0, .ref 13), (1, .int x), (2, .int (Int32.ofNat d))], [.int (I 13 4), .ref 13], (s_up I 15 d x, s_up J 16 d (J 13 0), kR w rem, Z), 0, 0) _
  refine w_R.go (c' := (31, [(0, .ref 13), (1, .int x), (2, .int (Int32.ofNat d))], [.int ((s_up (s_up I 15 d x) 13 4 ((I 13 4) + 1)) 13 4)], (s_up (s_up I 15 d x) 13 4 ((I 13 4) + 1), s_up J 16 d (J 13 0), kR w rem, Z), 0, 0)) 5 ?_ (fun m_ x_ Q_ k_ => ⟨trivial, trivial, ⟨sh_13, trivial⟩, trivial, ⟨sh_13, trivial⟩, k_⟩)
  rw [show (s_up (s_up I 15 d x) 13 4 ((I 13 4) + 1)) 13 4 = (I 13 4) + 1 from (s_upe _ _ _ _)]
  show w_R xs Ln 85 (31, [(0, .ref 13), (1, .int x), (2, .int (Int32.ofNat d))], [.int ((I 13 4) + 1)], (s_up (s_up I 15 d x) 13 4 ((I 13 4) + 1), s_up J 16 d (J 13 0), kR w rem, Z), 0, 0) _
  refine w_R.ret 1 (.inl (some (.int ((I 13 4) + 1)))) (s_up (s_up I 15 d x) 13 4 ((I 13 4) + 1), s_up J 16 d (J 13 0), kR w rem, Z) ?_ (fun x_ Q_ k_ => ⟨trivial, ⟨Nat.le_of_ble_eq_true rfl, Nat.le_of_ble_eq_true rfl⟩, k_⟩)
  exact ⟨by rw [show v_85 I J Z x d = ((I 13 4) + 1) from by unfold v_85; rfl] <;> rfl, by rw [show i_85 I J Z x d = (s_up (s_up I 15 d x) 13 4 ((I 13 4) + 1)) from by unfold i_85; rfl, show j_85 I J Z x d = (s_up J 16 d (J 13 0)) from by unfold j_85; rfl]⟩
def v_105 (I : Nat → Nat → Int32) (J : Nat → Nat → Int64) (Z : Nat → Nat → Bool)  : Int32 := I 199 59
theorem d_105   : w_R xs Ln 105 (0, [(0, .ref 199)], [], (I, J, kR w rem, Z), 0, 0) (fun o s => o = .inl (some (.int (v_105 I J Z))) ∧ s = (I, J, kR w rem, Z)) := by
  refine w_R.ret 3 (.inl (some (.int (I 199 59)))) (I, J, kR w rem, Z) ?_ (fun x_ Q_ k_ => ⟨trivial, ⟨sh_199, trivial⟩, trivial, ⟨Nat.le_of_ble_eq_true rfl, Nat.le_of_ble_eq_true rfl⟩, k_⟩)
  exact ⟨by rw [show v_105 I J Z = (I 199 59) from by unfold v_105; rfl] <;> rfl, rfl⟩
def v_106 (I : Nat → Nat → Int32) (J : Nat → Nat → Int64) (Z : Nat → Nat → Bool) (x : Int32) (y : Int32) (v : Int32) : Bool := if x < y then false else if v < x then false else true
theorem d_106 (x : Int32) (y : Int32) (v : Int32)  : w_R xs Ln 106 (0, [(0, .int x), (1, .int y), (2, .int v)], [], (I, J, kR w rem, Z), 0, 0) (fun o s => o = .inl (some (.int (s_b (v_106 I J Z x y v)))) ∧ s = (I, J, kR w rem, Z)) := by
  refine w_R.go (c' := (i_br .lt x y 14 5, [(0, .int x), (1, .int y), (2, .int v)], [], (I, J, kR w rem, Z), 0, 0)) 3 ?_ (fun m_ x_ Q_ k_ => ⟨trivial, trivial, trivial, k_⟩)
  refine w_R.br_lt (fun h1 => ?_) (fun h1 => ?_)
  · refine w_R.ret 2 (.inl (some (.int 0))) (I, J, kR w rem, Z) ?_ (fun x_ Q_ k_ => ⟨trivial, Or.inl rfl, ⟨Nat.le_of_ble_eq_true rfl, Nat.le_of_ble_eq_true rfl⟩, k_⟩)
    exact ⟨by rw [show v_106 I J Z x y v = false from by unfold v_106; rw [if_pos h1]] <;> rfl, rfl⟩
  · refine w_R.go (c' := (i_br .gt x v 14 10, [(0, .int x), (1, .int y), (2, .int v)], [], (I, J, kR w rem, Z), 0, 0)) 3 ?_ (fun m_ x_ Q_ k_ => ⟨trivial, trivial, trivial, k_⟩)
    refine w_R.br_gt (fun h2 => ?_) (fun h2 => ?_)
    · refine w_R.ret 2 (.inl (some (.int 0))) (I, J, kR w rem, Z) ?_ (fun x_ Q_ k_ => ⟨trivial, Or.inl rfl, ⟨Nat.le_of_ble_eq_true rfl, Nat.le_of_ble_eq_true rfl⟩, k_⟩)
      exact ⟨by rw [show v_106 I J Z x y v = false from by unfold v_106; rw [if_neg h1, if_pos h2]] <;> rfl, rfl⟩
    · refine w_R.ret 3 (.inl (some (.int 1))) (I, J, kR w rem, Z) ?_ (fun x_ Q_ k_ => ⟨trivial, trivial, Or.inr rfl, ⟨Nat.le_of_ble_eq_true rfl, Nat.le_of_ble_eq_true rfl⟩, k_⟩)
      exact ⟨by rw [show v_106 I J Z x y v = true from by unfold v_106; rw [if_neg h1, if_neg h2]] <;> rfl, rfl⟩
end Small2
end
section
section Small3
variable {xs : Nat → Int32} {Ln : Nat} {I : Nat → Nat → Int32} {J : Nat → Nat → Int64} {Z : Nat → Nat → Bool} {w : Nat → Nat} {rem : Nat}
theorem l_inN {k n : Nat} (h : k < n) (hn : n ≤ 2 ^ 31) : l_in (Int32.ofNat k) n = true := by
  unfold l_in
  rw [n_int (by omega)]
  exact decide_eq_true (by omega)
theorem d_28N (k : Nat) (h : k < 12) : w_R xs Ln 28 (0, [(0, .int (Int32.ofNat k))], [], (I, J, kR w rem, Z), 0, 0) (fun o s => o = .inl (some (.int (s_b true))) ∧ s = (I, J, kR w rem, Z)) := by
  have h1 := d_28 (xs := xs) (Ln := Ln) (I := I) (J := J) (Z := Z) (w := w) (rem := rem) (Int32.ofNat k)
  rw [l_inN h (by decide)] at h1
  exact h1
theorem d_29N (k : Nat) (h : k < 4) : w_R xs Ln 29 (0, [(0, .int (Int32.ofNat k))], [], (I, J, kR w rem, Z), 0, 0) (fun o s => o = .inl (some (.int (s_b true))) ∧ s = (I, J, kR w rem, Z)) := by
  have h1 := d_29 (xs := xs) (Ln := Ln) (I := I) (J := J) (Z := Z) (w := w) (rem := rem) (Int32.ofNat k)
  rw [l_inN h (by decide)] at h1
  exact h1
theorem d_30N (k : Nat) (h : k < 16) : w_R xs Ln 30 (0, [(0, .int (Int32.ofNat k))], [], (I, J, kR w rem, Z), 0, 0) (fun o s => o = .inl (some (.int (s_b true))) ∧ s = (I, J, kR w rem, Z)) := by
  have h1 := d_30 (xs := xs) (Ln := Ln) (I := I) (J := J) (Z := Z) (w := w) (rem := rem) (Int32.ofNat k)
  rw [l_inN h (by decide)] at h1
  exact h1
theorem d_31N (k : Nat) (h : k < 6) : w_R xs Ln 31 (0, [(0, .int (Int32.ofNat k))], [], (I, J, kR w rem, Z), 0, 0) (fun o s => o = .inl (some (.int (s_b true))) ∧ s = (I, J, kR w rem, Z)) := by
  have h1 := d_31 (xs := xs) (Ln := Ln) (I := I) (J := J) (Z := Z) (w := w) (rem := rem) (Int32.ofNat k)
  rw [l_inN h (by decide)] at h1
  exact h1
theorem d_32N (k : Nat) (h : k < 2) : w_R xs Ln 32 (0, [(0, .int (Int32.ofNat k))], [], (I, J, kR w rem, Z), 0, 0) (fun o s => o = .inl (some (.int (s_b true))) ∧ s = (I, J, kR w rem, Z)) := by
  have h1 := d_32 (xs := xs) (Ln := Ln) (I := I) (J := J) (Z := Z) (w := w) (rem := rem) (Int32.ofNat k)
  rw [l_inN h (by decide)] at h1
  exact h1
theorem d_33N (k : Nat) (h : k < 16) : w_R xs Ln 33 (0, [(0, .int (Int32.ofNat k))], [], (I, J, kR w rem, Z), 0, 0) (fun o s => o = .inl (some (.int (s_b true))) ∧ s = (I, J, kR w rem, Z)) := by
  have h1 := d_33 (xs := xs) (Ln := Ln) (I := I) (J := J) (Z := Z) (w := w) (rem := rem) (Int32.ofNat k)
  rw [l_inN h (by decide)] at h1
  exact h1
def v_34 (I : Nat → Nat → Int32) (J : Nat → Nat → Int64) (Z : Nat → Nat → Bool) (r : Nat) : Int32 := Int32.ofNat (1 - r)
theorem d_34 (r : Nat) (hr : r < 2) : w_R xs Ln 34 (0, [(0, .int (Int32.ofNat r))], [], (I, J, kR w rem, Z), 0, 0) (fun o s => o = .inl (some (.int (v_34 I J Z r))) ∧ s = (I, J, kR w rem, Z)) := by
  refine w_R.go (c' := (3, [(0, .int (Int32.ofNat r))], [.int (Int32.ofNat 1 - Int32.ofNat r)], (I, J, kR w rem, Z), 0, 0)) 3 ?_ (fun m_ x_ Q_ k_ => ⟨trivial, trivial, trivial, k_⟩)
  rw [n_sub (a := 1) (b := r) (by omega)]
  show w_R xs Ln 34 (3, [(0, .int (Int32.ofNat r))], [.int (Int32.ofNat (1 - r))], (I, J, kR w rem, Z), 0, 0) _
  refine w_R.ret 1 (.inl (some (.int (Int32.ofNat (1 - r))))) (I, J, kR w rem, Z) ?_ (fun x_ Q_ k_ => ⟨trivial, ⟨Nat.le_of_ble_eq_true rfl, Nat.le_of_ble_eq_true rfl⟩, k_⟩)
  exact ⟨by rw [show v_34 I J Z r = (Int32.ofNat (1 - r)) from by unfold v_34; rfl] <;> rfl, rfl⟩
def v_36 (I : Nat → Nat → Int32) (J : Nat → Nat → Int64) (Z : Nat → Nat → Bool) (r : Nat) (q : Nat) (d : Nat) : Bool := if 0 < (v_92 I J Z r d) then true else false
theorem d_36 (r : Nat) (q : Nat) (d : Nat) (hr : r < 2) (hq : q < 12) (hd : d < 4) (hdq : I 3 q = Int32.ofNat d) : w_R xs Ln 36 (0, [(0, .ref 1), (1, .int (Int32.ofNat r)), (2, .int (Int32.ofNat q))], [], (I, J, kR w rem, Z), 0, 0) (fun o s => o = .inl (some (.int (s_b (v_36 I J Z r q d)))) ∧ s = (I, J, kR w rem, Z)) := by
  refine w_R.go (c' := (6, [(0, .ref 1), (1, .int (Int32.ofNat r)), (2, .int (Int32.ofNat q))], [.ref (kR w rem 12 (Int32.ofNat r).toNatClampNeg)], (I, J, kR w rem, Z), 0, 0)) 4 ?_ (fun m_ x_ Q_ k_ => ⟨trivial, ⟨sh_1, (Nat.succ_ne_zero 11)⟩, trivial, ⟨⟨_, sh_12, (n_in (a := r) (by omega) (by decide))⟩, (show kR w rem 12 (Int32.ofNat r).toNatClampNeg ≠ 0 by rw [n_cl (a := r) (by omega), r_room (w := w) (rem := rem) (r := r) (by omega)]; omega)⟩, k_⟩)
  rw [n_cl (a := r) (by omega)]
  rw [r_room (w := w) (rem := rem) (r := r) (by omega)]
  show w_R xs Ln 36 (6, [(0, .ref 1), (1, .int (Int32.ofNat r)), (2, .int (Int32.ofNat q))], [.ref (141 + 29 * r)], (I, J, kR w rem, Z), 0, 0) _
  refine w_R.go (c' := (15, [(0, .ref 1), (1, .int (Int32.ofNat r)), (2, .int (Int32.ofNat q))], [.int (I 3 (Int32.ofNat q).toNatClampNeg), .ref (141 + 29 * r)], (I, J, kR w rem, Z), 0, 0)) 5 ?_ (fun m_ x_ Q_ k_ => ⟨trivial, ⟨sh_1, (Nat.succ_ne_zero 1)⟩, ⟨sh_2, (Nat.succ_ne_zero 2)⟩, trivial, ⟨_, sh_3, (n_in (a := q) (by omega) (by decide))⟩, k_⟩)
  rw [n_cl (a := q) (by omega)]
  rw [hdq]
  show w_R xs Ln 36 (15, [(0, .ref 1), (1, .int (Int32.ofNat r)), (2, .int (Int32.ofNat q))], [.int (Int32.ofNat d), .ref (141 + 29 * r)], (I, J, kR w rem, Z), 0, 0) _
  refine w_R.callV (ce' := 0) (sl' := 0) (v := some (.int (v_92 I J Z r d))) (σ' := (I, J, kR w rem, Z)) (as := [.ref (141 + 29 * r), .int (Int32.ofNat d)]) (rest := []) (d_92 r d (by omega) (by omega)) ?_ rfl rfl rfl rfl rfl (sh_room (by omega)) rfl rfl rfl rfl
  show w_R xs Ln 36 (18, [(0, .ref 1), (1, .int (Int32.ofNat r)), (2, .int (Int32.ofNat q))], [.int (v_92 I J Z r d)], (I, J, kR w rem, Z), 0, 0) _
  refine w_R.go (c' := (i_br .le (v_92 I J Z r d) 0 25 21, [(0, .ref 1), (1, .int (Int32.ofNat r)), (2, .int (Int32.ofNat q))], [], (I, J, kR w rem, Z), 0, 0)) 1 ?_ (fun m_ x_ Q_ k_ => ⟨trivial, k_⟩)
  refine w_R.br_le (fun h1 => ?_) (fun h1 => ?_)
  · refine w_R.ret 2 (.inl (some (.int 0))) (I, J, kR w rem, Z) ?_ (fun x_ Q_ k_ => ⟨trivial, Or.inl rfl, ⟨Nat.le_of_ble_eq_true rfl, Nat.le_of_ble_eq_true rfl⟩, k_⟩)
    exact ⟨by rw [show v_36 I J Z r q d = false from by unfold v_36; rw [if_neg h1]] <;> rfl, rfl⟩
  · refine w_R.ret 3 (.inl (some (.int 1))) (I, J, kR w rem, Z) ?_ (fun x_ Q_ k_ => ⟨trivial, trivial, Or.inr rfl, ⟨Nat.le_of_ble_eq_true rfl, Nat.le_of_ble_eq_true rfl⟩, k_⟩)
    exact ⟨by rw [show v_36 I J Z r q d = true from by unfold v_36; rw [if_pos h1]] <;> rfl, rfl⟩
def v_72 (I : Nat → Nat → Int32) (J : Nat → Nat → Int64) (Z : Nat → Nat → Bool) (x0 : Int32) (x1 : Int32) (x2 : Int32) (x3 : Int32) (x4 : Int32) (n : Nat) (p : Nat) : Nat := if n < 48 then 35 + 2 * p else 35 + 2 * p
def i_72 (I : Nat → Nat → Int32) (J : Nat → Nat → Int64) (Z : Nat → Nat → Bool) (x0 : Int32) (x1 : Int32) (x2 : Int32) (x3 : Int32) (x4 : Int32) (n : Nat) (p : Nat) : Nat → Nat → Int32 := if n < 48 then s_up (s_up (s_up (s_up (s_up (s_up I 33 1 (Int32.ofNat (n + 1))) (35 + 2 * p) 0 x0) (35 + 2 * p) 1 x1) (35 + 2 * p) 2 x2) (35 + 2 * p) 3 x3) (35 + 2 * p) 4 x4 else s_up (s_up (s_up (s_up (s_up I (35 + 2 * p) 0 x0) (35 + 2 * p) 1 x1) (35 + 2 * p) 2 x2) (35 + 2 * p) 3 x3) (35 + 2 * p) 4 x4
theorem d_72 (x0 : Int32) (x1 : Int32) (x2 : Int32) (x3 : Int32) (x4 : Int32) (n : Nat) (p : Nat) (hn : n ≤ 48) (hp : p < 50) (hc : I 33 1 = Int32.ofNat n) (hw : w n = 35 + 2 * p) : w_R xs Ln 72 (0, [(0, .ref 33), (1, .int x0), (2, .int x1), (3, .int x2), (4, .int x3), (5, .int x4)], [], (I, J, kR w rem, Z), 0, 0) (fun o s => o = .inl (some (.ref (v_72 I J Z x0 x1 x2 x3 x4 n p))) ∧ s = (i_72 I J Z x0 x1 x2 x3 x4 n p, J, kR w rem, Z)) := by
  refine w_R.go (c' := (8, [(0, .ref 33), (1, .int x0), (2, .int x1), (3, .int x2), (4, .int x3), (5, .int x4)], [.int (I 33 1), .ref 34], (I, J, kR w rem, Z), 0, 0)) 4 ?_ (fun m_ x_ Q_ k_ => ⟨trivial, ⟨sh_33, (Nat.succ_ne_zero 33)⟩, trivial, ⟨sh_33, trivial⟩, k_⟩)
  rw [hc]
  show w_R xs Ln 72 (8, [(0, .ref 33), (1, .int x0), (2, .int x1), (3, .int x2), (4, .int x3), (5, .int x4)], [.int (Int32.ofNat n), .ref 34], (I, J, kR w rem, Z), 0, 0) _
  refine w_R.go (c' := (9, [(0, .ref 33), (1, .int x0), (2, .int x1), (3, .int x2), (4, .int x3), (5, .int x4)], [.ref (kR w rem 34 ((Int32.ofNat n).toNatClampNeg))], (I, J, kR w rem, Z), 0, 0)) 1 ?_ (fun m_ x_ Q_ k_ => ⟨⟨⟨_, sh_34, (n_in (a := n) (by omega) (by decide))⟩, (show kR w rem 34 ((Int32.ofNat n).toNatClampNeg) ≠ 0 by rw [n_cl (a := n) (by omega), show kR w rem 34 n = w n from rfl, hw]; omega)⟩, k_⟩)
  rw [n_cl (a := n) (by omega)]
  rw [show kR w rem 34 n = w n from rfl]
  rw [hw]
  show w_R xs Ln 72 (9, [(0, .ref 33), (1, .int x0), (2, .int x1), (3, .int x2), (4, .int x3), (5, .int x4)], [.ref (35 + 2 * p)], (I, J, kR w rem, Z), 0, 0) _
  refine w_R.go (c' := (15, [(6, .ref (35 + 2 * p)), (0, .ref 33), (1, .int x0), (2, .int x1), (3, .int x2), (4, .int x3), (5, .int x4)], [.int (I 33 1)], (I, J, kR w rem, Z), 0, 0)) 3 ?_ (fun m_ x_ Q_ k_ => ⟨trivial, trivial, ⟨sh_33, trivial⟩, k_⟩)
  rw [hc]
  show w_R xs Ln 72 (15, [(6, .ref (35 + 2 * p)), (0, .ref 33), (1, .int x0), (2, .int x1), (3, .int x2), (4, .int x3), (5, .int x4)], [.int (Int32.ofNat n)], (I, J, kR w rem, Z), 0, 0) _
  refine w_R.go (c' := (i_br .ge (Int32.ofNat n) 48 30 20, [(6, .ref (35 + 2 * p)), (0, .ref 33), (1, .int x0), (2, .int x1), (3, .int x2), (4, .int x3), (5, .int x4)], [], (I, J, kR w rem, Z), 0, 0)) 2 ?_ (fun m_ x_ Q_ k_ => ⟨trivial, trivial, k_⟩)
  refine w_R.br_ge (fun h1 => ?_) (fun h1 => ?_)
  · replace h1 := mt (n_lt (a := n) (b := 48) (by omega) (by omega)).mpr h1
    refine w_R.ret 17 (.inl (some (.ref (35 + 2 * p)))) (s_up (s_up (s_up (s_up (s_up I (35 + 2 * p) 0 x0) (35 + 2 * p) 1 x1) (35 + 2 * p) 2 x2) (35 + 2 * p) 3 x3) (35 + 2 * p) 4 x4, J, kR w rem, Z) ?_ (fun x_ Q_ k_ => ⟨trivial, trivial, ⟨(sh_let hp), trivial⟩, trivial, trivial, ⟨(sh_let hp), trivial⟩, trivial, trivial, ⟨(sh_let hp), trivial⟩, trivial, trivial, ⟨(sh_let hp), trivial⟩, trivial, trivial, ⟨(sh_let hp), trivial⟩, trivial, ⟨Nat.le_of_ble_eq_true rfl, Nat.le_of_ble_eq_true rfl⟩, k_⟩)
    exact ⟨by rw [show v_72 I J Z x0 x1 x2 x3 x4 n p = (35 + 2 * p) from by unfold v_72; rw [if_neg h1]] <;> rfl, by rw [show i_72 I J Z x0 x1 x2 x3 x4 n p = (s_up (s_up (s_up (s_up (s_up I (35 + 2 * p) 0 x0) (35 + 2 * p) 1 x1) (35 + 2 * p) 2 x2) (35 + 2 * p) 3 x3) (35 + 2 * p) 4 x4) from by unfold i_72; rw [if_neg h1]]⟩
  · replace h1 := (n_lt (a := n) (b := 48) (by omega) (by omega)).mp h1
    refine w_R.go (c' := (25, [(6, .ref (35 + 2 * p)), (0, .ref 33), (1, .int x0), (2, .int x1), (3, .int x2), (4, .int x3), (5, .int x4)], [.int (I 33 1), .ref 33], (I, J, kR w rem, Z), 0, 0)) 3 ?_ (fun m_ x_ Q_ k_ => ⟨trivial, trivial, ⟨sh_33, trivial⟩, k_⟩)
    rw [hc]
    show w_R xs Ln 72 (25, [(6, .ref (35 + 2 * p)), (0, .ref 33), (1, .int x0), (2, .int x1), (3, .int x2), (4, .int x3), (5, .int x4)], [.int (Int32.ofNat n), .ref 33], (I, J, kR w rem, Z), 0, 0) _
    refine w_R.go (c' := (27, [(6, .ref (35 + 2 * p)), (0, .ref 33), (1, .int x0), (2, .int x1), (3, .int x2), (4, .int x3), (5, .int x4)], [.int (Int32.ofNat n + Int32.ofNat 1), .ref 33], (I, J, kR w rem, Z), 0, 0)) 2 ?_ (fun m_ x_ Q_ k_ => ⟨trivial, trivial, k_⟩)
    rw [n_add n 1]
    show w_R xs Ln 72 (27, [(6, .ref (35 + 2 * p)), (0, .ref 33), (1, .int x0), (2, .int x1), (3, .int x2), (4, .int x3), (5, .int x4)], [.int (Int32.ofNat (n + 1)), .ref 33], (I, J, kR w rem, Z), 0, 0) _
    refine w_R.ret 18 (.inl (some (.ref (35 + 2 * p)))) (s_up (s_up (s_up (s_up (s_up (s_up I 33 1 (Int32.ofNat (n + 1))) (35 + 2 * p) 0 x0) (35 + 2 * p) 1 x1) (35 + 2 * p) 2 x2) (35 + 2 * p) 3 x3) (35 + 2 * p) 4 x4, J, kR w rem, Z) ?_ (fun x_ Q_ k_ => ⟨⟨sh_33, trivial⟩, trivial, trivial, ⟨(sh_let hp), trivial⟩, trivial, trivial, ⟨(sh_let hp), trivial⟩, trivial, trivial, ⟨(sh_let hp), trivial⟩, trivial, trivial, ⟨(sh_let hp), trivial⟩, trivial, trivial, ⟨(sh_let hp), trivial⟩, trivial, ⟨Nat.le_of_ble_eq_true rfl, Nat.le_of_ble_eq_true rfl⟩, k_⟩)
    exact ⟨by rw [show v_72 I J Z x0 x1 x2 x3 x4 n p = (35 + 2 * p) from by unfold v_72; rw [if_pos h1]] <;> rfl, by rw [show i_72 I J Z x0 x1 x2 x3 x4 n p = (s_up (s_up (s_up (s_up (s_up (s_up I 33 1 (Int32.ofNat (n + 1))) (35 + 2 * p) 0 x0) (35 + 2 * p) 1 x1) (35 + 2 * p) 2 x2) (35 + 2 * p) 3 x3) (35 + 2 * p) 4 x4) from by unfold i_72; rw [if_pos h1]]⟩
def i_57 (I : Nat → Nat → Int32) (J : Nat → Nat → Int64) (Z : Nat → Nat → Bool) (u : Nat) (i : Nat) : Nat → Nat → Int32 := if (I (135 + u) 0) = 0 then if (I (35 + 2 * i) 4) < (I (135 + u) 6) then I else s_up (s_up (s_up (s_up I (135 + u) 0 1) (135 + u) 4 (I (35 + 2 * i) 3)) (135 + u) 5 (I (35 + 2 * i) 7)) (135 + u) 6 (I (35 + 2 * i) 4) else I
theorem d_57 (u : Nat) (i : Nat) (hu : u < 6) (hi : i < 50) : w_R xs Ln 57 (0, [(0, .ref (135 + u)), (1, .ref (35 + 2 * i))], [], (I, J, kR w rem, Z), 0, 0) (fun o s => o = .inl none ∧ s = (i_57 I J Z u i, J, kR w rem, Z)) := by
  refine w_R.go (c' := (i_br .ne (I (135 + u) 0) 0 47 7, [(0, .ref (135 + u)), (1, .ref (35 + 2 * i))], [], (I, J, kR w rem, Z), 0, 0)) 3 ?_ (fun m_ x_ Q_ k_ => ⟨trivial, ⟨(sh_amb hu), trivial⟩, trivial, k_⟩)
  refine w_R.br_ne (fun h1 => ?_) (fun h1 => ?_)
  · refine w_R.ret 1 (.inl none) (I, J, kR w rem, Z) ?_ (fun x_ Q_ k_ => ⟨⟨Nat.le_of_ble_eq_true rfl, Nat.le_of_ble_eq_true rfl⟩, k_⟩)
    exact ⟨rfl, by rw [show i_57 I J Z u i = I from by unfold i_57; rw [if_neg h1]]⟩
  · refine w_R.go (c' := (i_br .lt (I (35 + 2 * i) 4) (I (135 + u) 6) 47 18, [(0, .ref (135 + u)), (1, .ref (35 + 2 * i))], [], (I, J, kR w rem, Z), 0, 0)) 5 ?_ (fun m_ x_ Q_ k_ => ⟨trivial, ⟨(sh_let hi), trivial⟩, trivial, ⟨(sh_amb hu), trivial⟩, trivial, k_⟩)
    refine w_R.br_lt (fun h2 => ?_) (fun h2 => ?_)
    · refine w_R.ret 1 (.inl none) (I, J, kR w rem, Z) ?_ (fun x_ Q_ k_ => ⟨⟨Nat.le_of_ble_eq_true rfl, Nat.le_of_ble_eq_true rfl⟩, k_⟩)
      exact ⟨rfl, by rw [show i_57 I J Z u i = I from by unfold i_57; rw [if_pos h1, if_pos h2]]⟩
    · refine w_R.go (c' := (28, [(0, .ref (135 + u)), (1, .ref (35 + 2 * i))], [.int ((s_up I (135 + u) 0 1) (35 + 2 * i) 3), .ref (135 + u)], (s_up I (135 + u) 0 1, J, kR w rem, Z), 0, 0)) 6 ?_ (fun m_ x_ Q_ k_ => ⟨trivial, trivial, ⟨(sh_amb hu), trivial⟩, trivial, trivial, ⟨(sh_let hi), trivial⟩, k_⟩)
      rw [show (s_up I (135 + u) 0 1) (35 + 2 * i) 3 = I (35 + 2 * i) 3 from (s_upk (by decide))]
      show w_R xs Ln 57 (28, [(0, .ref (135 + u)), (1, .ref (35 + 2 * i))], [.int (I (35 + 2 * i) 3), .ref (135 + u)], (s_up I (135 + u) 0 1, J, kR w rem, Z), 0, 0) _
      refine w_R.go (c' := (36, [(0, .ref (135 + u)), (1, .ref (35 + 2 * i))], [.int ((s_up (s_up I (135 + u) 0 1) (135 + u) 4 (I (35 + 2 * i) 3)) (35 + 2 * i) 7), .ref (135 + u)], (s_up (s_up I (135 + u) 0 1) (135 + u) 4 (I (35 + 2 * i) 3), J, kR w rem, Z), 0, 0)) 4 ?_ (fun m_ x_ Q_ k_ => ⟨⟨(sh_amb hu), trivial⟩, trivial, trivial, ⟨(sh_let hi), trivial⟩, k_⟩)
      rw [show (s_up (s_up I (135 + u) 0 1) (135 + u) 4 (I (35 + 2 * i) 3)) (35 + 2 * i) 7 = I (35 + 2 * i) 7 from ((s_upk (by decide)).trans (s_upk (by decide)))]
      show w_R xs Ln 57 (36, [(0, .ref (135 + u)), (1, .ref (35 + 2 * i))], [.int (I (35 + 2 * i) 7), .ref (135 + u)], (s_up (s_up I (135 + u) 0 1) (135 + u) 4 (I (35 + 2 * i) 3), J, kR w rem, Z), 0, 0) _
      refine w_R.go (c' := (44, [(0, .ref (135 + u)), (1, .ref (35 + 2 * i))], [.int ((s_up (s_up (s_up I (135 + u) 0 1) (135 + u) 4 (I (35 + 2 * i) 3)) (135 + u) 5 (I (35 + 2 * i) 7)) (35 + 2 * i) 4), .ref (135 + u)], (s_up (s_up (s_up I (135 + u) 0 1) (135 + u) 4 (I (35 + 2 * i) 3)) (135 + u) 5 (I (35 + 2 * i) 7), J, kR w rem, Z), 0, 0)) 4 ?_ (fun m_ x_ Q_ k_ => ⟨⟨(sh_amb hu), trivial⟩, trivial, trivial, ⟨(sh_let hi), trivial⟩, k_⟩)
      rw [show (s_up (s_up (s_up I (135 + u) 0 1) (135 + u) 4 (I (35 + 2 * i) 3)) (135 + u) 5 (I (35 + 2 * i) 7)) (35 + 2 * i) 4 = I (35 + 2 * i) 4 from ((s_upk (by decide)).trans ((s_upa (by omega)).trans (s_upk (by decide))))]
      show w_R xs Ln 57 (44, [(0, .ref (135 + u)), (1, .ref (35 + 2 * i))], [.int (I (35 + 2 * i) 4), .ref (135 + u)], (s_up (s_up (s_up I (135 + u) 0 1) (135 + u) 4 (I (35 + 2 * i) 3)) (135 + u) 5 (I (35 + 2 * i) 7), J, kR w rem, Z), 0, 0) _
      refine w_R.ret 2 (.inl none) (s_up (s_up (s_up (s_up I (135 + u) 0 1) (135 + u) 4 (I (35 + 2 * i) 3)) (135 + u) 5 (I (35 + 2 * i) 7)) (135 + u) 6 (I (35 + 2 * i) 4), J, kR w rem, Z) ?_ (fun x_ Q_ k_ => ⟨⟨(sh_amb hu), trivial⟩, ⟨Nat.le_of_ble_eq_true rfl, Nat.le_of_ble_eq_true rfl⟩, k_⟩)
      exact ⟨rfl, by rw [show i_57 I J Z u i = (s_up (s_up (s_up (s_up I (135 + u) 0 1) (135 + u) 4 (I (35 + 2 * i) 3)) (135 + u) 5 (I (35 + 2 * i) 7)) (135 + u) 6 (I (35 + 2 * i) 4)) from by unfold i_57; rw [if_pos h1, if_neg h2]]⟩
def i_95 (I : Nat → Nat → Int32) (J : Nat → Nat → Int64) (Z : Nat → Nat → Bool) (r : Nat) (i : Nat) (d : Nat) : Nat → Nat → Int32 := if (I (147 + 29 * r) d) < (I (35 + 2 * i) 4) then s_up (s_up I (147 + 29 * r) d (I (35 + 2 * i) 4)) (142 + 29 * r) d (I (35 + 2 * i) 4) else I
def j_95 (I : Nat → Nat → Int32) (J : Nat → Nat → Int64) (Z : Nat → Nat → Bool) (r : Nat) (i : Nat) (d : Nat) : Nat → Nat → Int64 := if (I (147 + 29 * r) d) < (I (35 + 2 * i) 4) then s_up J (146 + 29 * r) d (J (35 + 2 * i) 6) else J
theorem d_95 (r : Nat) (i : Nat) (d : Nat) (hr : r < 2) (hi : i < 50) (hd : d < 4) (hda : I (35 + 2 * i) 3 = Int32.ofNat d) : w_R xs Ln 95 (0, [(0, .ref (141 + 29 * r)), (1, .ref (35 + 2 * i))], [], (I, J, kR w rem, Z), 0, 0) (fun o s => o = .inl none ∧ s = (i_95 I J Z r i d, j_95 I J Z r i d, kR w rem, Z)) := by
  refine w_R.go (c' := (4, [(0, .ref (141 + 29 * r)), (1, .ref (35 + 2 * i))], [.int (I (35 + 2 * i) 3)], (I, J, kR w rem, Z), 0, 0)) 2 ?_ (fun m_ x_ Q_ k_ => ⟨trivial, ⟨(sh_let hi), trivial⟩, k_⟩)
  rw [hda]
  show w_R xs Ln 95 (4, [(0, .ref (141 + 29 * r)), (1, .ref (35 + 2 * i))], [.int (Int32.ofNat d)], (I, J, kR w rem, Z), 0, 0) _
  refine w_R.go (c' := (13, [(2, .int (Int32.ofNat d)), (0, .ref (141 + 29 * r)), (1, .ref (35 + 2 * i))], [.ref (kR w rem (141 + 29 * r) 9), .int (I (35 + 2 * i) 4)], (I, J, kR w rem, Z), 0, 0)) 5 ?_ (fun m_ x_ Q_ k_ => ⟨trivial, trivial, ⟨(sh_let hi), trivial⟩, trivial, ⟨(sh_room hr), (show kR w rem (141 + 29 * r) 9 ≠ 0 by rw [r_room9 (w := w) (rem := rem) (r := r) hr]; omega)⟩, k_⟩)
  rw [r_room9 (w := w) (rem := rem) (r := r) hr]
  show w_R xs Ln 95 (13, [(2, .int (Int32.ofNat d)), (0, .ref (141 + 29 * r)), (1, .ref (35 + 2 * i))], [.ref (147 + 29 * r), .int (I (35 + 2 * i) 4)], (I, J, kR w rem, Z), 0, 0) _
  refine w_R.go (c' := (15, [(2, .int (Int32.ofNat d)), (0, .ref (141 + 29 * r)), (1, .ref (35 + 2 * i))], [.int (I (147 + 29 * r) (Int32.ofNat d).toNatClampNeg), .int (I (35 + 2 * i) 4)], (I, J, kR w rem, Z), 0, 0)) 2 ?_ (fun m_ x_ Q_ k_ => ⟨trivial, ⟨_, (sh_room9 hr), (n_in (a := d) (by omega) (by decide))⟩, k_⟩)
  rw [n_cl (a := d) (by omega)]
  show w_R xs Ln 95 (15, [(2, .int (Int32.ofNat d)), (0, .ref (141 + 29 * r)), (1, .ref (35 + 2 * i))], [.int (I (147 + 29 * r) d), .int (I (35 + 2 * i) 4)], (I, J, kR w rem, Z), 0, 0) _
  refine w_R.go (c' := (i_br .le (I (35 + 2 * i) 4) (I (147 + 29 * r) d) 48 18, [(2, .int (Int32.ofNat d)), (0, .ref (141 + 29 * r)), (1, .ref (35 + 2 * i))], [], (I, J, kR w rem, Z), 0, 0)) 1 ?_ (fun m_ x_ Q_ k_ => ⟨trivial, k_⟩)
  refine w_R.br_le (fun h1 => ?_) (fun h1 => ?_)
  · refine w_R.ret 1 (.inl none) (I, J, kR w rem, Z) ?_ (fun x_ Q_ k_ => ⟨⟨Nat.le_of_ble_eq_true rfl, Nat.le_of_ble_eq_true rfl⟩, k_⟩)
    exact ⟨rfl, by rw [show i_95 I J Z r i d = I from by unfold i_95; rw [if_neg h1], show j_95 I J Z r i d = J from by unfold j_95; rw [if_neg h1]]⟩
  · refine w_R.go (c' := (22, [(2, .int (Int32.ofNat d)), (0, .ref (141 + 29 * r)), (1, .ref (35 + 2 * i))], [.ref (kR w rem (141 + 29 * r) 9)], (I, J, kR w rem, Z), 0, 0)) 2 ?_ (fun m_ x_ Q_ k_ => ⟨trivial, ⟨(sh_room hr), (show kR w rem (141 + 29 * r) 9 ≠ 0 by rw [r_room9 (w := w) (rem := rem) (r := r) hr]; omega)⟩, k_⟩)
    rw [r_room9 (w := w) (rem := rem) (r := r) hr]
    show w_R xs Ln 95 (22, [(2, .int (Int32.ofNat d)), (0, .ref (141 + 29 * r)), (1, .ref (35 + 2 * i))], [.ref (147 + 29 * r)], (I, J, kR w rem, Z), 0, 0) _
    refine w_R.go (c' := (28, [(2, .int (Int32.ofNat d)), (0, .ref (141 + 29 * r)), (1, .ref (35 + 2 * i))], [], (s_up I (147 + 29 * r) ((Int32.ofNat d).toNatClampNeg) (I (35 + 2 * i) 4), J, kR w rem, Z), 0, 0)) 4 ?_ (fun m_ x_ Q_ k_ => ⟨trivial, trivial, ⟨(sh_let hi), trivial⟩, ⟨_, (sh_room9 hr), (n_in (a := d) (by omega) (by decide))⟩, k_⟩)
    rw [n_cl (a := d) (by omega)]
    show w_R xs Ln 95 (28, [(2, .int (Int32.ofNat d)), (0, .ref (141 + 29 * r)), (1, .ref (35 + 2 * i))], [], (s_up I (147 + 29 * r) d (I (35 + 2 * i) 4), J, kR w rem, Z), 0, 0) _
    refine w_R.go (c' := (32, [(2, .int (Int32.ofNat d)), (0, .ref (141 + 29 * r)), (1, .ref (35 + 2 * i))], [.ref (kR w rem (141 + 29 * r) 4)], (s_up I (147 + 29 * r) d (I (35 + 2 * i) 4), J, kR w rem, Z), 0, 0)) 2 ?_ (fun m_ x_ Q_ k_ => ⟨trivial, ⟨(sh_room hr), (show kR w rem (141 + 29 * r) 4 ≠ 0 by rw [r_room4 (w := w) (rem := rem) (r := r) hr]; omega)⟩, k_⟩)
    rw [r_room4 (w := w) (rem := rem) (r := r) hr]
    show w_R xs Ln 95 (32, [(2, .int (Int32.ofNat d)), (0, .ref (141 + 29 * r)), (1, .ref (35 + 2 * i))], [.ref (142 + 29 * r)], (s_up I (147 + 29 * r) d (I (35 + 2 * i) 4), J, kR w rem, Z), 0, 0) _
    refine w_R.go (c' := (37, [(2, .int (Int32.ofNat d)), (0, .ref (141 + 29 * r)), (1, .ref (35 + 2 * i))], [.int ((s_up I (147 + 29 * r) d (I (35 + 2 * i) 4)) (35 + 2 * i) 4), .int (Int32.ofNat d), .ref (142 + 29 * r)], (s_up I (147 + 29 * r) d (I (35 + 2 * i) 4), J, kR w rem, Z), 0, 0)) 3 ?_ (fun m_ x_ Q_ k_ => ⟨trivial, trivial, ⟨(sh_let hi), trivial⟩, k_⟩)
    rw [show (s_up I (147 + 29 * r) d (I (35 + 2 * i) 4)) (35 + 2 * i) 4 = I (35 + 2 * i) 4 from (s_upa (by omega))]
    show w_R xs Ln 95 (37, [(2, .int (Int32.ofNat d)), (0, .ref (141 + 29 * r)), (1, .ref (35 + 2 * i))], [.int (I (35 + 2 * i) 4), .int (Int32.ofNat d), .ref (142 + 29 * r)], (s_up I (147 + 29 * r) d (I (35 + 2 * i) 4), J, kR w rem, Z), 0, 0) _
    refine w_R.go (c' := (38, [(2, .int (Int32.ofNat d)), (0, .ref (141 + 29 * r)), (1, .ref (35 + 2 * i))], [], (s_up (s_up I (147 + 29 * r) d (I (35 + 2 * i) 4)) (142 + 29 * r) ((Int32.ofNat d).toNatClampNeg) (I (35 + 2 * i) 4), J, kR w rem, Z), 0, 0)) 1 ?_ (fun m_ x_ Q_ k_ => ⟨⟨_, (sh_room4 hr), (n_in (a := d) (by omega) (by decide))⟩, k_⟩)
    rw [n_cl (a := d) (by omega)]
    show w_R xs Ln 95 (38, [(2, .int (Int32.ofNat d)), (0, .ref (141 + 29 * r)), (1, .ref (35 + 2 * i))], [], (s_up (s_up I (147 + 29 * r) d (I (35 + 2 * i) 4)) (142 + 29 * r) d (I (35 + 2 * i) 4), J, kR w rem, Z), 0, 0) _
    refine w_R.go (c' := (42, [(2, .int (Int32.ofNat d)), (0, .ref (141 + 29 * r)), (1, .ref (35 + 2 * i))], [.ref (kR w rem (141 + 29 * r) 8)], (s_up (s_up I (147 + 29 * r) d (I (35 + 2 * i) 4)) (142 + 29 * r) d (I (35 + 2 * i) 4), J, kR w rem, Z), 0, 0)) 2 ?_ (fun m_ x_ Q_ k_ => ⟨trivial, ⟨(sh_room hr), (show kR w rem (141 + 29 * r) 8 ≠ 0 by rw [r_room8 (w := w) (rem := rem) (r := r) hr]; omega)⟩, k_⟩)
    rw [r_room8 (w := w) (rem := rem) (r := r) hr]
    show w_R xs Ln 95 (42, [(2, .int (Int32.ofNat d)), (0, .ref (141 + 29 * r)), (1, .ref (35 + 2 * i))], [.ref (146 + 29 * r)], (s_up (s_up I (147 + 29 * r) d (I (35 + 2 * i) 4)) (142 + 29 * r) d (I (35 + 2 * i) 4), J, kR w rem, Z), 0, 0) _
    refine w_R.go (c' := (48, [(2, .int (Int32.ofNat d)), (0, .ref (141 + 29 * r)), (1, .ref (35 + 2 * i))], [], (s_up (s_up I (147 + 29 * r) d (I (35 + 2 * i) 4)) (142 + 29 * r) d (I (35 + 2 * i) 4), s_up J (146 + 29 * r) ((Int32.ofNat d).toNatClampNeg) (J (35 + 2 * i) 6), kR w rem, Z), 0, 0)) 4 ?_ (fun m_ x_ Q_ k_ => ⟨trivial, trivial, ⟨(sh_let hi), trivial⟩, ⟨_, (sh_room8 hr), (n_in (a := d) (by omega) (by decide))⟩, k_⟩)
    rw [n_cl (a := d) (by omega)]
    show w_R xs Ln 95 (48, [(2, .int (Int32.ofNat d)), (0, .ref (141 + 29 * r)), (1, .ref (35 + 2 * i))], [], (s_up (s_up I (147 + 29 * r) d (I (35 + 2 * i) 4)) (142 + 29 * r) d (I (35 + 2 * i) 4), s_up J (146 + 29 * r) d (J (35 + 2 * i) 6), kR w rem, Z), 0, 0) _
    refine w_R.ret 1 (.inl none) (s_up (s_up I (147 + 29 * r) d (I (35 + 2 * i) 4)) (142 + 29 * r) d (I (35 + 2 * i) 4), s_up J (146 + 29 * r) d (J (35 + 2 * i) 6), kR w rem, Z) ?_ (fun x_ Q_ k_ => ⟨⟨Nat.le_of_ble_eq_true rfl, Nat.le_of_ble_eq_true rfl⟩, k_⟩)
    exact ⟨rfl, by rw [show i_95 I J Z r i d = (s_up (s_up I (147 + 29 * r) d (I (35 + 2 * i) 4)) (142 + 29 * r) d (I (35 + 2 * i) 4)) from by unfold i_95; rw [if_pos h1], show j_95 I J Z r i d = (s_up J (146 + 29 * r) d (J (35 + 2 * i) 6)) from by unfold j_95; rw [if_pos h1]]⟩
def i_99 (I : Nat → Nat → Int32) (J : Nat → Nat → Int64) (Z : Nat → Nat → Bool) (r : Nat) (u : Nat) (i : Nat) : Nat → Nat → Int32 := if (Z (164 + 29 * r + u) 0) = true then if (I (164 + 29 * r + u) 5) < (I (35 + 2 * i) 4) then s_up (s_up (s_up (s_up I (164 + 29 * r + u) 5 (I (35 + 2 * i) 4)) (164 + 29 * r + u) 3 (I (35 + 2 * i) 8)) (164 + 29 * r + u) 2 (I (35 + 2 * i) 7)) (164 + 29 * r + u) 4 (I (35 + 2 * i) 9) else I else s_up (s_up (s_up (s_up I (164 + 29 * r + u) 5 (I (35 + 2 * i) 4)) (164 + 29 * r + u) 3 (I (35 + 2 * i) 8)) (164 + 29 * r + u) 2 (I (35 + 2 * i) 7)) (164 + 29 * r + u) 4 (I (35 + 2 * i) 9)
def z_99 (I : Nat → Nat → Int32) (J : Nat → Nat → Int64) (Z : Nat → Nat → Bool) (r : Nat) (u : Nat) (i : Nat) : Nat → Nat → Bool := if (Z (164 + 29 * r + u) 0) = true then if (I (164 + 29 * r + u) 5) < (I (35 + 2 * i) 4) then s_up (s_up Z (164 + 29 * r + u) 0 true) (164 + 29 * r + u) 1 false else Z else s_up (s_up Z (164 + 29 * r + u) 0 true) (164 + 29 * r + u) 1 false
theorem d_99 (r : Nat) (u : Nat) (i : Nat) (hr : r < 2) (hu : u < 6) (hi : i < 50) : w_R xs Ln 99 (0, [(0, .ref (164 + 29 * r + u)), (1, .ref (35 + 2 * i))], [], (I, J, kR w rem, Z), 0, 0) (fun o s => o = .inl none ∧ s = (i_99 I J Z r u i, J, kR w rem, z_99 I J Z r u i)) := by
  refine w_R.go (c' := (i_br .eq (s_b (Z (164 + 29 * r + u) 0)) 0 19 7, [(0, .ref (164 + 29 * r + u)), (1, .ref (35 + 2 * i))], [], (I, J, kR w rem, Z), 0, 0)) 3 ?_ (fun m_ x_ Q_ k_ => ⟨trivial, ⟨(sh_sight hr hu), trivial⟩, trivial, k_⟩)
  refine w_R.br_z (fun h1 => ?_) (fun h1 => ?_)
  · replace h1 := Bool.eq_false_iff.mp h1
    refine w_R.go (c' := (42, [(0, .ref (164 + 29 * r + u)), (1, .ref (35 + 2 * i))], [.int ((s_up I (164 + 29 * r + u) 5 (I (35 + 2 * i) 4)) (35 + 2 * i) 8), .ref (164 + 29 * r + u)], (s_up I (164 + 29 * r + u) 5 (I (35 + 2 * i) 4), J, kR w rem, s_up (s_up Z (164 + 29 * r + u) 0 true) (164 + 29 * r + u) 1 false), 0, 0)) 13 ?_ (fun m_ x_ Q_ k_ => ⟨trivial, trivial, ⟨(sh_sight hr hu), (Or.inr rfl)⟩, trivial, trivial, ⟨(sh_sight hr hu), (Or.inl rfl)⟩, trivial, trivial, ⟨(sh_let hi), trivial⟩, ⟨(sh_sight hr hu), trivial⟩, trivial, trivial, ⟨(sh_let hi), trivial⟩, k_⟩)
    rw [show (s_up I (164 + 29 * r + u) 5 (I (35 + 2 * i) 4)) (35 + 2 * i) 8 = I (35 + 2 * i) 8 from (s_upk (by decide))]
    show w_R xs Ln 99 (42, [(0, .ref (164 + 29 * r + u)), (1, .ref (35 + 2 * i))], [.int (I (35 + 2 * i) 8), .ref (164 + 29 * r + u)], (s_up I (164 + 29 * r + u) 5 (I (35 + 2 * i) 4), J, kR w rem, s_up (s_up Z (164 + 29 * r + u) 0 true) (164 + 29 * r + u) 1 false), 0, 0) _
    refine w_R.go (c' := (50, [(0, .ref (164 + 29 * r + u)), (1, .ref (35 + 2 * i))], [.int ((s_up (s_up I (164 + 29 * r + u) 5 (I (35 + 2 * i) 4)) (164 + 29 * r + u) 3 (I (35 + 2 * i) 8)) (35 + 2 * i) 7), .ref (164 + 29 * r + u)], (s_up (s_up I (164 + 29 * r + u) 5 (I (35 + 2 * i) 4)) (164 + 29 * r + u) 3 (I (35 + 2 * i) 8), J, kR w rem, s_up (s_up Z (164 + 29 * r + u) 0 true) (164 + 29 * r + u) 1 false), 0, 0)) 4 ?_ (fun m_ x_ Q_ k_ => ⟨⟨(sh_sight hr hu), trivial⟩, trivial, trivial, ⟨(sh_let hi), trivial⟩, k_⟩)
    rw [show (s_up (s_up I (164 + 29 * r + u) 5 (I (35 + 2 * i) 4)) (164 + 29 * r + u) 3 (I (35 + 2 * i) 8)) (35 + 2 * i) 7 = I (35 + 2 * i) 7 from ((s_upk (by decide)).trans (s_upk (by decide)))]
    show w_R xs Ln 99 (50, [(0, .ref (164 + 29 * r + u)), (1, .ref (35 + 2 * i))], [.int (I (35 + 2 * i) 7), .ref (164 + 29 * r + u)], (s_up (s_up I (164 + 29 * r + u) 5 (I (35 + 2 * i) 4)) (164 + 29 * r + u) 3 (I (35 + 2 * i) 8), J, kR w rem, s_up (s_up Z (164 + 29 * r + u) 0 true) (164 + 29 * r + u) 1 false), 0, 0) _
    refine w_R.go (c' := (58, [(0, .ref (164 + 29 * r + u)), (1, .ref (35 + 2 * i))], [.int ((s_up (s_up (s_up I (164 + 29 * r + u) 5 (I (35 + 2 * i) 4)) (164 + 29 * r + u) 3 (I (35 + 2 * i) 8)) (164 + 29 * r + u) 2 (I (35 + 2 * i) 7)) (35 + 2 * i) 9), .ref (164 + 29 * r + u)], (s_up (s_up (s_up I (164 + 29 * r + u) 5 (I (35 + 2 * i) 4)) (164 + 29 * r + u) 3 (I (35 + 2 * i) 8)) (164 + 29 * r + u) 2 (I (35 + 2 * i) 7), J, kR w rem, s_up (s_up Z (164 + 29 * r + u) 0 true) (164 + 29 * r + u) 1 false), 0, 0)) 4 ?_ (fun m_ x_ Q_ k_ => ⟨⟨(sh_sight hr hu), trivial⟩, trivial, trivial, ⟨(sh_let hi), trivial⟩, k_⟩)
    rw [show (s_up (s_up (s_up I (164 + 29 * r + u) 5 (I (35 + 2 * i) 4)) (164 + 29 * r + u) 3 (I (35 + 2 * i) 8)) (164 + 29 * r + u) 2 (I (35 + 2 * i) 7)) (35 + 2 * i) 9 = I (35 + 2 * i) 9 from ((s_upk (by decide)).trans ((s_upk (by decide)).trans (s_upk (by decide))))]
    show w_R xs Ln 99 (58, [(0, .ref (164 + 29 * r + u)), (1, .ref (35 + 2 * i))], [.int (I (35 + 2 * i) 9), .ref (164 + 29 * r + u)], (s_up (s_up (s_up I (164 + 29 * r + u) 5 (I (35 + 2 * i) 4)) (164 + 29 * r + u) 3 (I (35 + 2 * i) 8)) (164 + 29 * r + u) 2 (I (35 + 2 * i) 7), J, kR w rem, s_up (s_up Z (164 + 29 * r + u) 0 true) (164 + 29 * r + u) 1 false), 0, 0) _
    refine w_R.ret 2 (.inl none) (s_up (s_up (s_up (s_up I (164 + 29 * r + u) 5 (I (35 + 2 * i) 4)) (164 + 29 * r + u) 3 (I (35 + 2 * i) 8)) (164 + 29 * r + u) 2 (I (35 + 2 * i) 7)) (164 + 29 * r + u) 4 (I (35 + 2 * i) 9), J, kR w rem, s_up (s_up Z (164 + 29 * r + u) 0 true) (164 + 29 * r + u) 1 false) ?_ (fun x_ Q_ k_ => ⟨⟨(sh_sight hr hu), trivial⟩, ⟨Nat.le_of_ble_eq_true rfl, Nat.le_of_ble_eq_true rfl⟩, k_⟩)
    exact ⟨rfl, by rw [show i_99 I J Z r u i = (s_up (s_up (s_up (s_up I (164 + 29 * r + u) 5 (I (35 + 2 * i) 4)) (164 + 29 * r + u) 3 (I (35 + 2 * i) 8)) (164 + 29 * r + u) 2 (I (35 + 2 * i) 7)) (164 + 29 * r + u) 4 (I (35 + 2 * i) 9)) from by unfold i_99; rw [if_neg h1], show z_99 I J Z r u i = (s_up (s_up Z (164 + 29 * r + u) 0 true) (164 + 29 * r + u) 1 false) from by unfold z_99; rw [if_neg h1]]⟩
  · refine w_R.go (c' := (i_br .gt (I (35 + 2 * i) 4) (I (164 + 29 * r + u) 5) 19 18, [(0, .ref (164 + 29 * r + u)), (1, .ref (35 + 2 * i))], [], (I, J, kR w rem, Z), 0, 0)) 5 ?_ (fun m_ x_ Q_ k_ => ⟨trivial, ⟨(sh_let hi), trivial⟩, trivial, ⟨(sh_sight hr hu), trivial⟩, trivial, k_⟩)
    refine w_R.br_gt (fun h2 => ?_) (fun h2 => ?_)
    · refine w_R.go (c' := (42, [(0, .ref (164 + 29 * r + u)), (1, .ref (35 + 2 * i))], [.int ((s_up I (164 + 29 * r + u) 5 (I (35 + 2 * i) 4)) (35 + 2 * i) 8), .ref (164 + 29 * r + u)], (s_up I (164 + 29 * r + u) 5 (I (35 + 2 * i) 4), J, kR w rem, s_up (s_up Z (164 + 29 * r + u) 0 true) (164 + 29 * r + u) 1 false), 0, 0)) 13 ?_ (fun m_ x_ Q_ k_ => ⟨trivial, trivial, ⟨(sh_sight hr hu), (Or.inr rfl)⟩, trivial, trivial, ⟨(sh_sight hr hu), (Or.inl rfl)⟩, trivial, trivial, ⟨(sh_let hi), trivial⟩, ⟨(sh_sight hr hu), trivial⟩, trivial, trivial, ⟨(sh_let hi), trivial⟩, k_⟩)
      rw [show (s_up I (164 + 29 * r + u) 5 (I (35 + 2 * i) 4)) (35 + 2 * i) 8 = I (35 + 2 * i) 8 from (s_upk (by decide))]
      show w_R xs Ln 99 (42, [(0, .ref (164 + 29 * r + u)), (1, .ref (35 + 2 * i))], [.int (I (35 + 2 * i) 8), .ref (164 + 29 * r + u)], (s_up I (164 + 29 * r + u) 5 (I (35 + 2 * i) 4), J, kR w rem, s_up (s_up Z (164 + 29 * r + u) 0 true) (164 + 29 * r + u) 1 false), 0, 0) _
      refine w_R.go (c' := (50, [(0, .ref (164 + 29 * r + u)), (1, .ref (35 + 2 * i))], [.int ((s_up (s_up I (164 + 29 * r + u) 5 (I (35 + 2 * i) 4)) (164 + 29 * r + u) 3 (I (35 + 2 * i) 8)) (35 + 2 * i) 7), .ref (164 + 29 * r + u)], (s_up (s_up I (164 + 29 * r + u) 5 (I (35 + 2 * i) 4)) (164 + 29 * r + u) 3 (I (35 + 2 * i) 8), J, kR w rem, s_up (s_up Z (164 + 29 * r + u) 0 true) (164 + 29 * r + u) 1 false), 0, 0)) 4 ?_ (fun m_ x_ Q_ k_ => ⟨⟨(sh_sight hr hu), trivial⟩, trivial, trivial, ⟨(sh_let hi), trivial⟩, k_⟩)
      rw [show (s_up (s_up I (164 + 29 * r + u) 5 (I (35 + 2 * i) 4)) (164 + 29 * r + u) 3 (I (35 + 2 * i) 8)) (35 + 2 * i) 7 = I (35 + 2 * i) 7 from ((s_upk (by decide)).trans (s_upk (by decide)))]
      show w_R xs Ln 99 (50, [(0, .ref (164 + 29 * r + u)), (1, .ref (35 + 2 * i))], [.int (I (35 + 2 * i) 7), .ref (164 + 29 * r + u)], (s_up (s_up I (164 + 29 * r + u) 5 (I (35 + 2 * i) 4)) (164 + 29 * r + u) 3 (I (35 + 2 * i) 8), J, kR w rem, s_up (s_up Z (164 + 29 * r + u) 0 true) (164 + 29 * r + u) 1 false), 0, 0) _
      refine w_R.go (c' := (58, [(0, .ref (164 + 29 * r + u)), (1, .ref (35 + 2 * i))], [.int ((s_up (s_up (s_up I (164 + 29 * r + u) 5 (I (35 + 2 * i) 4)) (164 + 29 * r + u) 3 (I (35 + 2 * i) 8)) (164 + 29 * r + u) 2 (I (35 + 2 * i) 7)) (35 + 2 * i) 9), .ref (164 + 29 * r + u)], (s_up (s_up (s_up I (164 + 29 * r + u) 5 (I (35 + 2 * i) 4)) (164 + 29 * r + u) 3 (I (35 + 2 * i) 8)) (164 + 29 * r + u) 2 (I (35 + 2 * i) 7), J, kR w rem, s_up (s_up Z (164 + 29 * r + u) 0 true) (164 + 29 * r + u) 1 false), 0, 0)) 4 ?_ (fun m_ x_ Q_ k_ => ⟨⟨(sh_sight hr hu), trivial⟩, trivial, trivial, ⟨(sh_let hi), trivial⟩, k_⟩)
      rw [show (s_up (s_up (s_up I (164 + 29 * r + u) 5 (I (35 + 2 * i) 4)) (164 + 29 * r + u) 3 (I (35 + 2 * i) 8)) (164 + 29 * r + u) 2 (I (35 + 2 * i) 7)) (35 + 2 * i) 9 = I (35 + 2 * i) 9 from ((s_upk (by decide)).trans ((s_upk (by decide)).trans (s_upk (by decide))))]
      show w_R xs Ln 99 (58, [(0, .ref (164 + 29 * r + u)), (1, .ref (35 + 2 * i))], [.int (I (35 + 2 * i) 9), .ref (164 + 29 * r + u)], (s_up (s_up (s_up I (164 + 29 * r + u) 5 (I (35 + 2 * i) 4)) (164 + 29 * r + u) 3 (I (35 + 2 * i) 8)) (164 + 29 * r + u) 2 (I (35 + 2 * i) 7), J, kR w rem, s_up (s_up Z (164 + 29 * r + u) 0 true) (164 + 29 * r + u) 1 false), 0, 0) _
      refine w_R.ret 2 (.inl none) (s_up (s_up (s_up (s_up I (164 + 29 * r + u) 5 (I (35 + 2 * i) 4)) (164 + 29 * r + u) 3 (I (35 + 2 * i) 8)) (164 + 29 * r + u) 2 (I (35 + 2 * i) 7)) (164 + 29 * r + u) 4 (I (35 + 2 * i) 9), J, kR w rem, s_up (s_up Z (164 + 29 * r + u) 0 true) (164 + 29 * r + u) 1 false) ?_ (fun x_ Q_ k_ => ⟨⟨(sh_sight hr hu), trivial⟩, ⟨Nat.le_of_ble_eq_true rfl, Nat.le_of_ble_eq_true rfl⟩, k_⟩)
      exact ⟨rfl, by rw [show i_99 I J Z r u i = (s_up (s_up (s_up (s_up I (164 + 29 * r + u) 5 (I (35 + 2 * i) 4)) (164 + 29 * r + u) 3 (I (35 + 2 * i) 8)) (164 + 29 * r + u) 2 (I (35 + 2 * i) 7)) (164 + 29 * r + u) 4 (I (35 + 2 * i) 9)) from by unfold i_99; rw [if_pos h1, if_pos h2], show z_99 I J Z r u i = (s_up (s_up Z (164 + 29 * r + u) 0 true) (164 + 29 * r + u) 1 false) from by unfold z_99; rw [if_pos h1, if_pos h2]]⟩
    · refine w_R.ret 1 (.inl none) (I, J, kR w rem, Z) ?_ (fun x_ Q_ k_ => ⟨⟨Nat.le_of_ble_eq_true rfl, Nat.le_of_ble_eq_true rfl⟩, k_⟩)
      exact ⟨rfl, by rw [show i_99 I J Z r u i = I from by unfold i_99; rw [if_pos h1, if_neg h2], show z_99 I J Z r u i = Z from by unfold z_99; rw [if_pos h1, if_neg h2]]⟩
def v_63 (I : Nat → Nat → Int32) (J : Nat → Nat → Int64) (Z : Nat → Nat → Bool) (a : Nat) (b : Nat) : Bool := if (Z a 0) = true then if (I a 8) < (I b 8) then true else if (I b 8) = (I a 8) then if (I a 9) < (I b 9) then true else false else false else true
def i_63 (I : Nat → Nat → Int32) (J : Nat → Nat → Int64) (Z : Nat → Nat → Bool) (a : Nat) (b : Nat) : Nat → Nat → Int32 := if (Z a 0) = true then if (I a 8) < (I b 8) then i_64 I J Z a b else if (I b 8) = (I a 8) then if (I a 9) < (I b 9) then i_64 I J Z a b else I else I else i_64 I J Z a b
def z_63 (I : Nat → Nat → Int32) (J : Nat → Nat → Int64) (Z : Nat → Nat → Bool) (a : Nat) (b : Nat) : Nat → Nat → Bool := if (Z a 0) = true then if (I a 8) < (I b 8) then z_64 I J Z a b else if (I b 8) = (I a 8) then if (I a 9) < (I b 9) then z_64 I J Z a b else Z else Z else z_64 I J Z a b
theorem d_63 (a : Nat) (b : Nat) (ha : sh1[a]? = some (.inl 1)) (hb : sh1[b]? = some (.inl 1)) : w_R xs Ln 63 (0, [(0, .ref a), (1, .ref b)], [], (I, J, kR w rem, Z), 0, 0) (fun o s => o = .inl (some (.int (s_b (v_63 I J Z a b)))) ∧ s = (i_63 I J Z a b, J, kR w rem, z_63 I J Z a b)) := by
  refine w_R.go (c' := (i_br .eq (s_b (Z a 0)) 0 40 7, [(0, .ref a), (1, .ref b)], [], (I, J, kR w rem, Z), 0, 0)) 3 ?_ (fun m_ x_ Q_ k_ => ⟨trivial, ⟨ha, trivial⟩, trivial, k_⟩)
  refine w_R.br_z (fun h1 => ?_) (fun h1 => ?_)
  · replace h1 := Bool.eq_false_iff.mp h1
    refine w_R.go (c' := (52, [(2, .int 1), (0, .ref a), (1, .ref b)], [.ref b, .ref a], (I, J, kR w rem, Z), 0, 0)) 7 ?_ (fun m_ x_ Q_ k_ => ⟨trivial, trivial, trivial, trivial, trivial, trivial, trivial, k_⟩)
    refine w_R.callV (ce' := 0) (sl' := 0) (v := none) (σ' := (i_64 I J Z a b, J, kR w rem, z_64 I J Z a b)) (as := [.ref a, .ref b]) (rest := []) (d_64 a b ha hb) ?_ rfl rfl rfl rfl rfl ha rfl rfl rfl rfl
    show w_R xs Ln 63 (55, [(2, .int 1), (0, .ref a), (1, .ref b)], [], (i_64 I J Z a b, J, kR w rem, z_64 I J Z a b), 0, 0) _
    refine w_R.ret 2 (.inl (some (.int 1))) (i_64 I J Z a b, J, kR w rem, z_64 I J Z a b) ?_ (fun x_ Q_ k_ => ⟨trivial, Or.inr rfl, ⟨Nat.le_of_ble_eq_true rfl, Nat.le_of_ble_eq_true rfl⟩, k_⟩)
    exact ⟨by rw [show v_63 I J Z a b = true from by unfold v_63; rw [if_neg h1]] <;> rfl, by rw [show i_63 I J Z a b = (i_64 I J Z a b) from by unfold i_63; rw [if_neg h1], show z_63 I J Z a b = (z_64 I J Z a b) from by unfold z_63; rw [if_neg h1]]⟩
  · refine w_R.go (c' := (i_br .gt (I b 8) (I a 8) 40 18, [(0, .ref a), (1, .ref b)], [], (I, J, kR w rem, Z), 0, 0)) 5 ?_ (fun m_ x_ Q_ k_ => ⟨trivial, ⟨hb, trivial⟩, trivial, ⟨ha, trivial⟩, trivial, k_⟩)
    refine w_R.br_gt (fun h2 => ?_) (fun h2 => ?_)
    · refine w_R.go (c' := (52, [(2, .int 1), (0, .ref a), (1, .ref b)], [.ref b, .ref a], (I, J, kR w rem, Z), 0, 0)) 7 ?_ (fun m_ x_ Q_ k_ => ⟨trivial, trivial, trivial, trivial, trivial, trivial, trivial, k_⟩)
      refine w_R.callV (ce' := 0) (sl' := 0) (v := none) (σ' := (i_64 I J Z a b, J, kR w rem, z_64 I J Z a b)) (as := [.ref a, .ref b]) (rest := []) (d_64 a b ha hb) ?_ rfl rfl rfl rfl rfl ha rfl rfl rfl rfl
      show w_R xs Ln 63 (55, [(2, .int 1), (0, .ref a), (1, .ref b)], [], (i_64 I J Z a b, J, kR w rem, z_64 I J Z a b), 0, 0) _
      refine w_R.ret 2 (.inl (some (.int 1))) (i_64 I J Z a b, J, kR w rem, z_64 I J Z a b) ?_ (fun x_ Q_ k_ => ⟨trivial, Or.inr rfl, ⟨Nat.le_of_ble_eq_true rfl, Nat.le_of_ble_eq_true rfl⟩, k_⟩)
      exact ⟨by rw [show v_63 I J Z a b = true from by unfold v_63; rw [if_pos h1, if_pos h2]] <;> rfl, by rw [show i_63 I J Z a b = (i_64 I J Z a b) from by unfold i_63; rw [if_pos h1, if_pos h2], show z_63 I J Z a b = (z_64 I J Z a b) from by unfold z_63; rw [if_pos h1, if_pos h2]]⟩
    · refine w_R.go (c' := (i_br .ne (I b 8) (I a 8) 44 29, [(0, .ref a), (1, .ref b)], [], (I, J, kR w rem, Z), 0, 0)) 5 ?_ (fun m_ x_ Q_ k_ => ⟨trivial, ⟨hb, trivial⟩, trivial, ⟨ha, trivial⟩, trivial, k_⟩)
      refine w_R.br_ne (fun h3 => ?_) (fun h3 => ?_)
      · refine w_R.ret 6 (.inl (some (.int 0))) (I, J, kR w rem, Z) ?_ (fun x_ Q_ k_ => ⟨trivial, trivial, trivial, trivial, trivial, Or.inl rfl, ⟨Nat.le_of_ble_eq_true rfl, Nat.le_of_ble_eq_true rfl⟩, k_⟩)
        exact ⟨by rw [show v_63 I J Z a b = false from by unfold v_63; rw [if_pos h1, if_neg h2, if_neg h3]] <;> rfl, by rw [show i_63 I J Z a b = I from by unfold i_63; rw [if_pos h1, if_neg h2, if_neg h3], show z_63 I J Z a b = Z from by unfold z_63; rw [if_pos h1, if_neg h2, if_neg h3]]⟩
      · refine w_R.go (c' := (i_br .le (I b 9) (I a 9) 44 40, [(0, .ref a), (1, .ref b)], [], (I, J, kR w rem, Z), 0, 0)) 5 ?_ (fun m_ x_ Q_ k_ => ⟨trivial, ⟨hb, trivial⟩, trivial, ⟨ha, trivial⟩, trivial, k_⟩)
        refine w_R.br_le (fun h4 => ?_) (fun h4 => ?_)
        · refine w_R.ret 6 (.inl (some (.int 0))) (I, J, kR w rem, Z) ?_ (fun x_ Q_ k_ => ⟨trivial, trivial, trivial, trivial, trivial, Or.inl rfl, ⟨Nat.le_of_ble_eq_true rfl, Nat.le_of_ble_eq_true rfl⟩, k_⟩)
          exact ⟨by rw [show v_63 I J Z a b = false from by unfold v_63; rw [if_pos h1, if_neg h2, if_pos h3, if_neg h4]] <;> rfl, by rw [show i_63 I J Z a b = I from by unfold i_63; rw [if_pos h1, if_neg h2, if_pos h3, if_neg h4], show z_63 I J Z a b = Z from by unfold z_63; rw [if_pos h1, if_neg h2, if_pos h3, if_neg h4]]⟩
        · refine w_R.go (c' := (52, [(2, .int 1), (0, .ref a), (1, .ref b)], [.ref b, .ref a], (I, J, kR w rem, Z), 0, 0)) 7 ?_ (fun m_ x_ Q_ k_ => ⟨trivial, trivial, trivial, trivial, trivial, trivial, trivial, k_⟩)
          refine w_R.callV (ce' := 0) (sl' := 0) (v := none) (σ' := (i_64 I J Z a b, J, kR w rem, z_64 I J Z a b)) (as := [.ref a, .ref b]) (rest := []) (d_64 a b ha hb) ?_ rfl rfl rfl rfl rfl ha rfl rfl rfl rfl
          show w_R xs Ln 63 (55, [(2, .int 1), (0, .ref a), (1, .ref b)], [], (i_64 I J Z a b, J, kR w rem, z_64 I J Z a b), 0, 0) _
          refine w_R.ret 2 (.inl (some (.int 1))) (i_64 I J Z a b, J, kR w rem, z_64 I J Z a b) ?_ (fun x_ Q_ k_ => ⟨trivial, Or.inr rfl, ⟨Nat.le_of_ble_eq_true rfl, Nat.le_of_ble_eq_true rfl⟩, k_⟩)
          exact ⟨by rw [show v_63 I J Z a b = true from by unfold v_63; rw [if_pos h1, if_neg h2, if_pos h3, if_pos h4]] <;> rfl, by rw [show i_63 I J Z a b = (i_64 I J Z a b) from by unfold i_63; rw [if_pos h1, if_neg h2, if_pos h3, if_pos h4], show z_63 I J Z a b = (z_64 I J Z a b) from by unfold z_63; rw [if_pos h1, if_neg h2, if_pos h3, if_pos h4]]⟩
def v_69 (I : Nat → Nat → Int32) (J : Nat → Nat → Int64) (Z : Nat → Nat → Bool) (i : Nat) (x : Int32) : Int32 := if x = 0 then I (35 + 2 * i) 0 else if x = 1 then I (35 + 2 * i) 1 else if x = 2 then I (35 + 2 * i) 2 else if x = 3 then I (35 + 2 * i) 3 else if x = 4 then I (35 + 2 * i) 4 else (-1)
theorem d_69 (i : Nat) (x : Int32) (hi : i < 50) : w_R xs Ln 69 (0, [(0, .ref (35 + 2 * i)), (1, .int x)], [], (I, J, kR w rem, Z), 0, 0) (fun o s => o = .inl (some (.int (v_69 I J Z i x))) ∧ s = (I, J, kR w rem, Z)) := by
  refine w_R.go (c' := (if x.toInt < 0 ∨ 4 < x.toInt then 61 else i_tg 1 ((#[35, 40, 45, 50, 55] : Array Int).getD (x.toInt - 0).toNat 0), [(0, .ref (35 + 2 * i)), (1, .int x)], [], (I, J, kR w rem, Z), 0, 0)) 2 ?_ (fun m_ x_ Q_ k_ => ⟨trivial, trivial, k_⟩)
  by_cases h1 : x = 0
  · rw [show (if x.toInt < 0 ∨ 4 < x.toInt then 61 else i_tg 1 ((#[35, 40, 45, 50, 55] : Array Int).getD (x.toInt - 0).toNat 0)) = 36 by rw [h1]; rfl]
    refine w_R.ret 3 (.inl (some (.int (I (35 + 2 * i) 0)))) (I, J, kR w rem, Z) ?_ (fun x_ Q_ k_ => ⟨trivial, ⟨(sh_let hi), trivial⟩, trivial, ⟨Nat.le_of_ble_eq_true rfl, Nat.le_of_ble_eq_true rfl⟩, k_⟩)
    exact ⟨by rw [show v_69 I J Z i x = (I (35 + 2 * i) 0) from by unfold v_69; rw [if_pos h1]] <;> rfl, rfl⟩
  by_cases h2 : x = 1
  · rw [show (if x.toInt < 0 ∨ 4 < x.toInt then 61 else i_tg 1 ((#[35, 40, 45, 50, 55] : Array Int).getD (x.toInt - 0).toNat 0)) = 41 by rw [h2]; rfl]
    refine w_R.ret 3 (.inl (some (.int (I (35 + 2 * i) 1)))) (I, J, kR w rem, Z) ?_ (fun x_ Q_ k_ => ⟨trivial, ⟨(sh_let hi), trivial⟩, trivial, ⟨Nat.le_of_ble_eq_true rfl, Nat.le_of_ble_eq_true rfl⟩, k_⟩)
    exact ⟨by rw [show v_69 I J Z i x = (I (35 + 2 * i) 1) from by unfold v_69; rw [if_neg h1, if_pos h2]] <;> rfl, rfl⟩
  by_cases h3 : x = 2
  · rw [show (if x.toInt < 0 ∨ 4 < x.toInt then 61 else i_tg 1 ((#[35, 40, 45, 50, 55] : Array Int).getD (x.toInt - 0).toNat 0)) = 46 by rw [h3]; rfl]
    refine w_R.ret 3 (.inl (some (.int (I (35 + 2 * i) 2)))) (I, J, kR w rem, Z) ?_ (fun x_ Q_ k_ => ⟨trivial, ⟨(sh_let hi), trivial⟩, trivial, ⟨Nat.le_of_ble_eq_true rfl, Nat.le_of_ble_eq_true rfl⟩, k_⟩)
    exact ⟨by rw [show v_69 I J Z i x = (I (35 + 2 * i) 2) from by unfold v_69; rw [if_neg h1, if_neg h2, if_pos h3]] <;> rfl, rfl⟩
  by_cases h4 : x = 3
  · rw [show (if x.toInt < 0 ∨ 4 < x.toInt then 61 else i_tg 1 ((#[35, 40, 45, 50, 55] : Array Int).getD (x.toInt - 0).toNat 0)) = 51 by rw [h4]; rfl]
    refine w_R.ret 3 (.inl (some (.int (I (35 + 2 * i) 3)))) (I, J, kR w rem, Z) ?_ (fun x_ Q_ k_ => ⟨trivial, ⟨(sh_let hi), trivial⟩, trivial, ⟨Nat.le_of_ble_eq_true rfl, Nat.le_of_ble_eq_true rfl⟩, k_⟩)
    exact ⟨by rw [show v_69 I J Z i x = (I (35 + 2 * i) 3) from by unfold v_69; rw [if_neg h1, if_neg h2, if_neg h3, if_pos h4]] <;> rfl, rfl⟩
  by_cases h5 : x = 4
  · rw [show (if x.toInt < 0 ∨ 4 < x.toInt then 61 else i_tg 1 ((#[35, 40, 45, 50, 55] : Array Int).getD (x.toInt - 0).toNat 0)) = 56 by rw [h5]; rfl]
    refine w_R.ret 3 (.inl (some (.int (I (35 + 2 * i) 4)))) (I, J, kR w rem, Z) ?_ (fun x_ Q_ k_ => ⟨trivial, ⟨(sh_let hi), trivial⟩, trivial, ⟨Nat.le_of_ble_eq_true rfl, Nat.le_of_ble_eq_true rfl⟩, k_⟩)
    exact ⟨by rw [show v_69 I J Z i x = (I (35 + 2 * i) 4) from by unfold v_69; rw [if_neg h1, if_neg h2, if_neg h3, if_neg h4, if_pos h5]] <;> rfl, rfl⟩
  rw [if_pos (l_out (x := x) (a := 4) (n := 5) (by omega) rfl (by intro k hk; (rcases k with _ | _ | _ | _ | _ | k) <;> first | assumption | omega))]
  refine w_R.ret 2 (.inl (some (.int (-1)))) (I, J, kR w rem, Z) ?_ (fun x_ Q_ k_ => ⟨trivial, trivial, ⟨Nat.le_of_ble_eq_true rfl, Nat.le_of_ble_eq_true rfl⟩, k_⟩)
  exact ⟨by rw [show v_69 I J Z i x = (-1) from by unfold v_69; rw [if_neg h1, if_neg h2, if_neg h3, if_neg h4, if_neg h5]] <;> rfl, rfl⟩
def v_103 (I : Nat → Nat → Int32) (J : Nat → Nat → Int64) (Z : Nat → Nat → Bool) (r : Nat) (u : Nat) (x : Int32) : Int32 := if x = 0 then I (164 + 29 * r + u) 3 else if x = 1 then I (164 + 29 * r + u) 2 else if x = 2 then I (164 + 29 * r + u) 4 else if x = 3 then I (164 + 29 * r + u) 5 else if x = 4 then if (v_101 I J Z (164 + 29 * r + u)) = true then 0 else 1 else (-1)
theorem d_103 (r : Nat) (u : Nat) (x : Int32) (hr : r < 2) (hu : u < 6) : w_R xs Ln 103 (0, [(0, .ref (164 + 29 * r + u)), (1, .int x)], [], (I, J, kR w rem, Z), 0, 0) (fun o s => o = .inl (some (.int (v_103 I J Z r u x))) ∧ s = (I, J, kR w rem, Z)) := by
  refine w_R.go (c' := (if x.toInt < 0 ∨ 4 < x.toInt then 69 else i_tg 1 ((#[35, 40, 45, 50, 55] : Array Int).getD (x.toInt - 0).toNat 0), [(0, .ref (164 + 29 * r + u)), (1, .int x)], [], (I, J, kR w rem, Z), 0, 0)) 2 ?_ (fun m_ x_ Q_ k_ => ⟨trivial, trivial, k_⟩)
  by_cases h1 : x = 0
  · rw [show (if x.toInt < 0 ∨ 4 < x.toInt then 69 else i_tg 1 ((#[35, 40, 45, 50, 55] : Array Int).getD (x.toInt - 0).toNat 0)) = 36 by rw [h1]; rfl]
    refine w_R.ret 3 (.inl (some (.int (I (164 + 29 * r + u) 3)))) (I, J, kR w rem, Z) ?_ (fun x_ Q_ k_ => ⟨trivial, ⟨(sh_sight hr hu), trivial⟩, trivial, ⟨Nat.le_of_ble_eq_true rfl, Nat.le_of_ble_eq_true rfl⟩, k_⟩)
    exact ⟨by rw [show v_103 I J Z r u x = (I (164 + 29 * r + u) 3) from by unfold v_103; rw [if_pos h1]] <;> rfl, rfl⟩
  by_cases h2 : x = 1
  · rw [show (if x.toInt < 0 ∨ 4 < x.toInt then 69 else i_tg 1 ((#[35, 40, 45, 50, 55] : Array Int).getD (x.toInt - 0).toNat 0)) = 41 by rw [h2]; rfl]
    refine w_R.ret 3 (.inl (some (.int (I (164 + 29 * r + u) 2)))) (I, J, kR w rem, Z) ?_ (fun x_ Q_ k_ => ⟨trivial, ⟨(sh_sight hr hu), trivial⟩, trivial, ⟨Nat.le_of_ble_eq_true rfl, Nat.le_of_ble_eq_true rfl⟩, k_⟩)
    exact ⟨by rw [show v_103 I J Z r u x = (I (164 + 29 * r + u) 2) from by unfold v_103; rw [if_neg h1, if_pos h2]] <;> rfl, rfl⟩
  by_cases h3 : x = 2
  · rw [show (if x.toInt < 0 ∨ 4 < x.toInt then 69 else i_tg 1 ((#[35, 40, 45, 50, 55] : Array Int).getD (x.toInt - 0).toNat 0)) = 46 by rw [h3]; rfl]
    refine w_R.ret 3 (.inl (some (.int (I (164 + 29 * r + u) 4)))) (I, J, kR w rem, Z) ?_ (fun x_ Q_ k_ => ⟨trivial, ⟨(sh_sight hr hu), trivial⟩, trivial, ⟨Nat.le_of_ble_eq_true rfl, Nat.le_of_ble_eq_true rfl⟩, k_⟩)
    exact ⟨by rw [show v_103 I J Z r u x = (I (164 + 29 * r + u) 4) from by unfold v_103; rw [if_neg h1, if_neg h2, if_pos h3]] <;> rfl, rfl⟩
  by_cases h4 : x = 3
  · rw [show (if x.toInt < 0 ∨ 4 < x.toInt then 69 else i_tg 1 ((#[35, 40, 45, 50, 55] : Array Int).getD (x.toInt - 0).toNat 0)) = 51 by rw [h4]; rfl]
    refine w_R.ret 3 (.inl (some (.int (I (164 + 29 * r + u) 5)))) (I, J, kR w rem, Z) ?_ (fun x_ Q_ k_ => ⟨trivial, ⟨(sh_sight hr hu), trivial⟩, trivial, ⟨Nat.le_of_ble_eq_true rfl, Nat.le_of_ble_eq_true rfl⟩, k_⟩)
    exact ⟨by rw [show v_103 I J Z r u x = (I (164 + 29 * r + u) 5) from by unfold v_103; rw [if_neg h1, if_neg h2, if_neg h3, if_pos h4]] <;> rfl, rfl⟩
  by_cases h5 : x = 4
  · rw [show (if x.toInt < 0 ∨ 4 < x.toInt then 69 else i_tg 1 ((#[35, 40, 45, 50, 55] : Array Int).getD (x.toInt - 0).toNat 0)) = 56 by rw [h5]; rfl]
    refine w_R.go (c' := (57, [(0, .ref (164 + 29 * r + u)), (1, .int x)], [.ref (164 + 29 * r + u)], (I, J, kR w rem, Z), 0, 0)) 1 ?_ (fun m_ x_ Q_ k_ => ⟨trivial, k_⟩)
    refine w_R.callV (ce' := 0) (sl' := 0) (v := some (.int (s_b (v_101 I J Z (164 + 29 * r + u))))) (σ' := (I, J, kR w rem, Z)) (as := [.ref (164 + 29 * r + u)]) (rest := []) (d_101 (164 + 29 * r + u) (sh_sight hr hu)) ?_ rfl rfl rfl rfl rfl (sh_sight hr hu) rfl rfl rfl rfl
    show w_R xs Ln 103 (60, [(0, .ref (164 + 29 * r + u)), (1, .int x)], [.int (s_b (v_101 I J Z (164 + 29 * r + u)))], (I, J, kR w rem, Z), 0, 0) _
    refine w_R.go (c' := (i_br .eq (s_b (v_101 I J Z (164 + 29 * r + u))) 0 67 63, [(0, .ref (164 + 29 * r + u)), (1, .int x)], [], (I, J, kR w rem, Z), 0, 0)) 1 ?_ (fun m_ x_ Q_ k_ => ⟨trivial, k_⟩)
    refine w_R.br_z (fun h6 => ?_) (fun h6 => ?_)
    · replace h6 := Bool.eq_false_iff.mp h6
      refine w_R.ret 2 (.inl (some (.int 1))) (I, J, kR w rem, Z) ?_ (fun x_ Q_ k_ => ⟨trivial, trivial, ⟨Nat.le_of_ble_eq_true rfl, Nat.le_of_ble_eq_true rfl⟩, k_⟩)
      exact ⟨by rw [show v_103 I J Z r u x = 1 from by unfold v_103; rw [if_neg h1, if_neg h2, if_neg h3, if_neg h4, if_pos h5, if_neg h6]] <;> rfl, rfl⟩
    · refine w_R.ret 3 (.inl (some (.int 0))) (I, J, kR w rem, Z) ?_ (fun x_ Q_ k_ => ⟨trivial, trivial, trivial, ⟨Nat.le_of_ble_eq_true rfl, Nat.le_of_ble_eq_true rfl⟩, k_⟩)
      exact ⟨by rw [show v_103 I J Z r u x = 0 from by unfold v_103; rw [if_neg h1, if_neg h2, if_neg h3, if_neg h4, if_pos h5, if_pos h6]] <;> rfl, rfl⟩
  rw [if_pos (l_out (x := x) (a := 4) (n := 5) (by omega) rfl (by intro k hk; (rcases k with _ | _ | _ | _ | _ | k) <;> first | assumption | omega))]
  refine w_R.ret 2 (.inl (some (.int (-1)))) (I, J, kR w rem, Z) ?_ (fun x_ Q_ k_ => ⟨trivial, trivial, ⟨Nat.le_of_ble_eq_true rfl, Nat.le_of_ble_eq_true rfl⟩, k_⟩)
  exact ⟨by rw [show v_103 I J Z r u x = (-1) from by unfold v_103; rw [if_neg h1, if_neg h2, if_neg h3, if_neg h4, if_neg h5]] <;> rfl, rfl⟩
end Small3
end
section
section Small4
variable {xs : Nat → Int32} {Ln : Nat} {I : Nat → Nat → Int32} {J : Nat → Nat → Int64} {Z : Nat → Nat → Bool} {w : Nat → Nat} {rem : Nat}
def l_rg (x : Int32) (a b : Nat) : Bool := decide ((a : Int) ≤ x.toInt ∧ x.toInt < (b : Int))
theorem l_rg0 (x : Int32) (n : Nat) : l_in x n = l_rg x 0 n := rfl
theorem l_no {x lo hi : Int32} {a b : Nat} (c : l_rg x a b = false) (h0 : ¬ x < lo) (h1 : ¬ hi < x) (e0 : lo.toInt = (a : Int)) (e1 : hi.toInt + 1 = (b : Int)) : False := by
  have c := of_decide_eq_false c
  rw [Int32.lt_iff_toInt_lt] at h0 h1
  omega
theorem l_sub {x : Int32} {a b c d : Nat} (h : l_rg x a b = false) (h1 : a ≤ c) (h2 : d ≤ b) : l_rg x c d = false := by
  have h := of_decide_eq_false h
  exact decide_eq_false (by omega)
theorem l_of2 {x : Int32} {a b : Nat} (h : l_rg x a b = true) : ∃ k, (a ≤ k ∧ k < b) ∧ x = Int32.ofNat k := by
  have h := of_decide_eq_true h
  obtain ⟨k, hk, e⟩ := n_of (x := x) (n := b) (by omega) h.2
  refine ⟨k, ⟨?_, hk⟩, e⟩
  have hb : x.toInt < 2 ^ 31 := by have := Int32.toInt_lt x; omega
  have h0 : 0 ≤ x.toInt := by omega
  obtain ⟨k', hk', e'⟩ := n_of (x := x) (n := 2 ^ 31) h0 (by omega)
  have h1 : (Int32.ofNat k').toInt = k' := n_int hk'
  rw [← e'] at h1
  by_cases hk2 : k < 2 ^ 31
  · have h2 : (Int32.ofNat k).toInt = k := n_int hk2
    rw [← e] at h2
    omega
  · omega
theorem d_28F (x : Int32) (h : l_rg x 0 12 = false) : w_R xs Ln 28 (0, [(0, .int x)], [], (I, J, kR w rem, Z), 0, 0) (fun o s => o = .inl (some (.int (s_b false))) ∧ s = (I, J, kR w rem, Z)) := by
  have h1 := d_28 (xs := xs) (Ln := Ln) (I := I) (J := J) (Z := Z) (w := w) (rem := rem) x
  rw [l_rg0, h] at h1
  exact h1
theorem d_29F (x : Int32) (h : l_rg x 0 4 = false) : w_R xs Ln 29 (0, [(0, .int x)], [], (I, J, kR w rem, Z), 0, 0) (fun o s => o = .inl (some (.int (s_b false))) ∧ s = (I, J, kR w rem, Z)) := by
  have h1 := d_29 (xs := xs) (Ln := Ln) (I := I) (J := J) (Z := Z) (w := w) (rem := rem) x
  rw [l_rg0, h] at h1
  exact h1
theorem d_30F (x : Int32) (h : l_rg x 0 16 = false) : w_R xs Ln 30 (0, [(0, .int x)], [], (I, J, kR w rem, Z), 0, 0) (fun o s => o = .inl (some (.int (s_b false))) ∧ s = (I, J, kR w rem, Z)) := by
  have h1 := d_30 (xs := xs) (Ln := Ln) (I := I) (J := J) (Z := Z) (w := w) (rem := rem) x
  rw [l_rg0, h] at h1
  exact h1
theorem d_31F (x : Int32) (h : l_rg x 0 6 = false) : w_R xs Ln 31 (0, [(0, .int x)], [], (I, J, kR w rem, Z), 0, 0) (fun o s => o = .inl (some (.int (s_b false))) ∧ s = (I, J, kR w rem, Z)) := by
  have h1 := d_31 (xs := xs) (Ln := Ln) (I := I) (J := J) (Z := Z) (w := w) (rem := rem) x
  rw [l_rg0, h] at h1
  exact h1
theorem d_32F (x : Int32) (h : l_rg x 0 2 = false) : w_R xs Ln 32 (0, [(0, .int x)], [], (I, J, kR w rem, Z), 0, 0) (fun o s => o = .inl (some (.int (s_b false))) ∧ s = (I, J, kR w rem, Z)) := by
  have h1 := d_32 (xs := xs) (Ln := Ln) (I := I) (J := J) (Z := Z) (w := w) (rem := rem) x
  rw [l_rg0, h] at h1
  exact h1
theorem d_33F (x : Int32) (h : l_rg x 0 16 = false) : w_R xs Ln 33 (0, [(0, .int x)], [], (I, J, kR w rem, Z), 0, 0) (fun o s => o = .inl (some (.int (s_b false))) ∧ s = (I, J, kR w rem, Z)) := by
  have h1 := d_33 (xs := xs) (Ln := Ln) (I := I) (J := J) (Z := Z) (w := w) (rem := rem) x
  rw [l_rg0, h] at h1
  exact h1
theorem d_106T (k a b : Nat) (h1 : a ≤ k) (h2 : k ≤ b) (h3 : b < 2 ^ 31) : w_R xs Ln 106 (0, [(0, .int (Int32.ofNat k)), (1, .int (Int32.ofNat a)), (2, .int (Int32.ofNat b))], [], (I, J, kR w rem, Z), 0, 0) (fun o s => o = .inl (some (.int (s_b true))) ∧ s = (I, J, kR w rem, Z)) := by
  have h := d_106 (xs := xs) (Ln := Ln) (I := I) (J := J) (Z := Z) (w := w) (rem := rem) (Int32.ofNat k) (Int32.ofNat a) (Int32.ofNat b)
  rw [show v_106 I J Z (Int32.ofNat k) (Int32.ofNat a) (Int32.ofNat b) = true from by unfold v_106; rw [if_neg (mt (n_lt (by omega) (by omega)).mp (by omega)), if_neg (mt (n_lt (by omega) (by omega)).mp (by omega))]] at h
  exact h
theorem v_106L (x : Int32) (a b : Nat) (ha : a < 2 ^ 31) (hb : b < 2 ^ 31) : v_106 I J Z x (Int32.ofNat a) (Int32.ofNat b) = l_rg x a (b + 1) := by
  unfold v_106 l_rg
  by_cases h1 : x < Int32.ofNat a
  · rw [if_pos h1]; rw [Int32.lt_iff_toInt_lt, n_int ha] at h1; exact (decide_eq_false (by omega)).symm
  · rw [if_neg h1]; rw [Int32.lt_iff_toInt_lt, n_int ha] at h1
    by_cases h2 : Int32.ofNat b < x
    · rw [if_pos h2]; rw [Int32.lt_iff_toInt_lt, n_int hb] at h2; exact (decide_eq_false (by omega)).symm
    · rw [if_neg h2]; rw [Int32.lt_iff_toInt_lt, n_int hb] at h2; exact (decide_eq_true (by omega)).symm
theorem d_106L (x : Int32) (a b : Nat) (ha : a < 2 ^ 31) (hb : b < 2 ^ 31) : w_R xs Ln 106 (0, [(0, .int x), (1, .int (Int32.ofNat a)), (2, .int (Int32.ofNat b))], [], (I, J, kR w rem, Z), 0, 0) (fun o s => o = .inl (some (.int (s_b (l_rg x a (b + 1))))) ∧ s = (I, J, kR w rem, Z)) := by
  have h := d_106 (xs := xs) (Ln := Ln) (I := I) (J := J) (Z := Z) (w := w) (rem := rem) x (Int32.ofNat a) (Int32.ofNat b)
  rw [v_106L x a b ha hb] at h
  exact h
theorem d_106F (x : Int32) (a b : Nat) (ha : a < 2 ^ 31) (hb : b < 2 ^ 31) (hx : l_rg x a (b + 1) = false) : w_R xs Ln 106 (0, [(0, .int x), (1, .int (Int32.ofNat a)), (2, .int (Int32.ofNat b))], [], (I, J, kR w rem, Z), 0, 0) (fun o s => o = .inl (some (.int (s_b false))) ∧ s = (I, J, kR w rem, Z)) := by
  have h := d_106L (xs := xs) (Ln := Ln) (I := I) (J := J) (Z := Z) (w := w) (rem := rem) x a b ha hb
  rw [hx] at h
  exact h
theorem d_107N (k : Nat) (hk : k < 12) : w_R xs Ln 107 (0, [(0, .int (Int32.ofNat k))], [], (I, J, kR w rem, Z), 0, 0) (fun o s => o = .inl (some (.int (s_b true))) ∧ s = (I, J, kR w rem, Z)) := by
  refine w_R.go (c' := (4, [(0, .int (Int32.ofNat k))], [.int 11, .int 0, .int (Int32.ofNat k)], (I, J, kR w rem, Z), 0, 0)) 3 ?_ (fun m_ x_ Q_ k_ => ⟨trivial, trivial, trivial, k_⟩)
  refine w_R.callS (ce' := 0) (sl' := 0) (v := some (.int (s_b true))) (σ' := (I, J, kR w rem, Z)) (as := [.int (Int32.ofNat k), .int 0, .int 11]) (rest := []) (d_106T k 0 11 (by omega) (by omega) (by decide)) ?_ rfl rfl rfl rfl rfl rfl rfl rfl rfl
  show w_R xs Ln 107 (7, [(0, .int (Int32.ofNat k))], [.int (s_b true)], (I, J, kR w rem, Z), 0, 0) _
  refine w_R.ret 1 (.inl (some (.int (s_b true)))) (I, J, kR w rem, Z) ?_ (fun x_ Q_ k_ => ⟨Or.inr rfl, ⟨Nat.le_of_ble_eq_true rfl, Nat.le_of_ble_eq_true rfl⟩, k_⟩)
  exact ⟨rfl, rfl⟩
theorem d_107F (x : Int32) (hx : l_rg x 0 12 = false) : w_R xs Ln 107 (0, [(0, .int x)], [], (I, J, kR w rem, Z), 0, 0) (fun o s => o = .inl (some (.int (s_b false))) ∧ s = (I, J, kR w rem, Z)) := by
  refine w_R.go (c' := (4, [(0, .int x)], [.int 11, .int 0, .int x], (I, J, kR w rem, Z), 0, 0)) 3 ?_ (fun m_ x_ Q_ k_ => ⟨trivial, trivial, trivial, k_⟩)
  refine w_R.callS (ce' := 0) (sl' := 0) (v := some (.int (s_b false))) (σ' := (I, J, kR w rem, Z)) (as := [.int x, .int 0, .int 11]) (rest := []) (d_106F x 0 11 (by decide) (by decide) hx) ?_ rfl rfl rfl rfl rfl rfl rfl rfl rfl
  show w_R xs Ln 107 (7, [(0, .int x)], [.int (s_b false)], (I, J, kR w rem, Z), 0, 0) _
  refine w_R.ret 1 (.inl (some (.int (s_b false)))) (I, J, kR w rem, Z) ?_ (fun x_ Q_ k_ => ⟨Or.inl rfl, ⟨Nat.le_of_ble_eq_true rfl, Nat.le_of_ble_eq_true rfl⟩, k_⟩)
  exact ⟨rfl, rfl⟩
theorem d_107 (x : Int32)  : w_R xs Ln 107 (0, [(0, .int x)], [], (I, J, kR w rem, Z), 0, 0) (fun o s => o = .inl (some (.int (s_b (l_in x 12)))) ∧ s = (I, J, kR w rem, Z)) := by
  refine w_R.go (c' := (4, [(0, .int x)], [.int 11, .int 0, .int x], (I, J, kR w rem, Z), 0, 0)) 3 ?_ (fun m_ x_ Q_ k_ => ⟨trivial, trivial, trivial, k_⟩)
  refine w_R.callS (ce' := 0) (sl' := 0) (v := some (.int (s_b (l_rg x 0 (11 + 1))))) (σ' := (I, J, kR w rem, Z)) (as := [.int x, .int 0, .int 11]) (rest := []) (d_106L x 0 11 (by decide) (by decide)) ?_ rfl rfl rfl rfl rfl rfl rfl rfl rfl
  show w_R xs Ln 107 (7, [(0, .int x)], [.int (s_b (l_rg x 0 (11 + 1)))], (I, J, kR w rem, Z), 0, 0) _
  refine w_R.ret 1 (.inl (some (.int (s_b (l_rg x 0 (11 + 1)))))) (I, J, kR w rem, Z) ?_ (fun x_ Q_ k_ => ⟨l_b _, ⟨Nat.le_of_ble_eq_true rfl, Nat.le_of_ble_eq_true rfl⟩, k_⟩)
  exact ⟨rfl, rfl⟩
theorem d_108N (k : Nat) (hk : k < 2) : w_R xs Ln 108 (0, [(0, .int (Int32.ofNat k))], [], (I, J, kR w rem, Z), 0, 0) (fun o s => o = .inl (some (.int (s_b true))) ∧ s = (I, J, kR w rem, Z)) := by
  refine w_R.go (c' := (3, [(0, .int (Int32.ofNat k))], [.int 1, .int 0, .int (Int32.ofNat k)], (I, J, kR w rem, Z), 0, 0)) 3 ?_ (fun m_ x_ Q_ k_ => ⟨trivial, trivial, trivial, k_⟩)
  refine w_R.callS (ce' := 0) (sl' := 0) (v := some (.int (s_b true))) (σ' := (I, J, kR w rem, Z)) (as := [.int (Int32.ofNat k), .int 0, .int 1]) (rest := []) (d_106T k 0 1 (by omega) (by omega) (by decide)) ?_ rfl rfl rfl rfl rfl rfl rfl rfl rfl
  show w_R xs Ln 108 (6, [(0, .int (Int32.ofNat k))], [.int (s_b true)], (I, J, kR w rem, Z), 0, 0) _
  refine w_R.ret 1 (.inl (some (.int (s_b true)))) (I, J, kR w rem, Z) ?_ (fun x_ Q_ k_ => ⟨Or.inr rfl, ⟨Nat.le_of_ble_eq_true rfl, Nat.le_of_ble_eq_true rfl⟩, k_⟩)
  exact ⟨rfl, rfl⟩
theorem d_108F (x : Int32) (hx : l_rg x 0 2 = false) : w_R xs Ln 108 (0, [(0, .int x)], [], (I, J, kR w rem, Z), 0, 0) (fun o s => o = .inl (some (.int (s_b false))) ∧ s = (I, J, kR w rem, Z)) := by
  refine w_R.go (c' := (3, [(0, .int x)], [.int 1, .int 0, .int x], (I, J, kR w rem, Z), 0, 0)) 3 ?_ (fun m_ x_ Q_ k_ => ⟨trivial, trivial, trivial, k_⟩)
  refine w_R.callS (ce' := 0) (sl' := 0) (v := some (.int (s_b false))) (σ' := (I, J, kR w rem, Z)) (as := [.int x, .int 0, .int 1]) (rest := []) (d_106F x 0 1 (by decide) (by decide) hx) ?_ rfl rfl rfl rfl rfl rfl rfl rfl rfl
  show w_R xs Ln 108 (6, [(0, .int x)], [.int (s_b false)], (I, J, kR w rem, Z), 0, 0) _
  refine w_R.ret 1 (.inl (some (.int (s_b false)))) (I, J, kR w rem, Z) ?_ (fun x_ Q_ k_ => ⟨Or.inl rfl, ⟨Nat.le_of_ble_eq_true rfl, Nat.le_of_ble_eq_true rfl⟩, k_⟩)
  exact ⟨rfl, rfl⟩
theorem d_108 (x : Int32)  : w_R xs Ln 108 (0, [(0, .int x)], [], (I, J, kR w rem, Z), 0, 0) (fun o s => o = .inl (some (.int (s_b (l_in x 2)))) ∧ s = (I, J, kR w rem, Z)) := by
  refine w_R.go (c' := (3, [(0, .int x)], [.int 1, .int 0, .int x], (I, J, kR w rem, Z), 0, 0)) 3 ?_ (fun m_ x_ Q_ k_ => ⟨trivial, trivial, trivial, k_⟩)
  refine w_R.callS (ce' := 0) (sl' := 0) (v := some (.int (s_b (l_rg x 0 (1 + 1))))) (σ' := (I, J, kR w rem, Z)) (as := [.int x, .int 0, .int 1]) (rest := []) (d_106L x 0 1 (by decide) (by decide)) ?_ rfl rfl rfl rfl rfl rfl rfl rfl rfl
  show w_R xs Ln 108 (6, [(0, .int x)], [.int (s_b (l_rg x 0 (1 + 1)))], (I, J, kR w rem, Z), 0, 0) _
  refine w_R.ret 1 (.inl (some (.int (s_b (l_rg x 0 (1 + 1)))))) (I, J, kR w rem, Z) ?_ (fun x_ Q_ k_ => ⟨l_b _, ⟨Nat.le_of_ble_eq_true rfl, Nat.le_of_ble_eq_true rfl⟩, k_⟩)
  exact ⟨rfl, rfl⟩
theorem d_109N (k : Nat) (hk : k < 6) : w_R xs Ln 109 (0, [(0, .int (Int32.ofNat k))], [], (I, J, kR w rem, Z), 0, 0) (fun o s => o = .inl (some (.int (s_b true))) ∧ s = (I, J, kR w rem, Z)) := by
  refine w_R.go (c' := (3, [(0, .int (Int32.ofNat k))], [.int 5, .int 0, .int (Int32.ofNat k)], (I, J, kR w rem, Z), 0, 0)) 3 ?_ (fun m_ x_ Q_ k_ => ⟨trivial, trivial, trivial, k_⟩)
  refine w_R.callS (ce' := 0) (sl' := 0) (v := some (.int (s_b true))) (σ' := (I, J, kR w rem, Z)) (as := [.int (Int32.ofNat k), .int 0, .int 5]) (rest := []) (d_106T k 0 5 (by omega) (by omega) (by decide)) ?_ rfl rfl rfl rfl rfl rfl rfl rfl rfl
  show w_R xs Ln 109 (6, [(0, .int (Int32.ofNat k))], [.int (s_b true)], (I, J, kR w rem, Z), 0, 0) _
  refine w_R.ret 1 (.inl (some (.int (s_b true)))) (I, J, kR w rem, Z) ?_ (fun x_ Q_ k_ => ⟨Or.inr rfl, ⟨Nat.le_of_ble_eq_true rfl, Nat.le_of_ble_eq_true rfl⟩, k_⟩)
  exact ⟨rfl, rfl⟩
theorem d_109F (x : Int32) (hx : l_rg x 0 6 = false) : w_R xs Ln 109 (0, [(0, .int x)], [], (I, J, kR w rem, Z), 0, 0) (fun o s => o = .inl (some (.int (s_b false))) ∧ s = (I, J, kR w rem, Z)) := by
  refine w_R.go (c' := (3, [(0, .int x)], [.int 5, .int 0, .int x], (I, J, kR w rem, Z), 0, 0)) 3 ?_ (fun m_ x_ Q_ k_ => ⟨trivial, trivial, trivial, k_⟩)
  refine w_R.callS (ce' := 0) (sl' := 0) (v := some (.int (s_b false))) (σ' := (I, J, kR w rem, Z)) (as := [.int x, .int 0, .int 5]) (rest := []) (d_106F x 0 5 (by decide) (by decide) hx) ?_ rfl rfl rfl rfl rfl rfl rfl rfl rfl
  show w_R xs Ln 109 (6, [(0, .int x)], [.int (s_b false)], (I, J, kR w rem, Z), 0, 0) _
  refine w_R.ret 1 (.inl (some (.int (s_b false)))) (I, J, kR w rem, Z) ?_ (fun x_ Q_ k_ => ⟨Or.inl rfl, ⟨Nat.le_of_ble_eq_true rfl, Nat.le_of_ble_eq_true rfl⟩, k_⟩)
  exact ⟨rfl, rfl⟩
theorem d_109 (x : Int32)  : w_R xs Ln 109 (0, [(0, .int x)], [], (I, J, kR w rem, Z), 0, 0) (fun o s => o = .inl (some (.int (s_b (l_in x 6)))) ∧ s = (I, J, kR w rem, Z)) := by
  refine w_R.go (c' := (3, [(0, .int x)], [.int 5, .int 0, .int x], (I, J, kR w rem, Z), 0, 0)) 3 ?_ (fun m_ x_ Q_ k_ => ⟨trivial, trivial, trivial, k_⟩)
  refine w_R.callS (ce' := 0) (sl' := 0) (v := some (.int (s_b (l_rg x 0 (5 + 1))))) (σ' := (I, J, kR w rem, Z)) (as := [.int x, .int 0, .int 5]) (rest := []) (d_106L x 0 5 (by decide) (by decide)) ?_ rfl rfl rfl rfl rfl rfl rfl rfl rfl
  show w_R xs Ln 109 (6, [(0, .int x)], [.int (s_b (l_rg x 0 (5 + 1)))], (I, J, kR w rem, Z), 0, 0) _
  refine w_R.ret 1 (.inl (some (.int (s_b (l_rg x 0 (5 + 1)))))) (I, J, kR w rem, Z) ?_ (fun x_ Q_ k_ => ⟨l_b _, ⟨Nat.le_of_ble_eq_true rfl, Nat.le_of_ble_eq_true rfl⟩, k_⟩)
  exact ⟨rfl, rfl⟩
theorem d_110N (k : Nat) (hk : k < 4) : w_R xs Ln 110 (0, [(0, .int (Int32.ofNat k))], [], (I, J, kR w rem, Z), 0, 0) (fun o s => o = .inl (some (.int (s_b true))) ∧ s = (I, J, kR w rem, Z)) := by
  refine w_R.go (c' := (3, [(0, .int (Int32.ofNat k))], [.int 3, .int 0, .int (Int32.ofNat k)], (I, J, kR w rem, Z), 0, 0)) 3 ?_ (fun m_ x_ Q_ k_ => ⟨trivial, trivial, trivial, k_⟩)
  refine w_R.callS (ce' := 0) (sl' := 0) (v := some (.int (s_b true))) (σ' := (I, J, kR w rem, Z)) (as := [.int (Int32.ofNat k), .int 0, .int 3]) (rest := []) (d_106T k 0 3 (by omega) (by omega) (by decide)) ?_ rfl rfl rfl rfl rfl rfl rfl rfl rfl
  show w_R xs Ln 110 (6, [(0, .int (Int32.ofNat k))], [.int (s_b true)], (I, J, kR w rem, Z), 0, 0) _
  refine w_R.ret 1 (.inl (some (.int (s_b true)))) (I, J, kR w rem, Z) ?_ (fun x_ Q_ k_ => ⟨Or.inr rfl, ⟨Nat.le_of_ble_eq_true rfl, Nat.le_of_ble_eq_true rfl⟩, k_⟩)
  exact ⟨rfl, rfl⟩
theorem d_110F (x : Int32) (hx : l_rg x 0 4 = false) : w_R xs Ln 110 (0, [(0, .int x)], [], (I, J, kR w rem, Z), 0, 0) (fun o s => o = .inl (some (.int (s_b false))) ∧ s = (I, J, kR w rem, Z)) := by
  refine w_R.go (c' := (3, [(0, .int x)], [.int 3, .int 0, .int x], (I, J, kR w rem, Z), 0, 0)) 3 ?_ (fun m_ x_ Q_ k_ => ⟨trivial, trivial, trivial, k_⟩)
  refine w_R.callS (ce' := 0) (sl' := 0) (v := some (.int (s_b false))) (σ' := (I, J, kR w rem, Z)) (as := [.int x, .int 0, .int 3]) (rest := []) (d_106F x 0 3 (by decide) (by decide) hx) ?_ rfl rfl rfl rfl rfl rfl rfl rfl rfl
  show w_R xs Ln 110 (6, [(0, .int x)], [.int (s_b false)], (I, J, kR w rem, Z), 0, 0) _
  refine w_R.ret 1 (.inl (some (.int (s_b false)))) (I, J, kR w rem, Z) ?_ (fun x_ Q_ k_ => ⟨Or.inl rfl, ⟨Nat.le_of_ble_eq_true rfl, Nat.le_of_ble_eq_true rfl⟩, k_⟩)
  exact ⟨rfl, rfl⟩
theorem d_110 (x : Int32)  : w_R xs Ln 110 (0, [(0, .int x)], [], (I, J, kR w rem, Z), 0, 0) (fun o s => o = .inl (some (.int (s_b (l_in x 4)))) ∧ s = (I, J, kR w rem, Z)) := by
  refine w_R.go (c' := (3, [(0, .int x)], [.int 3, .int 0, .int x], (I, J, kR w rem, Z), 0, 0)) 3 ?_ (fun m_ x_ Q_ k_ => ⟨trivial, trivial, trivial, k_⟩)
  refine w_R.callS (ce' := 0) (sl' := 0) (v := some (.int (s_b (l_rg x 0 (3 + 1))))) (σ' := (I, J, kR w rem, Z)) (as := [.int x, .int 0, .int 3]) (rest := []) (d_106L x 0 3 (by decide) (by decide)) ?_ rfl rfl rfl rfl rfl rfl rfl rfl rfl
  show w_R xs Ln 110 (6, [(0, .int x)], [.int (s_b (l_rg x 0 (3 + 1)))], (I, J, kR w rem, Z), 0, 0) _
  refine w_R.ret 1 (.inl (some (.int (s_b (l_rg x 0 (3 + 1)))))) (I, J, kR w rem, Z) ?_ (fun x_ Q_ k_ => ⟨l_b _, ⟨Nat.le_of_ble_eq_true rfl, Nat.le_of_ble_eq_true rfl⟩, k_⟩)
  exact ⟨rfl, rfl⟩
end Small4
end
section
section Small5
variable {xs : Nat → Int32} {Ln : Nat} {I : Nat → Nat → Int32} {J : Nat → Nat → Int64} {Z : Nat → Nat → Bool} {w : Nat → Nat} {rem : Nat}
theorem b_25_0 (u : Int32) (x : Int32) (hu : l_rg u 0 6 = false) : w_R xs Ln 25 (0, [(0, .ref 1), (1, .int u), (2, .int x)], [], (I, J, kR w rem, Z), 0, 0) (fun o s => o = .inl (some (.int (-1))) ∧ s = (I, J, kR w rem, Z)) := by
  refine w_R.go (c' := (1, [(0, .ref 1), (1, .int u), (2, .int x)], [.int u], (I, J, kR w rem, Z), 0, 0)) 1 ?_ (fun m_ x_ Q_ k_ => ⟨trivial, k_⟩)
  refine w_R.callS (ce' := 0) (sl' := 0) (v := some (.int (s_b false))) (σ' := (I, J, kR w rem, Z)) (as := [.int u]) (rest := []) (d_31F u hu) ?_ rfl rfl rfl rfl rfl rfl rfl rfl rfl
  show w_R xs Ln 25 (4, [(0, .ref 1), (1, .int u), (2, .int x)], [.int (s_b false)], (I, J, kR w rem, Z), 0, 0) _
  refine w_R.ret 3 (.inl (some (.int (-1)))) (I, J, kR w rem, Z) ?_ (fun x_ Q_ k_ => ⟨trivial, trivial, trivial, ⟨Nat.le_of_ble_eq_true rfl, Nat.le_of_ble_eq_true rfl⟩, k_⟩)
  exact ⟨rfl, rfl⟩
theorem b_159_0 (u : Int32) (x : Int32) (hu : l_rg u 0 6 = false) : w_R xs Ln 159 (0, [(0, .ref 199), (1, .int u), (2, .int x)], [], (I, J, kR w rem, Z), 0, 0) (fun o s => o = .inl (some (.int (-1))) ∧ s = (s_up I 199 59 0, J, kR w rem, Z)) := by
  refine w_R.go (c' := (6, [(0, .ref 199), (1, .int u), (2, .int x)], [.int u], (s_up I 199 59 0, J, kR w rem, Z), 0, 0)) 4 ?_ (fun m_ x_ Q_ k_ => ⟨trivial, trivial, ⟨sh_199, trivial⟩, trivial, k_⟩)
  refine w_R.callS (ce' := 0) (sl' := 0) (v := some (.int (s_b false))) (σ' := (s_up I 199 59 0, J, kR w rem, Z)) (as := [.int u]) (rest := []) (d_109F u hu) ?_ rfl rfl rfl rfl rfl rfl rfl rfl rfl
  show w_R xs Ln 159 (9, [(0, .ref 199), (1, .int u), (2, .int x)], [.int (s_b false)], (s_up I 199 59 0, J, kR w rem, Z), 0, 0) _
  refine w_R.ret 3 (.inl (some (.int (-1)))) (s_up I 199 59 0, J, kR w rem, Z) ?_ (fun x_ Q_ k_ => ⟨trivial, trivial, trivial, ⟨Nat.le_of_ble_eq_true rfl, Nat.le_of_ble_eq_true rfl⟩, k_⟩)
  exact ⟨rfl, rfl⟩
def v_25 (I : Nat → Nat → Int32) (J : Nat → Nat → Int64) (Z : Nat → Nat → Bool) (u : Nat) (x : Int32) : Int32 := v_58 I J Z u x
theorem d_25 (u : Nat) (x : Int32) (hu : u < 6) : w_R xs Ln 25 (0, [(0, .ref 1), (1, .int (Int32.ofNat u)), (2, .int x)], [], (I, J, kR w rem, Z), 0, 0) (fun o s => o = .inl (some (.int (v_25 I J Z u x))) ∧ s = (I, J, kR w rem, Z)) := by
  refine w_R.go (c' := (1, [(0, .ref 1), (1, .int (Int32.ofNat u)), (2, .int x)], [.int (Int32.ofNat u)], (I, J, kR w rem, Z), 0, 0)) 1 ?_ (fun m_ x_ Q_ k_ => ⟨trivial, k_⟩)
  refine w_R.callS (ce' := 0) (sl' := 0) (v := some (.int (s_b true))) (σ' := (I, J, kR w rem, Z)) (as := [.int (Int32.ofNat u)]) (rest := []) (d_31N u (by omega)) ?_ rfl rfl rfl rfl rfl rfl rfl rfl rfl
  show w_R xs Ln 25 (4, [(0, .ref 1), (1, .int (Int32.ofNat u)), (2, .int x)], [.int (s_b true)], (I, J, kR w rem, Z), 0, 0) _
  refine w_R.go (c' := (13, [(0, .ref 1), (1, .int (Int32.ofNat u)), (2, .int x)], [.ref (kR w rem 11 (Int32.ofNat u).toNatClampNeg)], (I, J, kR w rem, Z), 0, 0)) 5 ?_ (fun m_ x_ Q_ k_ => ⟨trivial, trivial, ⟨sh_1, (Nat.succ_ne_zero 10)⟩, trivial, ⟨⟨_, sh_11, (n_in (a := u) (by omega) (by decide))⟩, (show kR w rem 11 (Int32.ofNat u).toNatClampNeg ≠ 0 by rw [n_cl (a := u) (by omega), r_amb (w := w) (rem := rem) (u := u) (by omega)]; omega)⟩, k_⟩)
  rw [n_cl (a := u) (by omega)]
  rw [r_amb (w := w) (rem := rem) (u := u) (by omega)]
  show w_R xs Ln 25 (13, [(0, .ref 1), (1, .int (Int32.ofNat u)), (2, .int x)], [.ref (135 + u)], (I, J, kR w rem, Z), 0, 0) _
  refine w_R.go (c' := (14, [(0, .ref 1), (1, .int (Int32.ofNat u)), (2, .int x)], [.int x, .ref (135 + u)], (I, J, kR w rem, Z), 0, 0)) 1 ?_ (fun m_ x_ Q_ k_ => ⟨trivial, k_⟩)
  refine w_R.callV (ce' := 0) (sl' := 0) (v := some (.int (v_58 I J Z u x))) (σ' := (I, J, kR w rem, Z)) (as := [.ref (135 + u), .int x]) (rest := []) (d_58 u x (by omega)) ?_ rfl rfl rfl rfl rfl (sh_amb (by omega)) rfl rfl rfl rfl
  show w_R xs Ln 25 (17, [(0, .ref 1), (1, .int (Int32.ofNat u)), (2, .int x)], [.int (v_58 I J Z u x)], (I, J, kR w rem, Z), 0, 0) _
  refine w_R.ret 2 (.inl (some (.int (v_58 I J Z u x)))) (I, J, kR w rem, Z) ?_ (fun x_ Q_ k_ => ⟨trivial, trivial, ⟨Nat.le_of_ble_eq_true rfl, Nat.le_of_ble_eq_true rfl⟩, k_⟩)
  exact ⟨by rw [show v_25 I J Z u x = (v_58 I J Z u x) from by unfold v_25; rfl] <;> rfl, rfl⟩
def v_159 (I : Nat → Nat → Int32) (J : Nat → Nat → Int64) (Z : Nat → Nat → Bool) (u : Nat) (x : Int32) : Int32 := if x = 0 then I 210 u else if x = 1 then I 208 u else if x = 2 then I 211 u else if x = 3 then I 214 u else if x = 4 then I 213 u else if x = 5 then I 209 u else (-1)
def i_159 (I : Nat → Nat → Int32) (J : Nat → Nat → Int64) (Z : Nat → Nat → Bool) (u : Nat) (x : Int32) : Nat → Nat → Int32 := s_up I 199 59 0
theorem d_159 (u : Nat) (x : Int32) (hu : u < 6) : w_R xs Ln 159 (0, [(0, .ref 199), (1, .int (Int32.ofNat u)), (2, .int x)], [], (I, J, kR w rem, Z), 0, 0) (fun o s => o = .inl (some (.int (v_159 I J Z u x))) ∧ s = (i_159 I J Z u x, J, kR w rem, Z)) := by
  refine w_R.go (c' := (6, [(0, .ref 199), (1, .int (Int32.ofNat u)), (2, .int x)], [.int (Int32.ofNat u)], (s_up I 199 59 0, J, kR w rem, Z), 0, 0)) 4 ?_ (fun m_ x_ Q_ k_ => ⟨trivial, trivial, ⟨sh_199, trivial⟩, trivial, k_⟩)
  refine w_R.callS (ce' := 0) (sl' := 0) (v := some (.int (s_b true))) (σ' := (s_up I 199 59 0, J, kR w rem, Z)) (as := [.int (Int32.ofNat u)]) (rest := []) (d_109N u (by omega)) ?_ rfl rfl rfl rfl rfl rfl rfl rfl rfl
  show w_R xs Ln 159 (9, [(0, .ref 199), (1, .int (Int32.ofNat u)), (2, .int x)], [.int (s_b true)], (s_up I 199 59 0, J, kR w rem, Z), 0, 0) _
  refine w_R.go (c' := (if x.toInt < 0 ∨ 5 < x.toInt then 94 else i_tg 15 ((#[37, 44, 51, 58, 65, 72] : Array Int).getD (x.toInt - 0).toNat 0), [(0, .ref 199), (1, .int (Int32.ofNat u)), (2, .int x)], [], (s_up I 199 59 0, J, kR w rem, Z), 0, 0)) 3 ?_ (fun m_ x_ Q_ k_ => ⟨trivial, trivial, trivial, k_⟩)
  by_cases h1 : x = 0
  · rw [show (if x.toInt < 0 ∨ 5 < x.toInt then 94 else i_tg 15 ((#[37, 44, 51, 58, 65, 72] : Array Int).getD (x.toInt - 0).toNat 0)) = 52 by rw [h1]; rfl]
    refine w_R.go (c' := (58, [(0, .ref 199), (1, .int (Int32.ofNat u)), (2, .int x)], [.int ((s_up I 199 59 0) 210 (Int32.ofNat u).toNatClampNeg)], (s_up I 199 59 0, J, kR w rem, Z), 0, 0)) 4 ?_ (fun m_ x_ Q_ k_ => ⟨trivial, ⟨sh_199, (Nat.succ_ne_zero 209)⟩, trivial, ⟨_, sh_210, (n_in (a := u) (by omega) (by decide))⟩, k_⟩)
    rw [n_cl (a := u) (by omega)]
    rw [show (s_up I 199 59 0) 210 u = I 210 u from (s_upa (by decide))]
    show w_R xs Ln 159 (58, [(0, .ref 199), (1, .int (Int32.ofNat u)), (2, .int x)], [.int (I 210 u)], (s_up I 199 59 0, J, kR w rem, Z), 0, 0) _
    refine w_R.ret 1 (.inl (some (.int (I 210 u)))) (s_up I 199 59 0, J, kR w rem, Z) ?_ (fun x_ Q_ k_ => ⟨trivial, ⟨Nat.le_of_ble_eq_true rfl, Nat.le_of_ble_eq_true rfl⟩, k_⟩)
    exact ⟨by rw [show v_159 I J Z u x = (I 210 u) from by unfold v_159; rw [if_pos h1]] <;> rfl, by rw [show i_159 I J Z u x = (s_up I 199 59 0) from by unfold i_159; rfl]⟩
  by_cases h2 : x = 1
  · rw [show (if x.toInt < 0 ∨ 5 < x.toInt then 94 else i_tg 15 ((#[37, 44, 51, 58, 65, 72] : Array Int).getD (x.toInt - 0).toNat 0)) = 59 by rw [h2]; rfl]
    refine w_R.go (c' := (65, [(0, .ref 199), (1, .int (Int32.ofNat u)), (2, .int x)], [.int ((s_up I 199 59 0) 208 (Int32.ofNat u).toNatClampNeg)], (s_up I 199 59 0, J, kR w rem, Z), 0, 0)) 4 ?_ (fun m_ x_ Q_ k_ => ⟨trivial, ⟨sh_199, (Nat.succ_ne_zero 207)⟩, trivial, ⟨_, sh_208, (n_in (a := u) (by omega) (by decide))⟩, k_⟩)
    rw [n_cl (a := u) (by omega)]
    rw [show (s_up I 199 59 0) 208 u = I 208 u from (s_upa (by decide))]
    show w_R xs Ln 159 (65, [(0, .ref 199), (1, .int (Int32.ofNat u)), (2, .int x)], [.int (I 208 u)], (s_up I 199 59 0, J, kR w rem, Z), 0, 0) _
    refine w_R.ret 1 (.inl (some (.int (I 208 u)))) (s_up I 199 59 0, J, kR w rem, Z) ?_ (fun x_ Q_ k_ => ⟨trivial, ⟨Nat.le_of_ble_eq_true rfl, Nat.le_of_ble_eq_true rfl⟩, k_⟩)
    exact ⟨by rw [show v_159 I J Z u x = (I 208 u) from by unfold v_159; rw [if_neg h1, if_pos h2]] <;> rfl, by rw [show i_159 I J Z u x = (s_up I 199 59 0) from by unfold i_159; rfl]⟩
  by_cases h3 : x = 2
  · rw [show (if x.toInt < 0 ∨ 5 < x.toInt then 94 else i_tg 15 ((#[37, 44, 51, 58, 65, 72] : Array Int).getD (x.toInt - 0).toNat 0)) = 66 by rw [h3]; rfl]
    refine w_R.go (c' := (72, [(0, .ref 199), (1, .int (Int32.ofNat u)), (2, .int x)], [.int ((s_up I 199 59 0) 211 (Int32.ofNat u).toNatClampNeg)], (s_up I 199 59 0, J, kR w rem, Z), 0, 0)) 4 ?_ (fun m_ x_ Q_ k_ => ⟨trivial, ⟨sh_199, (Nat.succ_ne_zero 210)⟩, trivial, ⟨_, sh_211, (n_in (a := u) (by omega) (by decide))⟩, k_⟩)
    rw [n_cl (a := u) (by omega)]
    rw [show (s_up I 199 59 0) 211 u = I 211 u from (s_upa (by decide))]
    show w_R xs Ln 159 (72, [(0, .ref 199), (1, .int (Int32.ofNat u)), (2, .int x)], [.int (I 211 u)], (s_up I 199 59 0, J, kR w rem, Z), 0, 0) _
    refine w_R.ret 1 (.inl (some (.int (I 211 u)))) (s_up I 199 59 0, J, kR w rem, Z) ?_ (fun x_ Q_ k_ => ⟨trivial, ⟨Nat.le_of_ble_eq_true rfl, Nat.le_of_ble_eq_true rfl⟩, k_⟩)
    exact ⟨by rw [show v_159 I J Z u x = (I 211 u) from by unfold v_159; rw [if_neg h1, if_neg h2, if_pos h3]] <;> rfl, by rw [show i_159 I J Z u x = (s_up I 199 59 0) from by unfold i_159; rfl]⟩
  by_cases h4 : x = 3
  · rw [show (if x.toInt < 0 ∨ 5 < x.toInt then 94 else i_tg 15 ((#[37, 44, 51, 58, 65, 72] : Array Int).getD (x.toInt - 0).toNat 0)) = 73 by rw [h4]; rfl]
    refine w_R.go (c' := (79, [(0, .ref 199), (1, .int (Int32.ofNat u)), (2, .int x)], [.int ((s_up I 199 59 0) 214 (Int32.ofNat u).toNatClampNeg)], (s_up I 199 59 0, J, kR w rem, Z), 0, 0)) 4 ?_ (fun m_ x_ Q_ k_ => ⟨trivial, ⟨sh_199, (Nat.succ_ne_zero 213)⟩, trivial, ⟨_, sh_214, (n_in (a := u) (by omega) (by decide))⟩, k_⟩)
    rw [n_cl (a := u) (by omega)]
    rw [show (s_up I 199 59 0) 214 u = I 214 u from (s_upa (by decide))]
    show w_R xs Ln 159 (79, [(0, .ref 199), (1, .int (Int32.ofNat u)), (2, .int x)], [.int (I 214 u)], (s_up I 199 59 0, J, kR w rem, Z), 0, 0) _
    refine w_R.ret 1 (.inl (some (.int (I 214 u)))) (s_up I 199 59 0, J, kR w rem, Z) ?_ (fun x_ Q_ k_ => ⟨trivial, ⟨Nat.le_of_ble_eq_true rfl, Nat.le_of_ble_eq_true rfl⟩, k_⟩)
    exact ⟨by rw [show v_159 I J Z u x = (I 214 u) from by unfold v_159; rw [if_neg h1, if_neg h2, if_neg h3, if_pos h4]] <;> rfl, by rw [show i_159 I J Z u x = (s_up I 199 59 0) from by unfold i_159; rfl]⟩
  by_cases h5 : x = 4
  · rw [show (if x.toInt < 0 ∨ 5 < x.toInt then 94 else i_tg 15 ((#[37, 44, 51, 58, 65, 72] : Array Int).getD (x.toInt - 0).toNat 0)) = 80 by rw [h5]; rfl]
    refine w_R.go (c' := (86, [(0, .ref 199), (1, .int (Int32.ofNat u)), (2, .int x)], [.int ((s_up I 199 59 0) 213 (Int32.ofNat u).toNatClampNeg)], (s_up I 199 59 0, J, kR w rem, Z), 0, 0)) 4 ?_ (fun m_ x_ Q_ k_ => ⟨trivial, ⟨sh_199, (Nat.succ_ne_zero 212)⟩, trivial, ⟨_, sh_213, (n_in (a := u) (by omega) (by decide))⟩, k_⟩)
    rw [n_cl (a := u) (by omega)]
    rw [show (s_up I 199 59 0) 213 u = I 213 u from (s_upa (by decide))]
    show w_R xs Ln 159 (86, [(0, .ref 199), (1, .int (Int32.ofNat u)), (2, .int x)], [.int (I 213 u)], (s_up I 199 59 0, J, kR w rem, Z), 0, 0) _
    refine w_R.ret 1 (.inl (some (.int (I 213 u)))) (s_up I 199 59 0, J, kR w rem, Z) ?_ (fun x_ Q_ k_ => ⟨trivial, ⟨Nat.le_of_ble_eq_true rfl, Nat.le_of_ble_eq_true rfl⟩, k_⟩)
    exact ⟨by rw [show v_159 I J Z u x = (I 213 u) from by unfold v_159; rw [if_neg h1, if_neg h2, if_neg h3, if_neg h4, if_pos h5]] <;> rfl, by rw [show i_159 I J Z u x = (s_up I 199 59 0) from by unfold i_159; rfl]⟩
  by_cases h6 : x = 5
  · rw [show (if x.toInt < 0 ∨ 5 < x.toInt then 94 else i_tg 15 ((#[37, 44, 51, 58, 65, 72] : Array Int).getD (x.toInt - 0).toNat 0)) = 87 by rw [h6]; rfl]
    refine w_R.go (c' := (93, [(0, .ref 199), (1, .int (Int32.ofNat u)), (2, .int x)], [.int ((s_up I 199 59 0) 209 (Int32.ofNat u).toNatClampNeg)], (s_up I 199 59 0, J, kR w rem, Z), 0, 0)) 4 ?_ (fun m_ x_ Q_ k_ => ⟨trivial, ⟨sh_199, (Nat.succ_ne_zero 208)⟩, trivial, ⟨_, sh_209, (n_in (a := u) (by omega) (by decide))⟩, k_⟩)
    rw [n_cl (a := u) (by omega)]
    rw [show (s_up I 199 59 0) 209 u = I 209 u from (s_upa (by decide))]
    show w_R xs Ln 159 (93, [(0, .ref 199), (1, .int (Int32.ofNat u)), (2, .int x)], [.int (I 209 u)], (s_up I 199 59 0, J, kR w rem, Z), 0, 0) _
    refine w_R.ret 1 (.inl (some (.int (I 209 u)))) (s_up I 199 59 0, J, kR w rem, Z) ?_ (fun x_ Q_ k_ => ⟨trivial, ⟨Nat.le_of_ble_eq_true rfl, Nat.le_of_ble_eq_true rfl⟩, k_⟩)
    exact ⟨by rw [show v_159 I J Z u x = (I 209 u) from by unfold v_159; rw [if_neg h1, if_neg h2, if_neg h3, if_neg h4, if_neg h5, if_pos h6]] <;> rfl, by rw [show i_159 I J Z u x = (s_up I 199 59 0) from by unfold i_159; rfl]⟩
  rw [if_pos (l_out (x := x) (a := 5) (n := 6) (by omega) rfl (by intro k hk; (rcases k with _ | _ | _ | _ | _ | _ | k) <;> first | assumption | omega))]
  refine w_R.ret 2 (.inl (some (.int (-1)))) (s_up I 199 59 0, J, kR w rem, Z) ?_ (fun x_ Q_ k_ => ⟨trivial, trivial, ⟨Nat.le_of_ble_eq_true rfl, Nat.le_of_ble_eq_true rfl⟩, k_⟩)
  exact ⟨by rw [show v_159 I J Z u x = (-1) from by unfold v_159; rw [if_neg h1, if_neg h2, if_neg h3, if_neg h4, if_neg h5, if_neg h6]] <;> rfl, by rw [show i_159 I J Z u x = (s_up I 199 59 0) from by unfold i_159; rfl]⟩
theorem b_2_0 (j : Int32) (d : Int32) (hj : l_rg j 0 12 = false) : w_R xs Ln 2 (0, [(0, .ref 1), (1, .int j), (2, .int d)], [], (I, J, kR w rem, Z), 0, 0) (fun o s => o = .inl (some (.int 0)) ∧ s = (I, J, kR w rem, Z)) := by
  refine w_R.go (c' := (1, [(0, .ref 1), (1, .int j), (2, .int d)], [.int j], (I, J, kR w rem, Z), 0, 0)) 1 ?_ (fun m_ x_ Q_ k_ => ⟨trivial, k_⟩)
  refine w_R.callS (ce' := 0) (sl' := 0) (v := some (.int (s_b false))) (σ' := (I, J, kR w rem, Z)) (as := [.int j]) (rest := []) (d_28F j hj) ?_ rfl rfl rfl rfl rfl rfl rfl rfl rfl
  show w_R xs Ln 2 (4, [(0, .ref 1), (1, .int j), (2, .int d)], [.int (s_b false)], (I, J, kR w rem, Z), 0, 0) _
  refine w_R.ret 3 (.inl (some (.int 0))) (I, J, kR w rem, Z) ?_ (fun x_ Q_ k_ => ⟨trivial, trivial, Or.inl rfl, ⟨Nat.le_of_ble_eq_true rfl, Nat.le_of_ble_eq_true rfl⟩, k_⟩)
  exact ⟨rfl, rfl⟩
theorem b_112_0 (j : Int32) (d : Int32) (hj : l_rg j 0 12 = false) : w_R xs Ln 112 (0, [(0, .ref 199), (1, .int j), (2, .int d)], [], (I, J, kR w rem, Z), 0, 0) (fun o s => o = .inl (some (.int 0)) ∧ s = (s_up I 199 59 0, J, kR w rem, Z)) := by
  refine w_R.go (c' := (6, [(0, .ref 199), (1, .int j), (2, .int d)], [.int j], (s_up I 199 59 0, J, kR w rem, Z), 0, 0)) 4 ?_ (fun m_ x_ Q_ k_ => ⟨trivial, trivial, ⟨sh_199, trivial⟩, trivial, k_⟩)
  refine w_R.callS (ce' := 0) (sl' := 0) (v := some (.int (s_b false))) (σ' := (s_up I 199 59 0, J, kR w rem, Z)) (as := [.int j]) (rest := []) (d_107F j hj) ?_ rfl rfl rfl rfl rfl rfl rfl rfl rfl
  show w_R xs Ln 112 (9, [(0, .ref 199), (1, .int j), (2, .int d)], [.int (s_b false)], (s_up I 199 59 0, J, kR w rem, Z), 0, 0) _
  refine w_R.ret 3 (.inl (some (.int 0))) (s_up I 199 59 0, J, kR w rem, Z) ?_ (fun x_ Q_ k_ => ⟨trivial, trivial, Or.inl rfl, ⟨Nat.le_of_ble_eq_true rfl, Nat.le_of_ble_eq_true rfl⟩, k_⟩)
  exact ⟨rfl, rfl⟩
theorem b_2_1 (j : Nat) (d : Int32) (hj : j < 12) (hd : l_rg d 0 4 = false) : w_R xs Ln 2 (0, [(0, .ref 1), (1, .int (Int32.ofNat j)), (2, .int d)], [], (I, J, kR w rem, Z), 0, 0) (fun o s => o = .inl (some (.int 0)) ∧ s = (I, J, kR w rem, Z)) := by
  refine w_R.go (c' := (1, [(0, .ref 1), (1, .int (Int32.ofNat j)), (2, .int d)], [.int (Int32.ofNat j)], (I, J, kR w rem, Z), 0, 0)) 1 ?_ (fun m_ x_ Q_ k_ => ⟨trivial, k_⟩)
  refine w_R.callS (ce' := 0) (sl' := 0) (v := some (.int (s_b true))) (σ' := (I, J, kR w rem, Z)) (as := [.int (Int32.ofNat j)]) (rest := []) (d_28N j (by omega)) ?_ rfl rfl rfl rfl rfl rfl rfl rfl rfl
  show w_R xs Ln 2 (4, [(0, .ref 1), (1, .int (Int32.ofNat j)), (2, .int d)], [.int (s_b true)], (I, J, kR w rem, Z), 0, 0) _
  refine w_R.go (c' := (8, [(0, .ref 1), (1, .int (Int32.ofNat j)), (2, .int d)], [.int d], (I, J, kR w rem, Z), 0, 0)) 2 ?_ (fun m_ x_ Q_ k_ => ⟨trivial, trivial, k_⟩)
  refine w_R.callS (ce' := 0) (sl' := 0) (v := some (.int (s_b false))) (σ' := (I, J, kR w rem, Z)) (as := [.int d]) (rest := []) (d_29F d hd) ?_ rfl rfl rfl rfl rfl rfl rfl rfl rfl
  show w_R xs Ln 2 (11, [(0, .ref 1), (1, .int (Int32.ofNat j)), (2, .int d)], [.int (s_b false)], (I, J, kR w rem, Z), 0, 0) _
  refine w_R.ret 3 (.inl (some (.int 0))) (I, J, kR w rem, Z) ?_ (fun x_ Q_ k_ => ⟨trivial, trivial, Or.inl rfl, ⟨Nat.le_of_ble_eq_true rfl, Nat.le_of_ble_eq_true rfl⟩, k_⟩)
  exact ⟨rfl, rfl⟩
theorem b_112_1 (j : Nat) (d : Int32) (hj : j < 12) (hd : l_rg d 0 4 = false) : w_R xs Ln 112 (0, [(0, .ref 199), (1, .int (Int32.ofNat j)), (2, .int d)], [], (I, J, kR w rem, Z), 0, 0) (fun o s => o = .inl (some (.int 0)) ∧ s = (s_up I 199 59 0, J, kR w rem, Z)) := by
  refine w_R.go (c' := (6, [(0, .ref 199), (1, .int (Int32.ofNat j)), (2, .int d)], [.int (Int32.ofNat j)], (s_up I 199 59 0, J, kR w rem, Z), 0, 0)) 4 ?_ (fun m_ x_ Q_ k_ => ⟨trivial, trivial, ⟨sh_199, trivial⟩, trivial, k_⟩)
  refine w_R.callS (ce' := 0) (sl' := 0) (v := some (.int (s_b true))) (σ' := (s_up I 199 59 0, J, kR w rem, Z)) (as := [.int (Int32.ofNat j)]) (rest := []) (d_107N j (by omega)) ?_ rfl rfl rfl rfl rfl rfl rfl rfl rfl
  show w_R xs Ln 112 (9, [(0, .ref 199), (1, .int (Int32.ofNat j)), (2, .int d)], [.int (s_b true)], (s_up I 199 59 0, J, kR w rem, Z), 0, 0) _
  refine w_R.go (c' := (13, [(0, .ref 199), (1, .int (Int32.ofNat j)), (2, .int d)], [.int d], (s_up I 199 59 0, J, kR w rem, Z), 0, 0)) 2 ?_ (fun m_ x_ Q_ k_ => ⟨trivial, trivial, k_⟩)
  refine w_R.callS (ce' := 0) (sl' := 0) (v := some (.int (s_b false))) (σ' := (s_up I 199 59 0, J, kR w rem, Z)) (as := [.int d]) (rest := []) (d_110F d hd) ?_ rfl rfl rfl rfl rfl rfl rfl rfl rfl
  show w_R xs Ln 112 (16, [(0, .ref 199), (1, .int (Int32.ofNat j)), (2, .int d)], [.int (s_b false)], (s_up I 199 59 0, J, kR w rem, Z), 0, 0) _
  refine w_R.ret 3 (.inl (some (.int 0))) (s_up I 199 59 0, J, kR w rem, Z) ?_ (fun x_ Q_ k_ => ⟨trivial, trivial, Or.inl rfl, ⟨Nat.le_of_ble_eq_true rfl, Nat.le_of_ble_eq_true rfl⟩, k_⟩)
  exact ⟨rfl, rfl⟩
def v_2 (I : Nat → Nat → Int32) (J : Nat → Nat → Int64) (Z : Nat → Nat → Bool) (j : Nat) (d : Nat) : Bool := true
def i_2 (I : Nat → Nat → Int32) (J : Nat → Nat → Int64) (Z : Nat → Nat → Bool) (j : Nat) (d : Nat) : Nat → Nat → Int32 := s_up I 3 j (Int32.ofNat d)
theorem d_2 (j : Nat) (d : Nat) (hj : j < 12) (hd : d < 4) : w_R xs Ln 2 (0, [(0, .ref 1), (1, .int (Int32.ofNat j)), (2, .int (Int32.ofNat d))], [], (I, J, kR w rem, Z), 0, 0) (fun o s => o = .inl (some (.int (s_b (v_2 I J Z j d)))) ∧ s = (i_2 I J Z j d, J, kR w rem, Z)) := by
  refine w_R.go (c' := (1, [(0, .ref 1), (1, .int (Int32.ofNat j)), (2, .int (Int32.ofNat d))], [.int (Int32.ofNat j)], (I, J, kR w rem, Z), 0, 0)) 1 ?_ (fun m_ x_ Q_ k_ => ⟨trivial, k_⟩)
  refine w_R.callS (ce' := 0) (sl' := 0) (v := some (.int (s_b true))) (σ' := (I, J, kR w rem, Z)) (as := [.int (Int32.ofNat j)]) (rest := []) (d_28N j (by omega)) ?_ rfl rfl rfl rfl rfl rfl rfl rfl rfl
  show w_R xs Ln 2 (4, [(0, .ref 1), (1, .int (Int32.ofNat j)), (2, .int (Int32.ofNat d))], [.int (s_b true)], (I, J, kR w rem, Z), 0, 0) _
  refine w_R.go (c' := (8, [(0, .ref 1), (1, .int (Int32.ofNat j)), (2, .int (Int32.ofNat d))], [.int (Int32.ofNat d)], (I, J, kR w rem, Z), 0, 0)) 2 ?_ (fun m_ x_ Q_ k_ => ⟨trivial, trivial, k_⟩)
  refine w_R.callS (ce' := 0) (sl' := 0) (v := some (.int (s_b true))) (σ' := (I, J, kR w rem, Z)) (as := [.int (Int32.ofNat d)]) (rest := []) (d_29N d (by omega)) ?_ rfl rfl rfl rfl rfl rfl rfl rfl rfl
  show w_R xs Ln 2 (11, [(0, .ref 1), (1, .int (Int32.ofNat j)), (2, .int (Int32.ofNat d))], [.int (s_b true)], (I, J, kR w rem, Z), 0, 0) _
  refine w_R.go (c' := (26, [(0, .ref 1), (1, .int (Int32.ofNat j)), (2, .int (Int32.ofNat d))], [], (s_up I 3 ((Int32.ofNat j).toNatClampNeg) (Int32.ofNat d), J, kR w rem, Z), 0, 0)) 7 ?_ (fun m_ x_ Q_ k_ => ⟨trivial, trivial, ⟨sh_1, (Nat.succ_ne_zero 1)⟩, ⟨sh_2, (Nat.succ_ne_zero 2)⟩, trivial, trivial, ⟨_, sh_3, (n_in (a := j) (by omega) (by decide))⟩, k_⟩)
  rw [n_cl (a := j) (by omega)]
  show w_R xs Ln 2 (26, [(0, .ref 1), (1, .int (Int32.ofNat j)), (2, .int (Int32.ofNat d))], [], (s_up I 3 j (Int32.ofNat d), J, kR w rem, Z), 0, 0) _
  refine w_R.ret 2 (.inl (some (.int 1))) (s_up I 3 j (Int32.ofNat d), J, kR w rem, Z) ?_ (fun x_ Q_ k_ => ⟨trivial, Or.inr rfl, ⟨Nat.le_of_ble_eq_true rfl, Nat.le_of_ble_eq_true rfl⟩, k_⟩)
  exact ⟨by rw [show v_2 I J Z j d = true from by unfold v_2; rfl] <;> rfl, by rw [show i_2 I J Z j d = (s_up I 3 j (Int32.ofNat d)) from by unfold i_2; rfl]⟩
def v_112 (I : Nat → Nat → Int32) (J : Nat → Nat → Int64) (Z : Nat → Nat → Bool) (j : Nat) (d : Nat) : Bool := true
def i_112 (I : Nat → Nat → Int32) (J : Nat → Nat → Int64) (Z : Nat → Nat → Bool) (j : Nat) (d : Nat) : Nat → Nat → Int32 := s_up (s_up I 199 59 0) 201 j (Int32.ofNat d)
theorem d_112 (j : Nat) (d : Nat) (hj : j < 12) (hd : d < 4) : w_R xs Ln 112 (0, [(0, .ref 199), (1, .int (Int32.ofNat j)), (2, .int (Int32.ofNat d))], [], (I, J, kR w rem, Z), 0, 0) (fun o s => o = .inl (some (.int (s_b (v_112 I J Z j d)))) ∧ s = (i_112 I J Z j d, J, kR w rem, Z)) := by
  refine w_R.go (c' := (6, [(0, .ref 199), (1, .int (Int32.ofNat j)), (2, .int (Int32.ofNat d))], [.int (Int32.ofNat j)], (s_up I 199 59 0, J, kR w rem, Z), 0, 0)) 4 ?_ (fun m_ x_ Q_ k_ => ⟨trivial, trivial, ⟨sh_199, trivial⟩, trivial, k_⟩)
  refine w_R.callS (ce' := 0) (sl' := 0) (v := some (.int (s_b true))) (σ' := (s_up I 199 59 0, J, kR w rem, Z)) (as := [.int (Int32.ofNat j)]) (rest := []) (d_107N j (by omega)) ?_ rfl rfl rfl rfl rfl rfl rfl rfl rfl
  show w_R xs Ln 112 (9, [(0, .ref 199), (1, .int (Int32.ofNat j)), (2, .int (Int32.ofNat d))], [.int (s_b true)], (s_up I 199 59 0, J, kR w rem, Z), 0, 0) _
  refine w_R.go (c' := (13, [(0, .ref 199), (1, .int (Int32.ofNat j)), (2, .int (Int32.ofNat d))], [.int (Int32.ofNat d)], (s_up I 199 59 0, J, kR w rem, Z), 0, 0)) 2 ?_ (fun m_ x_ Q_ k_ => ⟨trivial, trivial, k_⟩)
  refine w_R.callS (ce' := 0) (sl' := 0) (v := some (.int (s_b true))) (σ' := (s_up I 199 59 0, J, kR w rem, Z)) (as := [.int (Int32.ofNat d)]) (rest := []) (d_110N d (by omega)) ?_ rfl rfl rfl rfl rfl rfl rfl rfl rfl
  show w_R xs Ln 112 (16, [(0, .ref 199), (1, .int (Int32.ofNat j)), (2, .int (Int32.ofNat d))], [.int (s_b true)], (s_up I 199 59 0, J, kR w rem, Z), 0, 0) _
  refine w_R.go (c' := (28, [(0, .ref 199), (1, .int (Int32.ofNat j)), (2, .int (Int32.ofNat d))], [], (s_up (s_up I 199 59 0) 201 ((Int32.ofNat j).toNatClampNeg) (Int32.ofNat d), J, kR w rem, Z), 0, 0)) 6 ?_ (fun m_ x_ Q_ k_ => ⟨trivial, trivial, ⟨sh_199, (Nat.succ_ne_zero 200)⟩, trivial, trivial, ⟨_, sh_201, (n_in (a := j) (by omega) (by decide))⟩, k_⟩)
  rw [n_cl (a := j) (by omega)]
  show w_R xs Ln 112 (28, [(0, .ref 199), (1, .int (Int32.ofNat j)), (2, .int (Int32.ofNat d))], [], (s_up (s_up I 199 59 0) 201 j (Int32.ofNat d), J, kR w rem, Z), 0, 0) _
  refine w_R.ret 2 (.inl (some (.int 1))) (s_up (s_up I 199 59 0) 201 j (Int32.ofNat d), J, kR w rem, Z) ?_ (fun x_ Q_ k_ => ⟨trivial, Or.inr rfl, ⟨Nat.le_of_ble_eq_true rfl, Nat.le_of_ble_eq_true rfl⟩, k_⟩)
  exact ⟨by rw [show v_112 I J Z j d = true from by unfold v_112; rfl] <;> rfl, by rw [show i_112 I J Z j d = (s_up (s_up I 199 59 0) 201 j (Int32.ofNat d)) from by unfold i_112; rfl]⟩
theorem b_7_0 (r : Int32) (v : Int32) (hr : l_rg r 0 2 = false) : w_R xs Ln 7 (0, [(0, .ref 1), (1, .int r), (2, .int v)], [], (I, J, kR w rem, Z), 0, 0) (fun o s => o = .inl (some (.int 0)) ∧ s = (I, J, kR w rem, Z)) := by
  refine w_R.go (c' := (1, [(0, .ref 1), (1, .int r), (2, .int v)], [.int r], (I, J, kR w rem, Z), 0, 0)) 1 ?_ (fun m_ x_ Q_ k_ => ⟨trivial, k_⟩)
  refine w_R.callS (ce' := 0) (sl' := 0) (v := some (.int (s_b false))) (σ' := (I, J, kR w rem, Z)) (as := [.int r]) (rest := []) (d_32F r hr) ?_ rfl rfl rfl rfl rfl rfl rfl rfl rfl
  show w_R xs Ln 7 (4, [(0, .ref 1), (1, .int r), (2, .int v)], [.int (s_b false)], (I, J, kR w rem, Z), 0, 0) _
  refine w_R.ret 3 (.inl (some (.int 0))) (I, J, kR w rem, Z) ?_ (fun x_ Q_ k_ => ⟨trivial, trivial, Or.inl rfl, ⟨Nat.le_of_ble_eq_true rfl, Nat.le_of_ble_eq_true rfl⟩, k_⟩)
  exact ⟨rfl, rfl⟩
theorem b_137_0 (r : Int32) (v : Int32) (hr : l_rg r 0 2 = false) : w_R xs Ln 137 (0, [(0, .ref 199), (1, .int r), (2, .int v)], [], (I, J, kR w rem, Z), 0, 0) (fun o s => o = .inl (some (.int 0)) ∧ s = (s_up I 199 59 0, J, kR w rem, Z)) := by
  refine w_R.go (c' := (6, [(0, .ref 199), (1, .int r), (2, .int v)], [.int r], (s_up I 199 59 0, J, kR w rem, Z), 0, 0)) 4 ?_ (fun m_ x_ Q_ k_ => ⟨trivial, trivial, ⟨sh_199, trivial⟩, trivial, k_⟩)
  refine w_R.callS (ce' := 0) (sl' := 0) (v := some (.int (s_b false))) (σ' := (s_up I 199 59 0, J, kR w rem, Z)) (as := [.int r]) (rest := []) (d_108F r hr) ?_ rfl rfl rfl rfl rfl rfl rfl rfl rfl
  show w_R xs Ln 137 (9, [(0, .ref 199), (1, .int r), (2, .int v)], [.int (s_b false)], (s_up I 199 59 0, J, kR w rem, Z), 0, 0) _
  refine w_R.ret 3 (.inl (some (.int 0))) (s_up I 199 59 0, J, kR w rem, Z) ?_ (fun x_ Q_ k_ => ⟨trivial, trivial, Or.inl rfl, ⟨Nat.le_of_ble_eq_true rfl, Nat.le_of_ble_eq_true rfl⟩, k_⟩)
  exact ⟨rfl, rfl⟩
theorem b_7_1 (r : Nat) (v : Int32) (hr : r < 2) (hv : l_rg v 49 52 = false) : w_R xs Ln 7 (0, [(0, .ref 1), (1, .int (Int32.ofNat r)), (2, .int v)], [], (I, J, kR w rem, Z), 0, 0) (fun o s => o = .inl (some (.int 0)) ∧ s = (I, J, kR w rem, Z)) := by
  refine w_R.go (c' := (1, [(0, .ref 1), (1, .int (Int32.ofNat r)), (2, .int v)], [.int (Int32.ofNat r)], (I, J, kR w rem, Z), 0, 0)) 1 ?_ (fun m_ x_ Q_ k_ => ⟨trivial, k_⟩)
  refine w_R.callS (ce' := 0) (sl' := 0) (v := some (.int (s_b true))) (σ' := (I, J, kR w rem, Z)) (as := [.int (Int32.ofNat r)]) (rest := []) (d_32N r (by omega)) ?_ rfl rfl rfl rfl rfl rfl rfl rfl rfl
  show w_R xs Ln 7 (4, [(0, .ref 1), (1, .int (Int32.ofNat r)), (2, .int v)], [.int (s_b true)], (I, J, kR w rem, Z), 0, 0) _
  refine w_R.go (c' := (i_br .lt v 49 19 13, [(0, .ref 1), (1, .int (Int32.ofNat r)), (2, .int v)], [], (I, J, kR w rem, Z), 0, 0)) 4 ?_ (fun m_ x_ Q_ k_ => ⟨trivial, trivial, trivial, trivial, k_⟩)
  refine w_R.br_lt (fun h1 => ?_) (fun h1 => ?_)
  · refine w_R.ret 2 (.inl (some (.int 0))) (I, J, kR w rem, Z) ?_ (fun x_ Q_ k_ => ⟨trivial, Or.inl rfl, ⟨Nat.le_of_ble_eq_true rfl, Nat.le_of_ble_eq_true rfl⟩, k_⟩)
    exact ⟨rfl, rfl⟩
  · refine w_R.go (c' := (i_br .le v 51 21 19, [(0, .ref 1), (1, .int (Int32.ofNat r)), (2, .int v)], [], (I, J, kR w rem, Z), 0, 0)) 3 ?_ (fun m_ x_ Q_ k_ => ⟨trivial, trivial, trivial, k_⟩)
    refine w_R.br_le (fun h2 => ?_) (fun h2 => ?_)
    · exact (l_no hv h1 h2 rfl rfl).elim
    · refine w_R.ret 2 (.inl (some (.int 0))) (I, J, kR w rem, Z) ?_ (fun x_ Q_ k_ => ⟨trivial, Or.inl rfl, ⟨Nat.le_of_ble_eq_true rfl, Nat.le_of_ble_eq_true rfl⟩, k_⟩)
      exact ⟨rfl, rfl⟩
theorem b_137_1 (r : Nat) (v : Int32) (hr : r < 2) (hv : l_rg v 49 52 = false) : w_R xs Ln 137 (0, [(0, .ref 199), (1, .int (Int32.ofNat r)), (2, .int v)], [], (I, J, kR w rem, Z), 0, 0) (fun o s => o = .inl (some (.int 0)) ∧ s = (s_up I 199 59 0, J, kR w rem, Z)) := by
  refine w_R.go (c' := (6, [(0, .ref 199), (1, .int (Int32.ofNat r)), (2, .int v)], [.int (Int32.ofNat r)], (s_up I 199 59 0, J, kR w rem, Z), 0, 0)) 4 ?_ (fun m_ x_ Q_ k_ => ⟨trivial, trivial, ⟨sh_199, trivial⟩, trivial, k_⟩)
  refine w_R.callS (ce' := 0) (sl' := 0) (v := some (.int (s_b true))) (σ' := (s_up I 199 59 0, J, kR w rem, Z)) (as := [.int (Int32.ofNat r)]) (rest := []) (d_108N r (by omega)) ?_ rfl rfl rfl rfl rfl rfl rfl rfl rfl
  show w_R xs Ln 137 (9, [(0, .ref 199), (1, .int (Int32.ofNat r)), (2, .int v)], [.int (s_b true)], (s_up I 199 59 0, J, kR w rem, Z), 0, 0) _
  refine w_R.go (c' := (17, [(0, .ref 199), (1, .int (Int32.ofNat r)), (2, .int v)], [.int 51, .int 49, .int v], (s_up I 199 59 0, J, kR w rem, Z), 0, 0)) 4 ?_ (fun m_ x_ Q_ k_ => ⟨trivial, trivial, trivial, trivial, k_⟩)
  refine w_R.callS (ce' := 0) (sl' := 0) (v := some (.int (s_b false))) (σ' := (s_up I 199 59 0, J, kR w rem, Z)) (as := [.int v, .int 49, .int 51]) (rest := []) (d_106F v 49 51 (by decide) (by decide) hv) ?_ rfl rfl rfl rfl rfl rfl rfl rfl rfl
  show w_R xs Ln 137 (20, [(0, .ref 199), (1, .int (Int32.ofNat r)), (2, .int v)], [.int (s_b false)], (s_up I 199 59 0, J, kR w rem, Z), 0, 0) _
  refine w_R.ret 3 (.inl (some (.int 0))) (s_up I 199 59 0, J, kR w rem, Z) ?_ (fun x_ Q_ k_ => ⟨trivial, trivial, Or.inl rfl, ⟨Nat.le_of_ble_eq_true rfl, Nat.le_of_ble_eq_true rfl⟩, k_⟩)
  exact ⟨rfl, rfl⟩
def v_7 (I : Nat → Nat → Int32) (J : Nat → Nat → Int64) (Z : Nat → Nat → Bool) (r : Nat) (v : Nat) : Bool := true
def i_7 (I : Nat → Nat → Int32) (J : Nat → Nat → Int64) (Z : Nat → Nat → Bool) (r : Nat) (v : Nat) : Nat → Nat → Int32 := s_up I (141 + 29 * r) 1 (Int32.ofNat v)
theorem d_7 (r : Nat) (v : Nat) (hr : r < 2) (hv : 49 ≤ v ∧ v < 52) : w_R xs Ln 7 (0, [(0, .ref 1), (1, .int (Int32.ofNat r)), (2, .int (Int32.ofNat v))], [], (I, J, kR w rem, Z), 0, 0) (fun o s => o = .inl (some (.int (s_b (v_7 I J Z r v)))) ∧ s = (i_7 I J Z r v, J, kR w rem, Z)) := by
  refine w_R.go (c' := (1, [(0, .ref 1), (1, .int (Int32.ofNat r)), (2, .int (Int32.ofNat v))], [.int (Int32.ofNat r)], (I, J, kR w rem, Z), 0, 0)) 1 ?_ (fun m_ x_ Q_ k_ => ⟨trivial, k_⟩)
  refine w_R.callS (ce' := 0) (sl' := 0) (v := some (.int (s_b true))) (σ' := (I, J, kR w rem, Z)) (as := [.int (Int32.ofNat r)]) (rest := []) (d_32N r (by omega)) ?_ rfl rfl rfl rfl rfl rfl rfl rfl rfl
  show w_R xs Ln 7 (4, [(0, .ref 1), (1, .int (Int32.ofNat r)), (2, .int (Int32.ofNat v))], [.int (s_b true)], (I, J, kR w rem, Z), 0, 0) _
  refine w_R.go (c' := (i_br .lt (Int32.ofNat v) 49 19 13, [(0, .ref 1), (1, .int (Int32.ofNat r)), (2, .int (Int32.ofNat v))], [], (I, J, kR w rem, Z), 0, 0)) 4 ?_ (fun m_ x_ Q_ k_ => ⟨trivial, trivial, trivial, trivial, k_⟩)
  rw [show i_br .lt (Int32.ofNat v) 49 19 13 = 13 from if_neg (mt (n_lt (a := v) (b := 49) (by omega) (by omega)).mp (by omega))]
  show w_R xs Ln 7 (13, [(0, .ref 1), (1, .int (Int32.ofNat r)), (2, .int (Int32.ofNat v))], [], (I, J, kR w rem, Z), 0, 0) _
  refine w_R.go (c' := (i_br .le (Int32.ofNat v) 51 21 19, [(0, .ref 1), (1, .int (Int32.ofNat r)), (2, .int (Int32.ofNat v))], [], (I, J, kR w rem, Z), 0, 0)) 3 ?_ (fun m_ x_ Q_ k_ => ⟨trivial, trivial, trivial, k_⟩)
  rw [show i_br .le (Int32.ofNat v) 51 21 19 = 21 from if_pos (Int32.not_lt.mp (mt (n_lt (a := 51) (b := v) (by omega) (by omega)).mp (by omega)))]
  show w_R xs Ln 7 (21, [(0, .ref 1), (1, .int (Int32.ofNat r)), (2, .int (Int32.ofNat v))], [], (I, J, kR w rem, Z), 0, 0) _
  refine w_R.go (c' := (27, [(0, .ref 1), (1, .int (Int32.ofNat r)), (2, .int (Int32.ofNat v))], [.ref (kR w rem 12 (Int32.ofNat r).toNatClampNeg)], (I, J, kR w rem, Z), 0, 0)) 4 ?_ (fun m_ x_ Q_ k_ => ⟨trivial, ⟨sh_1, (Nat.succ_ne_zero 11)⟩, trivial, ⟨⟨_, sh_12, (n_in (a := r) (by omega) (by decide))⟩, (show kR w rem 12 (Int32.ofNat r).toNatClampNeg ≠ 0 by rw [n_cl (a := r) (by omega), r_room (w := w) (rem := rem) (r := r) (by omega)]; omega)⟩, k_⟩)
  rw [n_cl (a := r) (by omega)]
  rw [r_room (w := w) (rem := rem) (r := r) (by omega)]
  show w_R xs Ln 7 (27, [(0, .ref 1), (1, .int (Int32.ofNat r)), (2, .int (Int32.ofNat v))], [.ref (141 + 29 * r)], (I, J, kR w rem, Z), 0, 0) _
  refine w_R.ret 4 (.inl (some (.int 1))) (s_up I (141 + 29 * r) 1 (Int32.ofNat v), J, kR w rem, Z) ?_ (fun x_ Q_ k_ => ⟨trivial, ⟨(sh_room (by omega)), trivial⟩, trivial, Or.inr rfl, ⟨Nat.le_of_ble_eq_true rfl, Nat.le_of_ble_eq_true rfl⟩, k_⟩)
  exact ⟨by rw [show v_7 I J Z r v = true from by unfold v_7; rfl] <;> rfl, by rw [show i_7 I J Z r v = (s_up I (141 + 29 * r) 1 (Int32.ofNat v)) from by unfold i_7; rfl]⟩
def v_137 (I : Nat → Nat → Int32) (J : Nat → Nat → Int64) (Z : Nat → Nat → Bool) (r : Nat) (v : Nat) : Bool := true
def i_137 (I : Nat → Nat → Int32) (J : Nat → Nat → Int64) (Z : Nat → Nat → Bool) (r : Nat) (v : Nat) : Nat → Nat → Int32 := s_up (s_up I 199 59 0) 216 r (Int32.ofNat v)
theorem d_137 (r : Nat) (v : Nat) (hr : r < 2) (hv : 49 ≤ v ∧ v < 52) : w_R xs Ln 137 (0, [(0, .ref 199), (1, .int (Int32.ofNat r)), (2, .int (Int32.ofNat v))], [], (I, J, kR w rem, Z), 0, 0) (fun o s => o = .inl (some (.int (s_b (v_137 I J Z r v)))) ∧ s = (i_137 I J Z r v, J, kR w rem, Z)) := by
  refine w_R.go (c' := (6, [(0, .ref 199), (1, .int (Int32.ofNat r)), (2, .int (Int32.ofNat v))], [.int (Int32.ofNat r)], (s_up I 199 59 0, J, kR w rem, Z), 0, 0)) 4 ?_ (fun m_ x_ Q_ k_ => ⟨trivial, trivial, ⟨sh_199, trivial⟩, trivial, k_⟩)
  refine w_R.callS (ce' := 0) (sl' := 0) (v := some (.int (s_b true))) (σ' := (s_up I 199 59 0, J, kR w rem, Z)) (as := [.int (Int32.ofNat r)]) (rest := []) (d_108N r (by omega)) ?_ rfl rfl rfl rfl rfl rfl rfl rfl rfl
  show w_R xs Ln 137 (9, [(0, .ref 199), (1, .int (Int32.ofNat r)), (2, .int (Int32.ofNat v))], [.int (s_b true)], (s_up I 199 59 0, J, kR w rem, Z), 0, 0) _
  refine w_R.go (c' := (17, [(0, .ref 199), (1, .int (Int32.ofNat r)), (2, .int (Int32.ofNat v))], [.int 51, .int 49, .int (Int32.ofNat v)], (s_up I 199 59 0, J, kR w rem, Z), 0, 0)) 4 ?_ (fun m_ x_ Q_ k_ => ⟨trivial, trivial, trivial, trivial, k_⟩)
  refine w_R.callS (ce' := 0) (sl' := 0) (v := some (.int (s_b true))) (σ' := (s_up I 199 59 0, J, kR w rem, Z)) (as := [.int (Int32.ofNat v), .int 49, .int 51]) (rest := []) (d_106T v 49 51 (by omega) (by omega) (by decide)) ?_ rfl rfl rfl rfl rfl rfl rfl rfl rfl
  show w_R xs Ln 137 (20, [(0, .ref 199), (1, .int (Int32.ofNat r)), (2, .int (Int32.ofNat v))], [.int (s_b true)], (s_up I 199 59 0, J, kR w rem, Z), 0, 0) _
  refine w_R.go (c' := (32, [(0, .ref 199), (1, .int (Int32.ofNat r)), (2, .int (Int32.ofNat v))], [], (s_up (s_up I 199 59 0) 216 ((Int32.ofNat r).toNatClampNeg) (Int32.ofNat v), J, kR w rem, Z), 0, 0)) 6 ?_ (fun m_ x_ Q_ k_ => ⟨trivial, trivial, ⟨sh_199, (Nat.succ_ne_zero 215)⟩, trivial, trivial, ⟨_, sh_216, (n_in (a := r) (by omega) (by decide))⟩, k_⟩)
  rw [n_cl (a := r) (by omega)]
  show w_R xs Ln 137 (32, [(0, .ref 199), (1, .int (Int32.ofNat r)), (2, .int (Int32.ofNat v))], [], (s_up (s_up I 199 59 0) 216 r (Int32.ofNat v), J, kR w rem, Z), 0, 0) _
  refine w_R.ret 2 (.inl (some (.int 1))) (s_up (s_up I 199 59 0) 216 r (Int32.ofNat v), J, kR w rem, Z) ?_ (fun x_ Q_ k_ => ⟨trivial, Or.inr rfl, ⟨Nat.le_of_ble_eq_true rfl, Nat.le_of_ble_eq_true rfl⟩, k_⟩)
  exact ⟨by rw [show v_137 I J Z r v = true from by unfold v_137; rfl] <;> rfl, by rw [show i_137 I J Z r v = (s_up (s_up I 199 59 0) 216 r (Int32.ofNat v)) from by unfold i_137; rfl]⟩
theorem b_5_0 (u : Int32) (j : Int32) (k : Int32) (hu : l_rg u 0 6 = false) : w_R xs Ln 5 (0, [(0, .ref 1), (1, .int u), (2, .int j), (3, .int k)], [], (I, J, kR w rem, Z), 0, 0) (fun o s => o = .inl (some (.int 0)) ∧ s = (I, J, kR w rem, Z)) := by
  refine w_R.go (c' := (1, [(0, .ref 1), (1, .int u), (2, .int j), (3, .int k)], [.int u], (I, J, kR w rem, Z), 0, 0)) 1 ?_ (fun m_ x_ Q_ k_ => ⟨trivial, k_⟩)
  refine w_R.callS (ce' := 0) (sl' := 0) (v := some (.int (s_b false))) (σ' := (I, J, kR w rem, Z)) (as := [.int u]) (rest := []) (d_31F u hu) ?_ rfl rfl rfl rfl rfl rfl rfl rfl rfl
  show w_R xs Ln 5 (4, [(0, .ref 1), (1, .int u), (2, .int j), (3, .int k)], [.int (s_b false)], (I, J, kR w rem, Z), 0, 0) _
  refine w_R.ret 3 (.inl (some (.int 0))) (I, J, kR w rem, Z) ?_ (fun x_ Q_ k_ => ⟨trivial, trivial, Or.inl rfl, ⟨Nat.le_of_ble_eq_true rfl, Nat.le_of_ble_eq_true rfl⟩, k_⟩)
  exact ⟨rfl, rfl⟩
theorem b_135_0 (u : Int32) (j : Int32) (k : Int32) (hu : l_rg u 0 6 = false) : w_R xs Ln 135 (0, [(0, .ref 199), (1, .int u), (2, .int j), (3, .int k)], [], (I, J, kR w rem, Z), 0, 0) (fun o s => o = .inl (some (.int 0)) ∧ s = (s_up I 199 59 0, J, kR w rem, Z)) := by
  refine w_R.go (c' := (6, [(0, .ref 199), (1, .int u), (2, .int j), (3, .int k)], [.int u], (s_up I 199 59 0, J, kR w rem, Z), 0, 0)) 4 ?_ (fun m_ x_ Q_ k_ => ⟨trivial, trivial, ⟨sh_199, trivial⟩, trivial, k_⟩)
  refine w_R.callS (ce' := 0) (sl' := 0) (v := some (.int (s_b false))) (σ' := (s_up I 199 59 0, J, kR w rem, Z)) (as := [.int u]) (rest := []) (d_109F u hu) ?_ rfl rfl rfl rfl rfl rfl rfl rfl rfl
  show w_R xs Ln 135 (9, [(0, .ref 199), (1, .int u), (2, .int j), (3, .int k)], [.int (s_b false)], (s_up I 199 59 0, J, kR w rem, Z), 0, 0) _
  refine w_R.ret 3 (.inl (some (.int 0))) (s_up I 199 59 0, J, kR w rem, Z) ?_ (fun x_ Q_ k_ => ⟨trivial, trivial, Or.inl rfl, ⟨Nat.le_of_ble_eq_true rfl, Nat.le_of_ble_eq_true rfl⟩, k_⟩)
  exact ⟨rfl, rfl⟩
theorem b_5_1 (u : Nat) (j : Int32) (k : Int32) (hu : u < 6) (hj : l_rg j 0 12 = false) : w_R xs Ln 5 (0, [(0, .ref 1), (1, .int (Int32.ofNat u)), (2, .int j), (3, .int k)], [], (I, J, kR w rem, Z), 0, 0) (fun o s => o = .inl (some (.int 0)) ∧ s = (I, J, kR w rem, Z)) := by
  refine w_R.go (c' := (1, [(0, .ref 1), (1, .int (Int32.ofNat u)), (2, .int j), (3, .int k)], [.int (Int32.ofNat u)], (I, J, kR w rem, Z), 0, 0)) 1 ?_ (fun m_ x_ Q_ k_ => ⟨trivial, k_⟩)
  refine w_R.callS (ce' := 0) (sl' := 0) (v := some (.int (s_b true))) (σ' := (I, J, kR w rem, Z)) (as := [.int (Int32.ofNat u)]) (rest := []) (d_31N u (by omega)) ?_ rfl rfl rfl rfl rfl rfl rfl rfl rfl
  show w_R xs Ln 5 (4, [(0, .ref 1), (1, .int (Int32.ofNat u)), (2, .int j), (3, .int k)], [.int (s_b true)], (I, J, kR w rem, Z), 0, 0) _
  refine w_R.go (c' := (8, [(0, .ref 1), (1, .int (Int32.ofNat u)), (2, .int j), (3, .int k)], [.int j], (I, J, kR w rem, Z), 0, 0)) 2 ?_ (fun m_ x_ Q_ k_ => ⟨trivial, trivial, k_⟩)
  refine w_R.callS (ce' := 0) (sl' := 0) (v := some (.int (s_b false))) (σ' := (I, J, kR w rem, Z)) (as := [.int j]) (rest := []) (d_28F j hj) ?_ rfl rfl rfl rfl rfl rfl rfl rfl rfl
  show w_R xs Ln 5 (11, [(0, .ref 1), (1, .int (Int32.ofNat u)), (2, .int j), (3, .int k)], [.int (s_b false)], (I, J, kR w rem, Z), 0, 0) _
  refine w_R.ret 3 (.inl (some (.int 0))) (I, J, kR w rem, Z) ?_ (fun x_ Q_ k_ => ⟨trivial, trivial, Or.inl rfl, ⟨Nat.le_of_ble_eq_true rfl, Nat.le_of_ble_eq_true rfl⟩, k_⟩)
  exact ⟨rfl, rfl⟩
theorem b_135_1 (u : Nat) (j : Int32) (k : Int32) (hu : u < 6) (hj : l_rg j 0 12 = false) : w_R xs Ln 135 (0, [(0, .ref 199), (1, .int (Int32.ofNat u)), (2, .int j), (3, .int k)], [], (I, J, kR w rem, Z), 0, 0) (fun o s => o = .inl (some (.int 0)) ∧ s = (s_up I 199 59 0, J, kR w rem, Z)) := by
  refine w_R.go (c' := (6, [(0, .ref 199), (1, .int (Int32.ofNat u)), (2, .int j), (3, .int k)], [.int (Int32.ofNat u)], (s_up I 199 59 0, J, kR w rem, Z), 0, 0)) 4 ?_ (fun m_ x_ Q_ k_ => ⟨trivial, trivial, ⟨sh_199, trivial⟩, trivial, k_⟩)
  refine w_R.callS (ce' := 0) (sl' := 0) (v := some (.int (s_b true))) (σ' := (s_up I 199 59 0, J, kR w rem, Z)) (as := [.int (Int32.ofNat u)]) (rest := []) (d_109N u (by omega)) ?_ rfl rfl rfl rfl rfl rfl rfl rfl rfl
  show w_R xs Ln 135 (9, [(0, .ref 199), (1, .int (Int32.ofNat u)), (2, .int j), (3, .int k)], [.int (s_b true)], (s_up I 199 59 0, J, kR w rem, Z), 0, 0) _
  refine w_R.go (c' := (13, [(0, .ref 199), (1, .int (Int32.ofNat u)), (2, .int j), (3, .int k)], [.int j], (s_up I 199 59 0, J, kR w rem, Z), 0, 0)) 2 ?_ (fun m_ x_ Q_ k_ => ⟨trivial, trivial, k_⟩)
  refine w_R.callS (ce' := 0) (sl' := 0) (v := some (.int (s_b false))) (σ' := (s_up I 199 59 0, J, kR w rem, Z)) (as := [.int j]) (rest := []) (d_107F j hj) ?_ rfl rfl rfl rfl rfl rfl rfl rfl rfl
  show w_R xs Ln 135 (16, [(0, .ref 199), (1, .int (Int32.ofNat u)), (2, .int j), (3, .int k)], [.int (s_b false)], (s_up I 199 59 0, J, kR w rem, Z), 0, 0) _
  refine w_R.ret 3 (.inl (some (.int 0))) (s_up I 199 59 0, J, kR w rem, Z) ?_ (fun x_ Q_ k_ => ⟨trivial, trivial, Or.inl rfl, ⟨Nat.le_of_ble_eq_true rfl, Nat.le_of_ble_eq_true rfl⟩, k_⟩)
  exact ⟨rfl, rfl⟩
theorem b_5_2 (u : Nat) (j : Nat) (k : Int32) (hu : u < 6) (hj : j < 12) (hk : l_rg k 0 3 = false) : w_R xs Ln 5 (0, [(0, .ref 1), (1, .int (Int32.ofNat u)), (2, .int (Int32.ofNat j)), (3, .int k)], [], (I, J, kR w rem, Z), 0, 0) (fun o s => o = .inl (some (.int 0)) ∧ s = (I, J, kR w rem, Z)) := by
  refine w_R.go (c' := (1, [(0, .ref 1), (1, .int (Int32.ofNat u)), (2, .int (Int32.ofNat j)), (3, .int k)], [.int (Int32.ofNat u)], (I, J, kR w rem, Z), 0, 0)) 1 ?_ (fun m_ x_ Q_ k_ => ⟨trivial, k_⟩)
  refine w_R.callS (ce' := 0) (sl' := 0) (v := some (.int (s_b true))) (σ' := (I, J, kR w rem, Z)) (as := [.int (Int32.ofNat u)]) (rest := []) (d_31N u (by omega)) ?_ rfl rfl rfl rfl rfl rfl rfl rfl rfl
  show w_R xs Ln 5 (4, [(0, .ref 1), (1, .int (Int32.ofNat u)), (2, .int (Int32.ofNat j)), (3, .int k)], [.int (s_b true)], (I, J, kR w rem, Z), 0, 0) _
  refine w_R.go (c' := (8, [(0, .ref 1), (1, .int (Int32.ofNat u)), (2, .int (Int32.ofNat j)), (3, .int k)], [.int (Int32.ofNat j)], (I, J, kR w rem, Z), 0, 0)) 2 ?_ (fun m_ x_ Q_ k_ => ⟨trivial, trivial, k_⟩)
  refine w_R.callS (ce' := 0) (sl' := 0) (v := some (.int (s_b true))) (σ' := (I, J, kR w rem, Z)) (as := [.int (Int32.ofNat j)]) (rest := []) (d_28N j (by omega)) ?_ rfl rfl rfl rfl rfl rfl rfl rfl rfl
  show w_R xs Ln 5 (11, [(0, .ref 1), (1, .int (Int32.ofNat u)), (2, .int (Int32.ofNat j)), (3, .int k)], [.int (s_b true)], (I, J, kR w rem, Z), 0, 0) _
  refine w_R.go (c' := (i_br .lt k 0 23 18, [(0, .ref 1), (1, .int (Int32.ofNat u)), (2, .int (Int32.ofNat j)), (3, .int k)], [], (I, J, kR w rem, Z), 0, 0)) 3 ?_ (fun m_ x_ Q_ k_ => ⟨trivial, trivial, trivial, k_⟩)
  refine w_R.br_lt (fun h1 => ?_) (fun h1 => ?_)
  · refine w_R.ret 2 (.inl (some (.int 0))) (I, J, kR w rem, Z) ?_ (fun x_ Q_ k_ => ⟨trivial, Or.inl rfl, ⟨Nat.le_of_ble_eq_true rfl, Nat.le_of_ble_eq_true rfl⟩, k_⟩)
    exact ⟨rfl, rfl⟩
  · refine w_R.go (c' := (i_br .le k 2 25 23, [(0, .ref 1), (1, .int (Int32.ofNat u)), (2, .int (Int32.ofNat j)), (3, .int k)], [], (I, J, kR w rem, Z), 0, 0)) 3 ?_ (fun m_ x_ Q_ k_ => ⟨trivial, trivial, trivial, k_⟩)
    refine w_R.br_le (fun h2 => ?_) (fun h2 => ?_)
    · exact (l_no hk h1 h2 rfl rfl).elim
    · refine w_R.ret 2 (.inl (some (.int 0))) (I, J, kR w rem, Z) ?_ (fun x_ Q_ k_ => ⟨trivial, Or.inl rfl, ⟨Nat.le_of_ble_eq_true rfl, Nat.le_of_ble_eq_true rfl⟩, k_⟩)
      exact ⟨rfl, rfl⟩
theorem b_135_2 (u : Nat) (j : Nat) (k : Int32) (hu : u < 6) (hj : j < 12) (hk : l_rg k 0 3 = false) : w_R xs Ln 135 (0, [(0, .ref 199), (1, .int (Int32.ofNat u)), (2, .int (Int32.ofNat j)), (3, .int k)], [], (I, J, kR w rem, Z), 0, 0) (fun o s => o = .inl (some (.int 0)) ∧ s = (s_up I 199 59 0, J, kR w rem, Z)) := by
  refine w_R.go (c' := (6, [(0, .ref 199), (1, .int (Int32.ofNat u)), (2, .int (Int32.ofNat j)), (3, .int k)], [.int (Int32.ofNat u)], (s_up I 199 59 0, J, kR w rem, Z), 0, 0)) 4 ?_ (fun m_ x_ Q_ k_ => ⟨trivial, trivial, ⟨sh_199, trivial⟩, trivial, k_⟩)
  refine w_R.callS (ce' := 0) (sl' := 0) (v := some (.int (s_b true))) (σ' := (s_up I 199 59 0, J, kR w rem, Z)) (as := [.int (Int32.ofNat u)]) (rest := []) (d_109N u (by omega)) ?_ rfl rfl rfl rfl rfl rfl rfl rfl rfl
  show w_R xs Ln 135 (9, [(0, .ref 199), (1, .int (Int32.ofNat u)), (2, .int (Int32.ofNat j)), (3, .int k)], [.int (s_b true)], (s_up I 199 59 0, J, kR w rem, Z), 0, 0) _
  refine w_R.go (c' := (13, [(0, .ref 199), (1, .int (Int32.ofNat u)), (2, .int (Int32.ofNat j)), (3, .int k)], [.int (Int32.ofNat j)], (s_up I 199 59 0, J, kR w rem, Z), 0, 0)) 2 ?_ (fun m_ x_ Q_ k_ => ⟨trivial, trivial, k_⟩)
  refine w_R.callS (ce' := 0) (sl' := 0) (v := some (.int (s_b true))) (σ' := (s_up I 199 59 0, J, kR w rem, Z)) (as := [.int (Int32.ofNat j)]) (rest := []) (d_107N j (by omega)) ?_ rfl rfl rfl rfl rfl rfl rfl rfl rfl
  show w_R xs Ln 135 (16, [(0, .ref 199), (1, .int (Int32.ofNat u)), (2, .int (Int32.ofNat j)), (3, .int k)], [.int (s_b true)], (s_up I 199 59 0, J, kR w rem, Z), 0, 0) _
  refine w_R.go (c' := (22, [(0, .ref 199), (1, .int (Int32.ofNat u)), (2, .int (Int32.ofNat j)), (3, .int k)], [.int 2, .int 0, .int k], (s_up I 199 59 0, J, kR w rem, Z), 0, 0)) 4 ?_ (fun m_ x_ Q_ k_ => ⟨trivial, trivial, trivial, trivial, k_⟩)
  refine w_R.callS (ce' := 0) (sl' := 0) (v := some (.int (s_b false))) (σ' := (s_up I 199 59 0, J, kR w rem, Z)) (as := [.int k, .int 0, .int 2]) (rest := []) (d_106F k 0 2 (by decide) (by decide) hk) ?_ rfl rfl rfl rfl rfl rfl rfl rfl rfl
  show w_R xs Ln 135 (25, [(0, .ref 199), (1, .int (Int32.ofNat u)), (2, .int (Int32.ofNat j)), (3, .int k)], [.int (s_b false)], (s_up I 199 59 0, J, kR w rem, Z), 0, 0) _
  refine w_R.ret 3 (.inl (some (.int 0))) (s_up I 199 59 0, J, kR w rem, Z) ?_ (fun x_ Q_ k_ => ⟨trivial, trivial, Or.inl rfl, ⟨Nat.le_of_ble_eq_true rfl, Nat.le_of_ble_eq_true rfl⟩, k_⟩)
  exact ⟨rfl, rfl⟩
def v_5 (I : Nat → Nat → Int32) (J : Nat → Nat → Int64) (Z : Nat → Nat → Bool) (u : Nat) (j : Nat) (k : Nat) : Bool := if (I (135 + u) 0) = 0 then true else if (I (135 + u) 0) = 3 then true else false
def i_5 (I : Nat → Nat → Int32) (J : Nat → Nat → Int64) (Z : Nat → Nat → Bool) (u : Nat) (j : Nat) (k : Nat) : Nat → Nat → Int32 := if (I (135 + u) 0) = 0 then s_up (s_up I (135 + u) 1 (Int32.ofNat j)) (135 + u) 2 (Int32.ofNat k) else if (I (135 + u) 0) = 3 then s_up (s_up I (135 + u) 1 (Int32.ofNat j)) (135 + u) 2 (Int32.ofNat k) else I
theorem d_5 (u : Nat) (j : Nat) (k : Nat) (hu : u < 6) (hj : j < 12) (hk : k < 3) : w_R xs Ln 5 (0, [(0, .ref 1), (1, .int (Int32.ofNat u)), (2, .int (Int32.ofNat j)), (3, .int (Int32.ofNat k))], [], (I, J, kR w rem, Z), 0, 0) (fun o s => o = .inl (some (.int (s_b (v_5 I J Z u j k)))) ∧ s = (i_5 I J Z u j k, J, kR w rem, Z)) := by
  refine w_R.go (c' := (1, [(0, .ref 1), (1, .int (Int32.ofNat u)), (2, .int (Int32.ofNat j)), (3, .int (Int32.ofNat k))], [.int (Int32.ofNat u)], (I, J, kR w rem, Z), 0, 0)) 1 ?_ (fun m_ x_ Q_ k_ => ⟨trivial, k_⟩)
  refine w_R.callS (ce' := 0) (sl' := 0) (v := some (.int (s_b true))) (σ' := (I, J, kR w rem, Z)) (as := [.int (Int32.ofNat u)]) (rest := []) (d_31N u (by omega)) ?_ rfl rfl rfl rfl rfl rfl rfl rfl rfl
  show w_R xs Ln 5 (4, [(0, .ref 1), (1, .int (Int32.ofNat u)), (2, .int (Int32.ofNat j)), (3, .int (Int32.ofNat k))], [.int (s_b true)], (I, J, kR w rem, Z), 0, 0) _
  refine w_R.go (c' := (8, [(0, .ref 1), (1, .int (Int32.ofNat u)), (2, .int (Int32.ofNat j)), (3, .int (Int32.ofNat k))], [.int (Int32.ofNat j)], (I, J, kR w rem, Z), 0, 0)) 2 ?_ (fun m_ x_ Q_ k_ => ⟨trivial, trivial, k_⟩)
  refine w_R.callS (ce' := 0) (sl' := 0) (v := some (.int (s_b true))) (σ' := (I, J, kR w rem, Z)) (as := [.int (Int32.ofNat j)]) (rest := []) (d_28N j (by omega)) ?_ rfl rfl rfl rfl rfl rfl rfl rfl rfl
  show w_R xs Ln 5 (11, [(0, .ref 1), (1, .int (Int32.ofNat u)), (2, .int (Int32.ofNat j)), (3, .int (Int32.ofNat k))], [.int (s_b true)], (I, J, kR w rem, Z), 0, 0) _
  refine w_R.go (c' := (i_br .lt (Int32.ofNat k) 0 23 18, [(0, .ref 1), (1, .int (Int32.ofNat u)), (2, .int (Int32.ofNat j)), (3, .int (Int32.ofNat k))], [], (I, J, kR w rem, Z), 0, 0)) 3 ?_ (fun m_ x_ Q_ k_ => ⟨trivial, trivial, trivial, k_⟩)
  rw [show i_br .lt (Int32.ofNat k) 0 23 18 = 18 from if_neg (mt (n_lt (a := k) (b := 0) (by omega) (by omega)).mp (by omega))]
  show w_R xs Ln 5 (18, [(0, .ref 1), (1, .int (Int32.ofNat u)), (2, .int (Int32.ofNat j)), (3, .int (Int32.ofNat k))], [], (I, J, kR w rem, Z), 0, 0) _
  refine w_R.go (c' := (i_br .le (Int32.ofNat k) 2 25 23, [(0, .ref 1), (1, .int (Int32.ofNat u)), (2, .int (Int32.ofNat j)), (3, .int (Int32.ofNat k))], [], (I, J, kR w rem, Z), 0, 0)) 3 ?_ (fun m_ x_ Q_ k_ => ⟨trivial, trivial, trivial, k_⟩)
  rw [show i_br .le (Int32.ofNat k) 2 25 23 = 25 from if_pos (Int32.not_lt.mp (mt (n_lt (a := 2) (b := k) (by omega) (by omega)).mp (by omega)))]
  show w_R xs Ln 5 (25, [(0, .ref 1), (1, .int (Int32.ofNat u)), (2, .int (Int32.ofNat j)), (3, .int (Int32.ofNat k))], [], (I, J, kR w rem, Z), 0, 0) _
  refine w_R.go (c' := (31, [(0, .ref 1), (1, .int (Int32.ofNat u)), (2, .int (Int32.ofNat j)), (3, .int (Int32.ofNat k))], [.ref (kR w rem 11 (Int32.ofNat u).toNatClampNeg)], (I, J, kR w rem, Z), 0, 0)) 4 ?_ (fun m_ x_ Q_ k_ => ⟨trivial, ⟨sh_1, (Nat.succ_ne_zero 10)⟩, trivial, ⟨⟨_, sh_11, (n_in (a := u) (by omega) (by decide))⟩, (show kR w rem 11 (Int32.ofNat u).toNatClampNeg ≠ 0 by rw [n_cl (a := u) (by omega), r_amb (w := w) (rem := rem) (u := u) (by omega)]; omega)⟩, k_⟩)
  rw [n_cl (a := u) (by omega)]
  rw [r_amb (w := w) (rem := rem) (u := u) (by omega)]
  show w_R xs Ln 5 (31, [(0, .ref 1), (1, .int (Int32.ofNat u)), (2, .int (Int32.ofNat j)), (3, .int (Int32.ofNat k))], [.ref (135 + u)], (I, J, kR w rem, Z), 0, 0) _
  refine w_R.go (c' := (i_br .eq (I (135 + u) 0) 0 52 41, [(4, .ref (135 + u)), (0, .ref 1), (1, .int (Int32.ofNat u)), (2, .int (Int32.ofNat j)), (3, .int (Int32.ofNat k))], [], (I, J, kR w rem, Z), 0, 0)) 4 ?_ (fun m_ x_ Q_ k_ => ⟨trivial, trivial, ⟨(sh_amb (by omega)), trivial⟩, trivial, k_⟩)
  refine w_R.br_eq (fun h1 => ?_) (fun h1 => ?_)
  · refine w_R.ret 8 (.inl (some (.int 1))) (s_up (s_up I (135 + u) 1 (Int32.ofNat j)) (135 + u) 2 (Int32.ofNat k), J, kR w rem, Z) ?_ (fun x_ Q_ k_ => ⟨trivial, trivial, ⟨(sh_amb (by omega)), trivial⟩, trivial, trivial, ⟨(sh_amb (by omega)), trivial⟩, trivial, Or.inr rfl, ⟨Nat.le_of_ble_eq_true rfl, Nat.le_of_ble_eq_true rfl⟩, k_⟩)
    exact ⟨by rw [show v_5 I J Z u j k = true from by unfold v_5; rw [if_pos h1]] <;> rfl, by rw [show i_5 I J Z u j k = (s_up (s_up I (135 + u) 1 (Int32.ofNat j)) (135 + u) 2 (Int32.ofNat k)) from by unfold i_5; rw [if_pos h1]]⟩
  · refine w_R.go (c' := (i_br .eq (I (135 + u) 0) 3 52 50, [(4, .ref (135 + u)), (0, .ref 1), (1, .int (Int32.ofNat u)), (2, .int (Int32.ofNat j)), (3, .int (Int32.ofNat k))], [], (I, J, kR w rem, Z), 0, 0)) 4 ?_ (fun m_ x_ Q_ k_ => ⟨trivial, ⟨(sh_amb (by omega)), trivial⟩, trivial, trivial, k_⟩)
    refine w_R.br_eq (fun h2 => ?_) (fun h2 => ?_)
    · refine w_R.ret 8 (.inl (some (.int 1))) (s_up (s_up I (135 + u) 1 (Int32.ofNat j)) (135 + u) 2 (Int32.ofNat k), J, kR w rem, Z) ?_ (fun x_ Q_ k_ => ⟨trivial, trivial, ⟨(sh_amb (by omega)), trivial⟩, trivial, trivial, ⟨(sh_amb (by omega)), trivial⟩, trivial, Or.inr rfl, ⟨Nat.le_of_ble_eq_true rfl, Nat.le_of_ble_eq_true rfl⟩, k_⟩)
      exact ⟨by rw [show v_5 I J Z u j k = true from by unfold v_5; rw [if_neg h1, if_pos h2]] <;> rfl, by rw [show i_5 I J Z u j k = (s_up (s_up I (135 + u) 1 (Int32.ofNat j)) (135 + u) 2 (Int32.ofNat k)) from by unfold i_5; rw [if_neg h1, if_pos h2]]⟩
    · refine w_R.ret 2 (.inl (some (.int 0))) (I, J, kR w rem, Z) ?_ (fun x_ Q_ k_ => ⟨trivial, Or.inl rfl, ⟨Nat.le_of_ble_eq_true rfl, Nat.le_of_ble_eq_true rfl⟩, k_⟩)
      exact ⟨by rw [show v_5 I J Z u j k = false from by unfold v_5; rw [if_neg h1, if_neg h2]] <;> rfl, by rw [show i_5 I J Z u j k = I from by unfold i_5; rw [if_neg h1, if_neg h2]]⟩
def v_135 (I : Nat → Nat → Int32) (J : Nat → Nat → Int64) (Z : Nat → Nat → Bool) (u : Nat) (j : Nat) (k : Nat) : Bool := if (I 210 u) = 0 then true else if (I 210 u) = 3 then true else false
def i_135 (I : Nat → Nat → Int32) (J : Nat → Nat → Int64) (Z : Nat → Nat → Bool) (u : Nat) (j : Nat) (k : Nat) : Nat → Nat → Int32 := if (I 210 u) = 0 then s_up (s_up (s_up I 199 59 0) 208 u (Int32.ofNat j)) 209 u (Int32.ofNat k) else if (I 210 u) = 3 then s_up (s_up (s_up I 199 59 0) 208 u (Int32.ofNat j)) 209 u (Int32.ofNat k) else s_up I 199 59 0
theorem d_135 (u : Nat) (j : Nat) (k : Nat) (hu : u < 6) (hj : j < 12) (hk : k < 3) : w_R xs Ln 135 (0, [(0, .ref 199), (1, .int (Int32.ofNat u)), (2, .int (Int32.ofNat j)), (3, .int (Int32.ofNat k))], [], (I, J, kR w rem, Z), 0, 0) (fun o s => o = .inl (some (.int (s_b (v_135 I J Z u j k)))) ∧ s = (i_135 I J Z u j k, J, kR w rem, Z)) := by
  refine w_R.go (c' := (6, [(0, .ref 199), (1, .int (Int32.ofNat u)), (2, .int (Int32.ofNat j)), (3, .int (Int32.ofNat k))], [.int (Int32.ofNat u)], (s_up I 199 59 0, J, kR w rem, Z), 0, 0)) 4 ?_ (fun m_ x_ Q_ k_ => ⟨trivial, trivial, ⟨sh_199, trivial⟩, trivial, k_⟩)
  refine w_R.callS (ce' := 0) (sl' := 0) (v := some (.int (s_b true))) (σ' := (s_up I 199 59 0, J, kR w rem, Z)) (as := [.int (Int32.ofNat u)]) (rest := []) (d_109N u (by omega)) ?_ rfl rfl rfl rfl rfl rfl rfl rfl rfl
  show w_R xs Ln 135 (9, [(0, .ref 199), (1, .int (Int32.ofNat u)), (2, .int (Int32.ofNat j)), (3, .int (Int32.ofNat k))], [.int (s_b true)], (s_up I 199 59 0, J, kR w rem, Z), 0, 0) _
  refine w_R.go (c' := (13, [(0, .ref 199), (1, .int (Int32.ofNat u)), (2, .int (Int32.ofNat j)), (3, .int (Int32.ofNat k))], [.int (Int32.ofNat j)], (s_up I 199 59 0, J, kR w rem, Z), 0, 0)) 2 ?_ (fun m_ x_ Q_ k_ => ⟨trivial, trivial, k_⟩)
  refine w_R.callS (ce' := 0) (sl' := 0) (v := some (.int (s_b true))) (σ' := (s_up I 199 59 0, J, kR w rem, Z)) (as := [.int (Int32.ofNat j)]) (rest := []) (d_107N j (by omega)) ?_ rfl rfl rfl rfl rfl rfl rfl rfl rfl
  show w_R xs Ln 135 (16, [(0, .ref 199), (1, .int (Int32.ofNat u)), (2, .int (Int32.ofNat j)), (3, .int (Int32.ofNat k))], [.int (s_b true)], (s_up I 199 59 0, J, kR w rem, Z), 0, 0) _
  refine w_R.go (c' := (22, [(0, .ref 199), (1, .int (Int32.ofNat u)), (2, .int (Int32.ofNat j)), (3, .int (Int32.ofNat k))], [.int 2, .int 0, .int (Int32.ofNat k)], (s_up I 199 59 0, J, kR w rem, Z), 0, 0)) 4 ?_ (fun m_ x_ Q_ k_ => ⟨trivial, trivial, trivial, trivial, k_⟩)
  refine w_R.callS (ce' := 0) (sl' := 0) (v := some (.int (s_b true))) (σ' := (s_up I 199 59 0, J, kR w rem, Z)) (as := [.int (Int32.ofNat k), .int 0, .int 2]) (rest := []) (d_106T k 0 2 (by omega) (by omega) (by decide)) ?_ rfl rfl rfl rfl rfl rfl rfl rfl rfl
  show w_R xs Ln 135 (25, [(0, .ref 199), (1, .int (Int32.ofNat u)), (2, .int (Int32.ofNat j)), (3, .int (Int32.ofNat k))], [.int (s_b true)], (s_up I 199 59 0, J, kR w rem, Z), 0, 0) _
  refine w_R.go (c' := (34, [(0, .ref 199), (1, .int (Int32.ofNat u)), (2, .int (Int32.ofNat j)), (3, .int (Int32.ofNat k))], [.int ((s_up I 199 59 0) 210 (Int32.ofNat u).toNatClampNeg)], (s_up I 199 59 0, J, kR w rem, Z), 0, 0)) 5 ?_ (fun m_ x_ Q_ k_ => ⟨trivial, trivial, ⟨sh_199, (Nat.succ_ne_zero 209)⟩, trivial, ⟨_, sh_210, (n_in (a := u) (by omega) (by decide))⟩, k_⟩)
  rw [n_cl (a := u) (by omega)]
  rw [show (s_up I 199 59 0) 210 u = I 210 u from (s_upa (by decide))]
  show w_R xs Ln 135 (34, [(0, .ref 199), (1, .int (Int32.ofNat u)), (2, .int (Int32.ofNat j)), (3, .int (Int32.ofNat k))], [.int (I 210 u)], (s_up I 199 59 0, J, kR w rem, Z), 0, 0) _
  refine w_R.go (c' := (i_br .eq (I 210 u) 0 49 37, [(0, .ref 199), (1, .int (Int32.ofNat u)), (2, .int (Int32.ofNat j)), (3, .int (Int32.ofNat k))], [], (s_up I 199 59 0, J, kR w rem, Z), 0, 0)) 1 ?_ (fun m_ x_ Q_ k_ => ⟨trivial, k_⟩)
  refine w_R.br_eq (fun h1 => ?_) (fun h1 => ?_)
  · refine w_R.go (c' := (56, [(0, .ref 199), (1, .int (Int32.ofNat u)), (2, .int (Int32.ofNat j)), (3, .int (Int32.ofNat k))], [], (s_up (s_up I 199 59 0) 208 ((Int32.ofNat u).toNatClampNeg) (Int32.ofNat j), J, kR w rem, Z), 0, 0)) 5 ?_ (fun m_ x_ Q_ k_ => ⟨trivial, ⟨sh_199, (Nat.succ_ne_zero 207)⟩, trivial, trivial, ⟨_, sh_208, (n_in (a := u) (by omega) (by decide))⟩, k_⟩)
    rw [n_cl (a := u) (by omega)]
    show w_R xs Ln 135 (56, [(0, .ref 199), (1, .int (Int32.ofNat u)), (2, .int (Int32.ofNat j)), (3, .int (Int32.ofNat k))], [], (s_up (s_up I 199 59 0) 208 u (Int32.ofNat j), J, kR w rem, Z), 0, 0) _
    refine w_R.go (c' := (63, [(0, .ref 199), (1, .int (Int32.ofNat u)), (2, .int (Int32.ofNat j)), (3, .int (Int32.ofNat k))], [], (s_up (s_up (s_up I 199 59 0) 208 u (Int32.ofNat j)) 209 ((Int32.ofNat u).toNatClampNeg) (Int32.ofNat k), J, kR w rem, Z), 0, 0)) 5 ?_ (fun m_ x_ Q_ k_ => ⟨trivial, ⟨sh_199, (Nat.succ_ne_zero 208)⟩, trivial, trivial, ⟨_, sh_209, (n_in (a := u) (by omega) (by decide))⟩, k_⟩)
    rw [n_cl (a := u) (by omega)]
    show w_R xs Ln 135 (63, [(0, .ref 199), (1, .int (Int32.ofNat u)), (2, .int (Int32.ofNat j)), (3, .int (Int32.ofNat k))], [], (s_up (s_up (s_up I 199 59 0) 208 u (Int32.ofNat j)) 209 u (Int32.ofNat k), J, kR w rem, Z), 0, 0) _
    refine w_R.ret 2 (.inl (some (.int 1))) (s_up (s_up (s_up I 199 59 0) 208 u (Int32.ofNat j)) 209 u (Int32.ofNat k), J, kR w rem, Z) ?_ (fun x_ Q_ k_ => ⟨trivial, Or.inr rfl, ⟨Nat.le_of_ble_eq_true rfl, Nat.le_of_ble_eq_true rfl⟩, k_⟩)
    exact ⟨by rw [show v_135 I J Z u j k = true from by unfold v_135; rw [if_pos h1]] <;> rfl, by rw [show i_135 I J Z u j k = (s_up (s_up (s_up I 199 59 0) 208 u (Int32.ofNat j)) 209 u (Int32.ofNat k)) from by unfold i_135; rw [if_pos h1]]⟩
  · refine w_R.go (c' := (43, [(0, .ref 199), (1, .int (Int32.ofNat u)), (2, .int (Int32.ofNat j)), (3, .int (Int32.ofNat k))], [.int ((s_up I 199 59 0) 210 (Int32.ofNat u).toNatClampNeg)], (s_up I 199 59 0, J, kR w rem, Z), 0, 0)) 4 ?_ (fun m_ x_ Q_ k_ => ⟨trivial, ⟨sh_199, (Nat.succ_ne_zero 209)⟩, trivial, ⟨_, sh_210, (n_in (a := u) (by omega) (by decide))⟩, k_⟩)
    rw [n_cl (a := u) (by omega)]
    rw [show (s_up I 199 59 0) 210 u = I 210 u from (s_upa (by decide))]
    show w_R xs Ln 135 (43, [(0, .ref 199), (1, .int (Int32.ofNat u)), (2, .int (Int32.ofNat j)), (3, .int (Int32.ofNat k))], [.int (I 210 u)], (s_up I 199 59 0, J, kR w rem, Z), 0, 0) _
    refine w_R.go (c' := (i_br .eq (I 210 u) 3 49 47, [(0, .ref 199), (1, .int (Int32.ofNat u)), (2, .int (Int32.ofNat j)), (3, .int (Int32.ofNat k))], [], (s_up I 199 59 0, J, kR w rem, Z), 0, 0)) 2 ?_ (fun m_ x_ Q_ k_ => ⟨trivial, trivial, k_⟩)
    refine w_R.br_eq (fun h2 => ?_) (fun h2 => ?_)
    · refine w_R.go (c' := (56, [(0, .ref 199), (1, .int (Int32.ofNat u)), (2, .int (Int32.ofNat j)), (3, .int (Int32.ofNat k))], [], (s_up (s_up I 199 59 0) 208 ((Int32.ofNat u).toNatClampNeg) (Int32.ofNat j), J, kR w rem, Z), 0, 0)) 5 ?_ (fun m_ x_ Q_ k_ => ⟨trivial, ⟨sh_199, (Nat.succ_ne_zero 207)⟩, trivial, trivial, ⟨_, sh_208, (n_in (a := u) (by omega) (by decide))⟩, k_⟩)
      rw [n_cl (a := u) (by omega)]
      show w_R xs Ln 135 (56, [(0, .ref 199), (1, .int (Int32.ofNat u)), (2, .int (Int32.ofNat j)), (3, .int (Int32.ofNat k))], [], (s_up (s_up I 199 59 0) 208 u (Int32.ofNat j), J, kR w rem, Z), 0, 0) _
      refine w_R.go (c' := (63, [(0, .ref 199), (1, .int (Int32.ofNat u)), (2, .int (Int32.ofNat j)), (3, .int (Int32.ofNat k))], [], (s_up (s_up (s_up I 199 59 0) 208 u (Int32.ofNat j)) 209 ((Int32.ofNat u).toNatClampNeg) (Int32.ofNat k), J, kR w rem, Z), 0, 0)) 5 ?_ (fun m_ x_ Q_ k_ => ⟨trivial, ⟨sh_199, (Nat.succ_ne_zero 208)⟩, trivial, trivial, ⟨_, sh_209, (n_in (a := u) (by omega) (by decide))⟩, k_⟩)
      rw [n_cl (a := u) (by omega)]
      show w_R xs Ln 135 (63, [(0, .ref 199), (1, .int (Int32.ofNat u)), (2, .int (Int32.ofNat j)), (3, .int (Int32.ofNat k))], [], (s_up (s_up (s_up I 199 59 0) 208 u (Int32.ofNat j)) 209 u (Int32.ofNat k), J, kR w rem, Z), 0, 0) _
      refine w_R.ret 2 (.inl (some (.int 1))) (s_up (s_up (s_up I 199 59 0) 208 u (Int32.ofNat j)) 209 u (Int32.ofNat k), J, kR w rem, Z) ?_ (fun x_ Q_ k_ => ⟨trivial, Or.inr rfl, ⟨Nat.le_of_ble_eq_true rfl, Nat.le_of_ble_eq_true rfl⟩, k_⟩)
      exact ⟨by rw [show v_135 I J Z u j k = true from by unfold v_135; rw [if_neg h1, if_pos h2]] <;> rfl, by rw [show i_135 I J Z u j k = (s_up (s_up (s_up I 199 59 0) 208 u (Int32.ofNat j)) 209 u (Int32.ofNat k)) from by unfold i_135; rw [if_neg h1, if_pos h2]]⟩
    · refine w_R.ret 2 (.inl (some (.int 0))) (s_up I 199 59 0, J, kR w rem, Z) ?_ (fun x_ Q_ k_ => ⟨trivial, Or.inl rfl, ⟨Nat.le_of_ble_eq_true rfl, Nat.le_of_ble_eq_true rfl⟩, k_⟩)
      exact ⟨by rw [show v_135 I J Z u j k = false from by unfold v_135; rw [if_neg h1, if_neg h2]] <;> rfl, by rw [show i_135 I J Z u j k = (s_up I 199 59 0) from by unfold i_135; rw [if_neg h1, if_neg h2]]⟩
end Small5
end
section
/-! The law's loop, out of what each of its cases does. -/
section LawLoop
variable {xs : Nat → Int32} {Ln : Nat}
abbrev lw_L (m : Nat) : i_L := [(4, .int (Int32.ofNat (5 * m))), (3, .ref 256), (2, .ref 199), (1, .ref 1), (0, .retAddr 0)]
def lw_tg : List Nat := [160, 209, 246, 307, 332, 381, 418, 455, 510, 558, 595, 675, 771, 839, 887, 935, 948, 985, 1010, 1035, 1060, 1085, 1110, 1147, 1208, 1245, 1294]
/-- a case of the law keeps the relation and comes to the loop's end -/
def lw_case (xs : Nat → Int32) (Ln : Nat) (Rel : Nat → s_S → Prop) (pc : Nat) : Prop := ∀ (m : Nat) (σ : s_S) (ce sl : Nat) (Q : i_O → s_S → Prop), Rel m σ → 5 * m + 5 ≤ Ln → Ln ≤ 2560 → ce ≤ 256 + 2 * m → sl ≤ 3783 + 12 * m →
  (∀ (σ' : s_S) (ce' sl' : Nat), Rel (m + 1) σ' → ce' ≤ 256 + 2 * m + 2 → sl' ≤ 3783 + 12 * m + 12 → w_R xs Ln 169 (1343, lw_L m, [], σ', ce', sl') Q) → w_R xs Ln 169 (pc, lw_L m, [], σ, ce, sl) Q
theorem lw_len {n : Nat} (h : n ≤ 2560) : (Int32.ofNat n - 5).toInt = (n : Int) - 5 := by
  by_cases h5 : 5 ≤ n
  · rw [show (5 : Int32) = Int32.ofNat 5 from rfl, n_sub h5, n_int (by omega)]
    omega
  · have h1 : n = 0 ∨ n = 1 ∨ n = 2 ∨ n = 3 ∨ n = 4 := by omega
    rcases h1 with rfl | rfl | rfl | rfl | rfl <;> decide
set_option maxHeartbeats 4000000 in
theorem lw_one {Rel : Nat → s_S → Prop} (hmo : ∀ m σ, Rel m σ → Rel (m + 1) σ) (hL : Ln ≤ 2560) (hc : ∀ pc ∈ lw_tg, lw_case xs Ln Rel pc) (m : Nat) (σ : s_S) (ce sl : Nat) (Q : i_O → s_S → Prop) (hR : Rel m σ) (hm : 5 * m + 5 ≤ Ln) (hce : ce ≤ 256 + 2 * m) (hsl : sl ≤ 3783 + 12 * m)
    (hk : ∀ (σ' : s_S) (ce' sl' : Nat), Rel (m + 1) σ' → ce' ≤ 256 + 2 * m + 2 → sl' ≤ 3783 + 12 * m + 12 → w_R xs Ln 169 (1343, lw_L m, [], σ', ce', sl') Q) : w_R xs Ln 169 (32, lw_L m, [], σ, ce, sl) Q := by
  refine w_R.go (c' := (if (xs (Int32.ofNat (5 * m)).toNatClampNeg &&& 31).toInt < 0 ∨ 26 < (xs (Int32.ofNat (5 * m)).toNatClampNeg &&& 31).toInt then 1343 else i_tg 39 ((#[121, 170, 207, 268, 293, 342, 379, 416, 471, 519, 556, 636, 732, 800, 848, 896, 909, 946, 971, 996, 1021, 1046, 1071, 1108, 1169, 1206, 1255] : Array Int).getD ((xs (Int32.ofNat (5 * m)).toNatClampNeg &&& 31).toInt - 0).toNat 0), lw_L m, [], σ, ce, sl)) 6 ?_ (fun m_ x_ Q_ k_ => ⟨rfl, trivial, ⟨rfl, n_in (a := 5 * m) (by omega) (by omega)⟩, trivial, trivial, trivial, k_⟩)
  generalize (xs (Int32.ofNat (5 * m)).toNatClampNeg &&& 31) = X
  by_cases h0 : X = 0
  · rw [show (if X.toInt < 0 ∨ 26 < X.toInt then 1343 else i_tg 39 ((#[121, 170, 207, 268, 293, 342, 379, 416, 471, 519, 556, 636, 732, 800, 848, 896, 909, 946, 971, 996, 1021, 1046, 1071, 1108, 1169, 1206, 1255] : Array Int).getD (X.toInt - 0).toNat 0)) = 160 by rw [h0]; rfl]
    exact hc 160 (by decide) m σ ce sl Q hR hm hL hce hsl hk
  by_cases h1 : X = 1
  · rw [show (if X.toInt < 0 ∨ 26 < X.toInt then 1343 else i_tg 39 ((#[121, 170, 207, 268, 293, 342, 379, 416, 471, 519, 556, 636, 732, 800, 848, 896, 909, 946, 971, 996, 1021, 1046, 1071, 1108, 1169, 1206, 1255] : Array Int).getD (X.toInt - 0).toNat 0)) = 209 by rw [h1]; rfl]
    exact hc 209 (by decide) m σ ce sl Q hR hm hL hce hsl hk
  by_cases h2 : X = 2
  · rw [show (if X.toInt < 0 ∨ 26 < X.toInt then 1343 else i_tg 39 ((#[121, 170, 207, 268, 293, 342, 379, 416, 471, 519, 556, 636, 732, 800, 848, 896, 909, 946, 971, 996, 1021, 1046, 1071, 1108, 1169, 1206, 1255] : Array Int).getD (X.toInt - 0).toNat 0)) = 246 by rw [h2]; rfl]
    exact hc 246 (by decide) m σ ce sl Q hR hm hL hce hsl hk
  by_cases h3 : X = 3
  · rw [show (if X.toInt < 0 ∨ 26 < X.toInt then 1343 else i_tg 39 ((#[121, 170, 207, 268, 293, 342, 379, 416, 471, 519, 556, 636, 732, 800, 848, 896, 909, 946, 971, 996, 1021, 1046, 1071, 1108, 1169, 1206, 1255] : Array Int).getD (X.toInt - 0).toNat 0)) = 307 by rw [h3]; rfl]
    exact hc 307 (by decide) m σ ce sl Q hR hm hL hce hsl hk
  by_cases h4 : X = 4
  · rw [show (if X.toInt < 0 ∨ 26 < X.toInt then 1343 else i_tg 39 ((#[121, 170, 207, 268, 293, 342, 379, 416, 471, 519, 556, 636, 732, 800, 848, 896, 909, 946, 971, 996, 1021, 1046, 1071, 1108, 1169, 1206, 1255] : Array Int).getD (X.toInt - 0).toNat 0)) = 332 by rw [h4]; rfl]
    exact hc 332 (by decide) m σ ce sl Q hR hm hL hce hsl hk
  by_cases h5 : X = 5
  · rw [show (if X.toInt < 0 ∨ 26 < X.toInt then 1343 else i_tg 39 ((#[121, 170, 207, 268, 293, 342, 379, 416, 471, 519, 556, 636, 732, 800, 848, 896, 909, 946, 971, 996, 1021, 1046, 1071, 1108, 1169, 1206, 1255] : Array Int).getD (X.toInt - 0).toNat 0)) = 381 by rw [h5]; rfl]
    exact hc 381 (by decide) m σ ce sl Q hR hm hL hce hsl hk
  by_cases h6 : X = 6
  · rw [show (if X.toInt < 0 ∨ 26 < X.toInt then 1343 else i_tg 39 ((#[121, 170, 207, 268, 293, 342, 379, 416, 471, 519, 556, 636, 732, 800, 848, 896, 909, 946, 971, 996, 1021, 1046, 1071, 1108, 1169, 1206, 1255] : Array Int).getD (X.toInt - 0).toNat 0)) = 418 by rw [h6]; rfl]
    exact hc 418 (by decide) m σ ce sl Q hR hm hL hce hsl hk
  by_cases h7 : X = 7
  · rw [show (if X.toInt < 0 ∨ 26 < X.toInt then 1343 else i_tg 39 ((#[121, 170, 207, 268, 293, 342, 379, 416, 471, 519, 556, 636, 732, 800, 848, 896, 909, 946, 971, 996, 1021, 1046, 1071, 1108, 1169, 1206, 1255] : Array Int).getD (X.toInt - 0).toNat 0)) = 455 by rw [h7]; rfl]
    exact hc 455 (by decide) m σ ce sl Q hR hm hL hce hsl hk
  by_cases h8 : X = 8
  · rw [show (if X.toInt < 0 ∨ 26 < X.toInt then 1343 else i_tg 39 ((#[121, 170, 207, 268, 293, 342, 379, 416, 471, 519, 556, 636, 732, 800, 848, 896, 909, 946, 971, 996, 1021, 1046, 1071, 1108, 1169, 1206, 1255] : Array Int).getD (X.toInt - 0).toNat 0)) = 510 by rw [h8]; rfl]
    exact hc 510 (by decide) m σ ce sl Q hR hm hL hce hsl hk
  by_cases h9 : X = 9
  · rw [show (if X.toInt < 0 ∨ 26 < X.toInt then 1343 else i_tg 39 ((#[121, 170, 207, 268, 293, 342, 379, 416, 471, 519, 556, 636, 732, 800, 848, 896, 909, 946, 971, 996, 1021, 1046, 1071, 1108, 1169, 1206, 1255] : Array Int).getD (X.toInt - 0).toNat 0)) = 558 by rw [h9]; rfl]
    exact hc 558 (by decide) m σ ce sl Q hR hm hL hce hsl hk
  by_cases h10 : X = 10
  · rw [show (if X.toInt < 0 ∨ 26 < X.toInt then 1343 else i_tg 39 ((#[121, 170, 207, 268, 293, 342, 379, 416, 471, 519, 556, 636, 732, 800, 848, 896, 909, 946, 971, 996, 1021, 1046, 1071, 1108, 1169, 1206, 1255] : Array Int).getD (X.toInt - 0).toNat 0)) = 595 by rw [h10]; rfl]
    exact hc 595 (by decide) m σ ce sl Q hR hm hL hce hsl hk
  by_cases h11 : X = 11
  · rw [show (if X.toInt < 0 ∨ 26 < X.toInt then 1343 else i_tg 39 ((#[121, 170, 207, 268, 293, 342, 379, 416, 471, 519, 556, 636, 732, 800, 848, 896, 909, 946, 971, 996, 1021, 1046, 1071, 1108, 1169, 1206, 1255] : Array Int).getD (X.toInt - 0).toNat 0)) = 675 by rw [h11]; rfl]
    exact hc 675 (by decide) m σ ce sl Q hR hm hL hce hsl hk
  by_cases h12 : X = 12
  · rw [show (if X.toInt < 0 ∨ 26 < X.toInt then 1343 else i_tg 39 ((#[121, 170, 207, 268, 293, 342, 379, 416, 471, 519, 556, 636, 732, 800, 848, 896, 909, 946, 971, 996, 1021, 1046, 1071, 1108, 1169, 1206, 1255] : Array Int).getD (X.toInt - 0).toNat 0)) = 771 by rw [h12]; rfl]
    exact hc 771 (by decide) m σ ce sl Q hR hm hL hce hsl hk
  by_cases h13 : X = 13
  · rw [show (if X.toInt < 0 ∨ 26 < X.toInt then 1343 else i_tg 39 ((#[121, 170, 207, 268, 293, 342, 379, 416, 471, 519, 556, 636, 732, 800, 848, 896, 909, 946, 971, 996, 1021, 1046, 1071, 1108, 1169, 1206, 1255] : Array Int).getD (X.toInt - 0).toNat 0)) = 839 by rw [h13]; rfl]
    exact hc 839 (by decide) m σ ce sl Q hR hm hL hce hsl hk
  by_cases h14 : X = 14
  · rw [show (if X.toInt < 0 ∨ 26 < X.toInt then 1343 else i_tg 39 ((#[121, 170, 207, 268, 293, 342, 379, 416, 471, 519, 556, 636, 732, 800, 848, 896, 909, 946, 971, 996, 1021, 1046, 1071, 1108, 1169, 1206, 1255] : Array Int).getD (X.toInt - 0).toNat 0)) = 887 by rw [h14]; rfl]
    exact hc 887 (by decide) m σ ce sl Q hR hm hL hce hsl hk
  by_cases h15 : X = 15
  · rw [show (if X.toInt < 0 ∨ 26 < X.toInt then 1343 else i_tg 39 ((#[121, 170, 207, 268, 293, 342, 379, 416, 471, 519, 556, 636, 732, 800, 848, 896, 909, 946, 971, 996, 1021, 1046, 1071, 1108, 1169, 1206, 1255] : Array Int).getD (X.toInt - 0).toNat 0)) = 935 by rw [h15]; rfl]
    exact hc 935 (by decide) m σ ce sl Q hR hm hL hce hsl hk
  by_cases h16 : X = 16
  · rw [show (if X.toInt < 0 ∨ 26 < X.toInt then 1343 else i_tg 39 ((#[121, 170, 207, 268, 293, 342, 379, 416, 471, 519, 556, 636, 732, 800, 848, 896, 909, 946, 971, 996, 1021, 1046, 1071, 1108, 1169, 1206, 1255] : Array Int).getD (X.toInt - 0).toNat 0)) = 948 by rw [h16]; rfl]
    exact hc 948 (by decide) m σ ce sl Q hR hm hL hce hsl hk
  by_cases h17 : X = 17
  · rw [show (if X.toInt < 0 ∨ 26 < X.toInt then 1343 else i_tg 39 ((#[121, 170, 207, 268, 293, 342, 379, 416, 471, 519, 556, 636, 732, 800, 848, 896, 909, 946, 971, 996, 1021, 1046, 1071, 1108, 1169, 1206, 1255] : Array Int).getD (X.toInt - 0).toNat 0)) = 985 by rw [h17]; rfl]
    exact hc 985 (by decide) m σ ce sl Q hR hm hL hce hsl hk
  by_cases h18 : X = 18
  · rw [show (if X.toInt < 0 ∨ 26 < X.toInt then 1343 else i_tg 39 ((#[121, 170, 207, 268, 293, 342, 379, 416, 471, 519, 556, 636, 732, 800, 848, 896, 909, 946, 971, 996, 1021, 1046, 1071, 1108, 1169, 1206, 1255] : Array Int).getD (X.toInt - 0).toNat 0)) = 1010 by rw [h18]; rfl]
    exact hc 1010 (by decide) m σ ce sl Q hR hm hL hce hsl hk
  by_cases h19 : X = 19
  · rw [show (if X.toInt < 0 ∨ 26 < X.toInt then 1343 else i_tg 39 ((#[121, 170, 207, 268, 293, 342, 379, 416, 471, 519, 556, 636, 732, 800, 848, 896, 909, 946, 971, 996, 1021, 1046, 1071, 1108, 1169, 1206, 1255] : Array Int).getD (X.toInt - 0).toNat 0)) = 1035 by rw [h19]; rfl]
    exact hc 1035 (by decide) m σ ce sl Q hR hm hL hce hsl hk
  by_cases h20 : X = 20
  · rw [show (if X.toInt < 0 ∨ 26 < X.toInt then 1343 else i_tg 39 ((#[121, 170, 207, 268, 293, 342, 379, 416, 471, 519, 556, 636, 732, 800, 848, 896, 909, 946, 971, 996, 1021, 1046, 1071, 1108, 1169, 1206, 1255] : Array Int).getD (X.toInt - 0).toNat 0)) = 1060 by rw [h20]; rfl]
    exact hc 1060 (by decide) m σ ce sl Q hR hm hL hce hsl hk
  by_cases h21 : X = 21
  · rw [show (if X.toInt < 0 ∨ 26 < X.toInt then 1343 else i_tg 39 ((#[121, 170, 207, 268, 293, 342, 379, 416, 471, 519, 556, 636, 732, 800, 848, 896, 909, 946, 971, 996, 1021, 1046, 1071, 1108, 1169, 1206, 1255] : Array Int).getD (X.toInt - 0).toNat 0)) = 1085 by rw [h21]; rfl]
    exact hc 1085 (by decide) m σ ce sl Q hR hm hL hce hsl hk
  by_cases h22 : X = 22
  · rw [show (if X.toInt < 0 ∨ 26 < X.toInt then 1343 else i_tg 39 ((#[121, 170, 207, 268, 293, 342, 379, 416, 471, 519, 556, 636, 732, 800, 848, 896, 909, 946, 971, 996, 1021, 1046, 1071, 1108, 1169, 1206, 1255] : Array Int).getD (X.toInt - 0).toNat 0)) = 1110 by rw [h22]; rfl]
    exact hc 1110 (by decide) m σ ce sl Q hR hm hL hce hsl hk
  by_cases h23 : X = 23
  · rw [show (if X.toInt < 0 ∨ 26 < X.toInt then 1343 else i_tg 39 ((#[121, 170, 207, 268, 293, 342, 379, 416, 471, 519, 556, 636, 732, 800, 848, 896, 909, 946, 971, 996, 1021, 1046, 1071, 1108, 1169, 1206, 1255] : Array Int).getD (X.toInt - 0).toNat 0)) = 1147 by rw [h23]; rfl]
    exact hc 1147 (by decide) m σ ce sl Q hR hm hL hce hsl hk
  by_cases h24 : X = 24
  · rw [show (if X.toInt < 0 ∨ 26 < X.toInt then 1343 else i_tg 39 ((#[121, 170, 207, 268, 293, 342, 379, 416, 471, 519, 556, 636, 732, 800, 848, 896, 909, 946, 971, 996, 1021, 1046, 1071, 1108, 1169, 1206, 1255] : Array Int).getD (X.toInt - 0).toNat 0)) = 1208 by rw [h24]; rfl]
    exact hc 1208 (by decide) m σ ce sl Q hR hm hL hce hsl hk
  by_cases h25 : X = 25
  · rw [show (if X.toInt < 0 ∨ 26 < X.toInt then 1343 else i_tg 39 ((#[121, 170, 207, 268, 293, 342, 379, 416, 471, 519, 556, 636, 732, 800, 848, 896, 909, 946, 971, 996, 1021, 1046, 1071, 1108, 1169, 1206, 1255] : Array Int).getD (X.toInt - 0).toNat 0)) = 1245 by rw [h25]; rfl]
    exact hc 1245 (by decide) m σ ce sl Q hR hm hL hce hsl hk
  by_cases h26 : X = 26
  · rw [show (if X.toInt < 0 ∨ 26 < X.toInt then 1343 else i_tg 39 ((#[121, 170, 207, 268, 293, 342, 379, 416, 471, 519, 556, 636, 732, 800, 848, 896, 909, 946, 971, 996, 1021, 1046, 1071, 1108, 1169, 1206, 1255] : Array Int).getD (X.toInt - 0).toNat 0)) = 1294 by rw [h26]; rfl]
    exact hc 1294 (by decide) m σ ce sl Q hR hm hL hce hsl hk
  rw [if_pos (l_out (x := X) (a := 26) (n := 27) (by omega) rfl (by intro k hk; (rcases k with _ | _ | _ | _ | _ | _ | _ | _ | _ | _ | _ | _ | _ | _ | _ | _ | _ | _ | _ | _ | _ | _ | _ | _ | _ | _ | _ | k) <;> first | assumption | omega))]
  exact hk σ ce sl (hmo _ _ hR) (by omega) (by omega)
set_option maxRecDepth 20000 in
theorem lw_loop {Rel : Nat → s_S → Prop} (hmo : ∀ m σ, Rel m σ → Rel (m + 1) σ) (hL : Ln ≤ 2560) (hc : ∀ pc ∈ lw_tg, lw_case xs Ln Rel pc) : ∀ (f m : Nat) (σ : s_S) (ce sl : Nat), Ln + 5 ≤ 5 * (m + f) → 5 * m ≤ Ln + 4 → Rel m σ → ce ≤ 256 + 2 * m → sl ≤ 3783 + 12 * m →
    w_R xs Ln 169 (23, lw_L m, [], σ, ce, sl) (fun o _ => o = .inl (some (.int 1))) := by
  intro f
  induction f with
  | zero => intro m σ ce sl h1 h2; omega
  | succ f ih =>
    intro m σ ce sl h1 h2 hR hce hsl
    refine w_R.go (c' := (i_br .gt (Int32.ofNat (5 * m)) (Int32.ofNat Ln - 5) 1349 32, lw_L m, [], σ, ce, sl)) 6 ?_ (fun m_ x_ Q_ k_ => ⟨trivial, rfl, rfl, trivial, trivial, trivial, k_⟩)
    refine w_R.br_gt (fun h => ?_) (fun h => ?_)
    · exact w_R.ret 2 (.inl (some (.int 1))) σ rfl (fun x_ Q_ k_ => ⟨trivial, Or.inr rfl, ⟨show ce ≤ 601024 by omega, show sl ≤ 7293034 by omega⟩, k_⟩)
    · rw [Int32.lt_iff_toInt_lt, lw_len hL, n_int (by omega)] at h
      refine lw_one hmo hL hc m σ ce sl _ hR (by omega) hce hsl (fun σ' ce' sl' hR' hce' hsl' => ?_)
      refine w_R.go (c' := (23, [(4, .int (Int32.ofNat (5 * m) + Int32.ofNat 5)), (3, .ref 256), (2, .ref 199), (1, .ref 1), (0, .retAddr 0)], [], σ', ce', sl')) 2 ?_ (fun m_ x_ Q_ k_ => ⟨trivial, trivial, k_⟩)
      rw [n_add, show 5 * m + 5 = 5 * (m + 1) by omega]
      exact ih (m + 1) σ' ce' sl' (by omega) (by omega) hR' (by omega) (by omega)
theorem lw_run {Rel : Nat → s_S → Prop} (hmo : ∀ m σ, Rel m σ → Rel (m + 1) σ) (hL : Ln ≤ 2560) (hc : ∀ pc ∈ lw_tg, lw_case xs Ln Rel pc) (h0 : Rel 0 k_s1) : w_P xs Ln (k_t 169) (23, [(4, .int 0), (3, .ref 256), (2, .ref 199), (1, .ref 1), (0, .retAddr 0)], [], (sh1, 0, k_s1), 256, 3783) (fun o _ => o = .inl (some (.int 1))) := by
  have h := lw_loop hmo hL hc (Ln + 1) 0 k_s1 256 3783 (by omega) (by omega) h0 (Nat.le_refl _) (Nat.le_refl _) 0
  exact h.mono (fun o M ⟨x', σ, h1, h2⟩ => h2)
end LawLoop
end
section
/-! One instruction whose row was looked up before. -/
def w_body (xs : Nat → Int32) (Ln : Nat) (n : Nat) (t : i_T) (row : Instr × Nat × Nat × Nat × Nat) (c : i_C) (Q : i_O → s_M → Prop) : Prop := match row, c with
  | (ins, _, a1, a2, _), (pc, L, st, M, ce, sl) => match ins with
  | .ireturn => match st with
    | [.int v] => (match t.2.2.2.1 with
      | some .int => True
      | some .boolean => v = 0 ∨ v = 1
      | _ => False) ∧ (ce ≤ t.2.2.2.2.1 ∧ sl ≤ t.2.2.2.2.2) ∧ Q (.inl (some (.int v))) M
    | _ => False
  | .lreturn => match st with
    | [.long v] => (ce ≤ t.2.2.2.2.1 ∧ sl ≤ t.2.2.2.2.2) ∧ Q (.inl (some (.long v))) M
    | _ => False
  | .areturn => match st with
    | [.ref v] => (ce ≤ t.2.2.2.2.1 ∧ sl ≤ t.2.2.2.2.2) ∧ Q (.inl (some (.ref v))) M
    | _ => False
  | .return_ => match st with
    | [] => (ce ≤ t.2.2.2.2.1 ∧ sl ≤ t.2.2.2.2.2) ∧ Q (.inl none) M
    | _ => False
  | .invokespecial _ => match a2 with
    | 0 => match st with
      | .ref _ :: r => i_rm r = true ∧ w_ex xs Ln n t (pc + 3, L, r, M, ce, sl) Q
      | _ => False
    | na + 1 => i_rn (st.drop (na + 1)) (st.take (na + 1)).reverse (k_t a1).2.2.1 = true ∧ na + 1 ≤ st.length ∧ i_rf (st.take (na + 1)).reverse ∧ (ce + (k_t a1).2.2.2.2.1 ≤ t.2.2.2.2.1 ∧ sl + (k_t a1).2.2.2.2.2 ≤ t.2.2.2.2.2) ∧ w_ex xs Ln n (k_t a1) (0, lv_args 0 (st.take (na + 1)).reverse, [], M, 0, 0) (fun o M' => match o with
      | .inl v => w_ex xs Ln n t (pc + 3, L, v.toList ++ st.drop (na + 1), M', ce + (k_t a1).2.2.2.2.1, sl + (k_t a1).2.2.2.2.2) Q
      | .inr _ => False)
  | .invokestatic _ => match a2 with
    | 0 => match st with
      | .int y :: .int x :: r => i_rm r = true ∧ (ce ≤ t.2.2.2.2.1 ∧ sl ≤ t.2.2.2.2.2) ∧ w_ex xs Ln n t (pc + 3, L, .int (if x < y then y else x) :: r, M, ce, sl) Q
      | _ => False
    | na + 1 => i_rn (st.drop na) (st.take na).reverse (k_t a1).2.2.1 = true ∧ na ≤ st.length ∧ (ce + (k_t a1).2.2.2.2.1 ≤ t.2.2.2.2.1 ∧ sl + (k_t a1).2.2.2.2.2 ≤ t.2.2.2.2.2) ∧ w_ex xs Ln n (k_t a1) (0, lv_args 0 (st.take na).reverse, [], M, 0, 0) (fun o M' => match o with
      | .inl v => w_ex xs Ln n t (pc + 3, L, v.toList ++ st.drop na, M', ce + (k_t a1).2.2.2.2.1, sl + (k_t a1).2.2.2.2.2) Q
      | .inr _ => False)
  | .invokevirtual _ => i_rn (st.drop (a2 + 1)) (st.take (a2 + 1)).reverse (k_t a1).2.2.1 = true ∧ a2 + 1 ≤ st.length ∧ i_rc (k_rc a1) M (st.take (a2 + 1)).reverse ∧ (ce + (k_t a1).2.2.2.2.1 ≤ t.2.2.2.2.1 ∧ sl + (k_t a1).2.2.2.2.2 ≤ t.2.2.2.2.2) ∧ w_ex xs Ln n (k_t a1) (0, lv_args 0 (st.take (a2 + 1)).reverse, [], M, 0, 0) (fun o M' => match o with
      | .inl v => w_ex xs Ln n t (pc + 3, L, v.toList ++ st.drop (a2 + 1), M', ce + (k_t a1).2.2.2.2.1, sl + (k_t a1).2.2.2.2.2) Q
      | .inr x => match k_hd t.1 x with
        | none => k_ex t.1 = [] ∧ Q (.inr x) M'
        | some (pc', k) => w_ex xs Ln n t (pc', L.filter (fun q => !(q.1 == k) && !(q.1 + 1 == k && q.2.category == 2)), [], M', ce + (k_t a1).2.2.2.2.1, sl + (k_t a1).2.2.2.2.2) Q)
  | .new _ => match a2 with
    | 0 => match i_st xs Ln t.2.2.2.2.1 t.2.2.2.2.2 ins a1 0 pc L st M ce sl with
      | none => False
      | some (P, c') => P ∧ w_ex xs Ln n t c' Q
    | _ => i_rm st = true ∧ (ce + 1 ≤ t.2.2.2.2.1 ∧ sl + 6 ≤ t.2.2.2.2.2) ∧ Q (.inr a1) (M.1, M.2.1 + 1, M.2.2)
  | ins => match i_st xs Ln t.2.2.2.2.1 t.2.2.2.2.2 ins a1 a2 pc L st M ce sl with
    | none => False
    | some (P, c') => P ∧ w_ex xs Ln n t c' Q
set_option maxHeartbeats 4000000 in
theorem w_look {xs : Nat → Int32} {Ln n pc : Nat} {t : i_T} {row : Instr × Nat × Nat × Nat × Nat} {c : i_L × List Value × s_M × Nat × Nat} {Q : i_O → s_M → Prop} (hat : i_at t.2.1 pc = some row) (h : w_body xs Ln n t row (pc, c) Q) : w_ex xs Ln (n + 1) t (pc, c) Q := by
  obtain ⟨L, st, M, ce, sl⟩ := c
  obtain ⟨ins, len, a1, a2, pl⟩ := row
  unfold w_ex
  rw [hat]
  cases ins <;> exact h
theorem w_R.at {xs : Nat → Int32} {Ln j pc : Nat} {row : Instr × Nat × Nat × Nat × Nat} {c : i_L × List Value × s_S × Nat × Nat} {c' : l_C} {Q : i_O → s_S → Prop} (hat : i_at (k_t j).2.1 pc = some row) (h : w_R xs Ln j c' Q)
    (hk : ∀ n x Q', w_ex xs Ln n (k_t j) (l_x x c') Q' → w_body xs Ln n (k_t j) row (l_x x (pc, c)) Q') : w_R xs Ln j (pc, c) Q := w_R.go 1 h (fun n x Q' h' => w_look hat (hk n x Q' h'))
set_option maxRecDepth 20000 in
theorem zz_row : i_at (k_t 169).2.1 935 = some (.aload_n 1, 1, 0, 0, 0) := by decide +kernel
example {xs : Nat → Int32} {Ln m ce sl : Nat} {σ : s_S} {Q : i_O → s_S → Prop} (h : w_R xs Ln 169 (936, lw_L m, [.ref 1], σ, ce, sl) Q) : w_R xs Ln 169 (935, lw_L m, [], σ, ce, sl) Q := w_R.at zz_row h (fun m_ x_ Q_ k_ => ⟨trivial, k_⟩)
end
section
/-! The plain cases of the law, out of what the two operations do. -/
section Cases
variable {xs : Nat → Int32} {Ln : Nat} {Rel : Nat → s_S → Prop}
/-- both operations answer alike and keep the relation -/
def lw_ok (xs : Nat → Int32) (Ln : Nat) (Rel : Nat → s_S → Prop) (j j' : Nat) (as : List Value) : Prop := ∀ (m : Nat) (σ : s_S), Rel m σ → m < 512 → ∃ (v : Int32) (σ1 σ2 : s_S), w_R xs Ln j (0, lv_args 0 (.ref 1 :: as), [], σ, 0, 0) (fun o s => o = .inl (some (.int v)) ∧ s = σ1) ∧
  w_R xs Ln j' (0, lv_args 0 (.ref 199 :: as), [], σ1, 0, 0) (fun o s => o = .inl (some (.int v)) ∧ s = σ2) ∧ Rel (m + 1) σ2
theorem lw_in {m k : Nat} (h : 5 * m + 5 ≤ Ln) (hL : Ln ≤ 2560) (hk : k < 5) : vp_in (Int32.ofNat (5 * m) + Int32.ofNat k) Ln := by
  rw [n_add]
  exact n_in (by omega) (by omega)
set_option maxRecDepth 20000 in
theorem k_case0 (h : ∀ a0 a1 a2, lw_ok xs Ln Rel 1 111 [.int a0, .int a1, .int a2]) : lw_case xs Ln Rel 160 := by
  intro m σ ce sl Q hR hm hL hce hsl hk
  obtain ⟨v, σ1, σ2, h1, h2, h3⟩ := h (xs (Int32.ofNat (5 * m) + 1).toNatClampNeg) (xs (Int32.ofNat (5 * m) + 2).toNatClampNeg) (xs (Int32.ofNat (5 * m) + 3).toNatClampNeg) m σ hR (by omega)
  refine w_R.at (row := (.aload_n 1, 1, 0, 0, 0)) (c' := (161, lw_L m, [.ref 1], σ, ce, sl)) (by decide +kernel) ?_ (fun m_ x_ Q_ k_ => ⟨trivial, k_⟩)
  refine w_R.at (row := (.aload_n 0, 1, 0, 0, 0)) (c' := (162, lw_L m, [.retAddr 0, .ref 1], σ, ce, sl)) (by decide +kernel) ?_ (fun m_ x_ Q_ k_ => ⟨rfl, k_⟩)
  refine w_R.at (row := (.iload 4, 2, 0, 0, 0)) (c' := (164, lw_L m, [.int (Int32.ofNat (5 * m)), .retAddr 0, .ref 1], σ, ce, sl)) (by decide +kernel) ?_ (fun m_ x_ Q_ k_ => ⟨trivial, k_⟩)
  refine w_R.at (row := (.iconst 1, 1, 0, 0, 0)) (c' := (165, lw_L m, [.int 1, .int (Int32.ofNat (5 * m)), .retAddr 0, .ref 1], σ, ce, sl)) (by decide +kernel) ?_ (fun m_ x_ Q_ k_ => ⟨trivial, k_⟩)
  refine w_R.at (row := (.iadd, 1, 0, 0, 0)) (c' := (166, lw_L m, [.int (Int32.ofNat (5 * m) + 1), .retAddr 0, .ref 1], σ, ce, sl)) (by decide +kernel) ?_ (fun m_ x_ Q_ k_ => ⟨trivial, k_⟩)
  refine w_R.at (row := (.iaload, 1, 0, 0, 0)) (c' := (167, lw_L m, [.int (xs (Int32.ofNat (5 * m) + 1).toNatClampNeg), .ref 1], σ, ce, sl)) (by decide +kernel) ?_ (fun m_ x_ Q_ k_ => ⟨⟨rfl, lw_in (k := 1) hm hL (by decide)⟩, k_⟩)
  refine w_R.at (row := (.aload_n 0, 1, 0, 0, 0)) (c' := (168, lw_L m, [.retAddr 0, .int (xs (Int32.ofNat (5 * m) + 1).toNatClampNeg), .ref 1], σ, ce, sl)) (by decide +kernel) ?_ (fun m_ x_ Q_ k_ => ⟨rfl, k_⟩)
  refine w_R.at (row := (.iload 4, 2, 0, 0, 0)) (c' := (170, lw_L m, [.int (Int32.ofNat (5 * m)), .retAddr 0, .int (xs (Int32.ofNat (5 * m) + 1).toNatClampNeg), .ref 1], σ, ce, sl)) (by decide +kernel) ?_ (fun m_ x_ Q_ k_ => ⟨trivial, k_⟩)
  refine w_R.at (row := (.iconst 2, 1, 0, 0, 0)) (c' := (171, lw_L m, [.int 2, .int (Int32.ofNat (5 * m)), .retAddr 0, .int (xs (Int32.ofNat (5 * m) + 1).toNatClampNeg), .ref 1], σ, ce, sl)) (by decide +kernel) ?_ (fun m_ x_ Q_ k_ => ⟨trivial, k_⟩)
  refine w_R.at (row := (.iadd, 1, 0, 0, 0)) (c' := (172, lw_L m, [.int (Int32.ofNat (5 * m) + 2), .retAddr 0, .int (xs (Int32.ofNat (5 * m) + 1).toNatClampNeg), .ref 1], σ, ce, sl)) (by decide +kernel) ?_ (fun m_ x_ Q_ k_ => ⟨trivial, k_⟩)
  refine w_R.at (row := (.iaload, 1, 0, 0, 0)) (c' := (173, lw_L m, [.int (xs (Int32.ofNat (5 * m) + 2).toNatClampNeg), .int (xs (Int32.ofNat (5 * m) + 1).toNatClampNeg), .ref 1], σ, ce, sl)) (by decide +kernel) ?_ (fun m_ x_ Q_ k_ => ⟨⟨rfl, lw_in (k := 2) hm hL (by decide)⟩, k_⟩)
  refine w_R.at (row := (.aload_n 0, 1, 0, 0, 0)) (c' := (174, lw_L m, [.retAddr 0, .int (xs (Int32.ofNat (5 * m) + 2).toNatClampNeg), .int (xs (Int32.ofNat (5 * m) + 1).toNatClampNeg), .ref 1], σ, ce, sl)) (by decide +kernel) ?_ (fun m_ x_ Q_ k_ => ⟨rfl, k_⟩)
  refine w_R.at (row := (.iload 4, 2, 0, 0, 0)) (c' := (176, lw_L m, [.int (Int32.ofNat (5 * m)), .retAddr 0, .int (xs (Int32.ofNat (5 * m) + 2).toNatClampNeg), .int (xs (Int32.ofNat (5 * m) + 1).toNatClampNeg), .ref 1], σ, ce, sl)) (by decide +kernel) ?_ (fun m_ x_ Q_ k_ => ⟨trivial, k_⟩)
  refine w_R.at (row := (.iconst 3, 1, 0, 0, 0)) (c' := (177, lw_L m, [.int 3, .int (Int32.ofNat (5 * m)), .retAddr 0, .int (xs (Int32.ofNat (5 * m) + 2).toNatClampNeg), .int (xs (Int32.ofNat (5 * m) + 1).toNatClampNeg), .ref 1], σ, ce, sl)) (by decide +kernel) ?_ (fun m_ x_ Q_ k_ => ⟨trivial, k_⟩)
  refine w_R.at (row := (.iadd, 1, 0, 0, 0)) (c' := (178, lw_L m, [.int (Int32.ofNat (5 * m) + 3), .retAddr 0, .int (xs (Int32.ofNat (5 * m) + 2).toNatClampNeg), .int (xs (Int32.ofNat (5 * m) + 1).toNatClampNeg), .ref 1], σ, ce, sl)) (by decide +kernel) ?_ (fun m_ x_ Q_ k_ => ⟨trivial, k_⟩)
  refine w_R.at (row := (.iaload, 1, 0, 0, 0)) (c' := (179, lw_L m, [.int (xs (Int32.ofNat (5 * m) + 3).toNatClampNeg), .int (xs (Int32.ofNat (5 * m) + 2).toNatClampNeg), .int (xs (Int32.ofNat (5 * m) + 1).toNatClampNeg), .ref 1], σ, ce, sl)) (by decide +kernel) ?_ (fun m_ x_ Q_ k_ => ⟨⟨rfl, lw_in (k := 3) hm hL (by decide)⟩, k_⟩)
  refine w_R.callV (i := 43) (len := 3) (pl := 11) (na := 3) (ce' := ce) (sl' := sl) (v := some (.int v)) (σ' := σ1) (as := [.ref 1, .int (xs (Int32.ofNat (5 * m) + 1).toNatClampNeg), .int (xs (Int32.ofNat (5 * m) + 2).toNatClampNeg), .int (xs (Int32.ofNat (5 * m) + 3).toNatClampNeg)]) (rest := []) h1 ?_ (by decide +kernel) rfl rfl rfl rfl sh_1 rfl rfl (Nat.ble_eq_true_of_le (show ce ≤ 601024 by omega)) (Nat.ble_eq_true_of_le (show sl ≤ 7293034 by omega))
  show w_R xs Ln 169 (182, lw_L m, [.int v], σ1, ce, sl) Q
  refine w_R.at (row := (.aload_n 2, 1, 0, 0, 0)) (c' := (183, lw_L m, [.ref 199, .int v], σ1, ce, sl)) (by decide +kernel) ?_ (fun m_ x_ Q_ k_ => ⟨trivial, k_⟩)
  refine w_R.at (row := (.aload_n 0, 1, 0, 0, 0)) (c' := (184, lw_L m, [.retAddr 0, .ref 199, .int v], σ1, ce, sl)) (by decide +kernel) ?_ (fun m_ x_ Q_ k_ => ⟨rfl, k_⟩)
  refine w_R.at (row := (.iload 4, 2, 0, 0, 0)) (c' := (186, lw_L m, [.int (Int32.ofNat (5 * m)), .retAddr 0, .ref 199, .int v], σ1, ce, sl)) (by decide +kernel) ?_ (fun m_ x_ Q_ k_ => ⟨trivial, k_⟩)
  refine w_R.at (row := (.iconst 1, 1, 0, 0, 0)) (c' := (187, lw_L m, [.int 1, .int (Int32.ofNat (5 * m)), .retAddr 0, .ref 199, .int v], σ1, ce, sl)) (by decide +kernel) ?_ (fun m_ x_ Q_ k_ => ⟨trivial, k_⟩)
  refine w_R.at (row := (.iadd, 1, 0, 0, 0)) (c' := (188, lw_L m, [.int (Int32.ofNat (5 * m) + 1), .retAddr 0, .ref 199, .int v], σ1, ce, sl)) (by decide +kernel) ?_ (fun m_ x_ Q_ k_ => ⟨trivial, k_⟩)
  refine w_R.at (row := (.iaload, 1, 0, 0, 0)) (c' := (189, lw_L m, [.int (xs (Int32.ofNat (5 * m) + 1).toNatClampNeg), .ref 199, .int v], σ1, ce, sl)) (by decide +kernel) ?_ (fun m_ x_ Q_ k_ => ⟨⟨rfl, lw_in (k := 1) hm hL (by decide)⟩, k_⟩)
  refine w_R.at (row := (.aload_n 0, 1, 0, 0, 0)) (c' := (190, lw_L m, [.retAddr 0, .int (xs (Int32.ofNat (5 * m) + 1).toNatClampNeg), .ref 199, .int v], σ1, ce, sl)) (by decide +kernel) ?_ (fun m_ x_ Q_ k_ => ⟨rfl, k_⟩)
  refine w_R.at (row := (.iload 4, 2, 0, 0, 0)) (c' := (192, lw_L m, [.int (Int32.ofNat (5 * m)), .retAddr 0, .int (xs (Int32.ofNat (5 * m) + 1).toNatClampNeg), .ref 199, .int v], σ1, ce, sl)) (by decide +kernel) ?_ (fun m_ x_ Q_ k_ => ⟨trivial, k_⟩)
  refine w_R.at (row := (.iconst 2, 1, 0, 0, 0)) (c' := (193, lw_L m, [.int 2, .int (Int32.ofNat (5 * m)), .retAddr 0, .int (xs (Int32.ofNat (5 * m) + 1).toNatClampNeg), .ref 199, .int v], σ1, ce, sl)) (by decide +kernel) ?_ (fun m_ x_ Q_ k_ => ⟨trivial, k_⟩)
  refine w_R.at (row := (.iadd, 1, 0, 0, 0)) (c' := (194, lw_L m, [.int (Int32.ofNat (5 * m) + 2), .retAddr 0, .int (xs (Int32.ofNat (5 * m) + 1).toNatClampNeg), .ref 199, .int v], σ1, ce, sl)) (by decide +kernel) ?_ (fun m_ x_ Q_ k_ => ⟨trivial, k_⟩)
  refine w_R.at (row := (.iaload, 1, 0, 0, 0)) (c' := (195, lw_L m, [.int (xs (Int32.ofNat (5 * m) + 2).toNatClampNeg), .int (xs (Int32.ofNat (5 * m) + 1).toNatClampNeg), .ref 199, .int v], σ1, ce, sl)) (by decide +kernel) ?_ (fun m_ x_ Q_ k_ => ⟨⟨rfl, lw_in (k := 2) hm hL (by decide)⟩, k_⟩)
  refine w_R.at (row := (.aload_n 0, 1, 0, 0, 0)) (c' := (196, lw_L m, [.retAddr 0, .int (xs (Int32.ofNat (5 * m) + 2).toNatClampNeg), .int (xs (Int32.ofNat (5 * m) + 1).toNatClampNeg), .ref 199, .int v], σ1, ce, sl)) (by decide +kernel) ?_ (fun m_ x_ Q_ k_ => ⟨rfl, k_⟩)
  refine w_R.at (row := (.iload 4, 2, 0, 0, 0)) (c' := (198, lw_L m, [.int (Int32.ofNat (5 * m)), .retAddr 0, .int (xs (Int32.ofNat (5 * m) + 2).toNatClampNeg), .int (xs (Int32.ofNat (5 * m) + 1).toNatClampNeg), .ref 199, .int v], σ1, ce, sl)) (by decide +kernel) ?_ (fun m_ x_ Q_ k_ => ⟨trivial, k_⟩)
  refine w_R.at (row := (.iconst 3, 1, 0, 0, 0)) (c' := (199, lw_L m, [.int 3, .int (Int32.ofNat (5 * m)), .retAddr 0, .int (xs (Int32.ofNat (5 * m) + 2).toNatClampNeg), .int (xs (Int32.ofNat (5 * m) + 1).toNatClampNeg), .ref 199, .int v], σ1, ce, sl)) (by decide +kernel) ?_ (fun m_ x_ Q_ k_ => ⟨trivial, k_⟩)
  refine w_R.at (row := (.iadd, 1, 0, 0, 0)) (c' := (200, lw_L m, [.int (Int32.ofNat (5 * m) + 3), .retAddr 0, .int (xs (Int32.ofNat (5 * m) + 2).toNatClampNeg), .int (xs (Int32.ofNat (5 * m) + 1).toNatClampNeg), .ref 199, .int v], σ1, ce, sl)) (by decide +kernel) ?_ (fun m_ x_ Q_ k_ => ⟨trivial, k_⟩)
  refine w_R.at (row := (.iaload, 1, 0, 0, 0)) (c' := (201, lw_L m, [.int (xs (Int32.ofNat (5 * m) + 3).toNatClampNeg), .int (xs (Int32.ofNat (5 * m) + 2).toNatClampNeg), .int (xs (Int32.ofNat (5 * m) + 1).toNatClampNeg), .ref 199, .int v], σ1, ce, sl)) (by decide +kernel) ?_ (fun m_ x_ Q_ k_ => ⟨⟨rfl, lw_in (k := 3) hm hL (by decide)⟩, k_⟩)
  refine w_R.callV (i := 47) (len := 3) (pl := 12) (na := 3) (ce' := ce) (sl' := sl) (v := some (.int v)) (σ' := σ2) (as := [.ref 199, .int (xs (Int32.ofNat (5 * m) + 1).toNatClampNeg), .int (xs (Int32.ofNat (5 * m) + 2).toNatClampNeg), .int (xs (Int32.ofNat (5 * m) + 3).toNatClampNeg)]) (rest := [.int v]) h2 ?_ (by decide +kernel) rfl rfl rfl rfl sh_199 rfl rfl (Nat.ble_eq_true_of_le (show ce ≤ 601024 by omega)) (Nat.ble_eq_true_of_le (show sl ≤ 7293034 by omega))
  show w_R xs Ln 169 (204, lw_L m, [.int v, .int v], σ2, ce, sl) Q
  refine w_R.at (row := (.if_icmp .eq 1139, 3, 0, 0, 0)) (c' := (i_br .eq v v 1343 207, lw_L m, [], σ2, ce, sl)) (by decide +kernel) ?_ (fun m_ x_ Q_ k_ => ⟨trivial, k_⟩)
  exact w_R.br_eq (fun _ => hk σ2 ce sl h3 (by omega) (by omega)) (fun hne => absurd rfl hne)
set_option maxRecDepth 20000 in
theorem k_case1 (h : ∀ a0 a1, lw_ok xs Ln Rel 2 112 [.int a0, .int a1]) : lw_case xs Ln Rel 209 := by
  intro m σ ce sl Q hR hm hL hce hsl hk
  obtain ⟨v, σ1, σ2, h1, h2, h3⟩ := h (xs (Int32.ofNat (5 * m) + 1).toNatClampNeg) (xs (Int32.ofNat (5 * m) + 2).toNatClampNeg) m σ hR (by omega)
  refine w_R.at (row := (.aload_n 1, 1, 0, 0, 0)) (c' := (210, lw_L m, [.ref 1], σ, ce, sl)) (by decide +kernel) ?_ (fun m_ x_ Q_ k_ => ⟨trivial, k_⟩)
  refine w_R.at (row := (.aload_n 0, 1, 0, 0, 0)) (c' := (211, lw_L m, [.retAddr 0, .ref 1], σ, ce, sl)) (by decide +kernel) ?_ (fun m_ x_ Q_ k_ => ⟨rfl, k_⟩)
  refine w_R.at (row := (.iload 4, 2, 0, 0, 0)) (c' := (213, lw_L m, [.int (Int32.ofNat (5 * m)), .retAddr 0, .ref 1], σ, ce, sl)) (by decide +kernel) ?_ (fun m_ x_ Q_ k_ => ⟨trivial, k_⟩)
  refine w_R.at (row := (.iconst 1, 1, 0, 0, 0)) (c' := (214, lw_L m, [.int 1, .int (Int32.ofNat (5 * m)), .retAddr 0, .ref 1], σ, ce, sl)) (by decide +kernel) ?_ (fun m_ x_ Q_ k_ => ⟨trivial, k_⟩)
  refine w_R.at (row := (.iadd, 1, 0, 0, 0)) (c' := (215, lw_L m, [.int (Int32.ofNat (5 * m) + 1), .retAddr 0, .ref 1], σ, ce, sl)) (by decide +kernel) ?_ (fun m_ x_ Q_ k_ => ⟨trivial, k_⟩)
  refine w_R.at (row := (.iaload, 1, 0, 0, 0)) (c' := (216, lw_L m, [.int (xs (Int32.ofNat (5 * m) + 1).toNatClampNeg), .ref 1], σ, ce, sl)) (by decide +kernel) ?_ (fun m_ x_ Q_ k_ => ⟨⟨rfl, lw_in (k := 1) hm hL (by decide)⟩, k_⟩)
  refine w_R.at (row := (.aload_n 0, 1, 0, 0, 0)) (c' := (217, lw_L m, [.retAddr 0, .int (xs (Int32.ofNat (5 * m) + 1).toNatClampNeg), .ref 1], σ, ce, sl)) (by decide +kernel) ?_ (fun m_ x_ Q_ k_ => ⟨rfl, k_⟩)
  refine w_R.at (row := (.iload 4, 2, 0, 0, 0)) (c' := (219, lw_L m, [.int (Int32.ofNat (5 * m)), .retAddr 0, .int (xs (Int32.ofNat (5 * m) + 1).toNatClampNeg), .ref 1], σ, ce, sl)) (by decide +kernel) ?_ (fun m_ x_ Q_ k_ => ⟨trivial, k_⟩)
  refine w_R.at (row := (.iconst 2, 1, 0, 0, 0)) (c' := (220, lw_L m, [.int 2, .int (Int32.ofNat (5 * m)), .retAddr 0, .int (xs (Int32.ofNat (5 * m) + 1).toNatClampNeg), .ref 1], σ, ce, sl)) (by decide +kernel) ?_ (fun m_ x_ Q_ k_ => ⟨trivial, k_⟩)
  refine w_R.at (row := (.iadd, 1, 0, 0, 0)) (c' := (221, lw_L m, [.int (Int32.ofNat (5 * m) + 2), .retAddr 0, .int (xs (Int32.ofNat (5 * m) + 1).toNatClampNeg), .ref 1], σ, ce, sl)) (by decide +kernel) ?_ (fun m_ x_ Q_ k_ => ⟨trivial, k_⟩)
  refine w_R.at (row := (.iaload, 1, 0, 0, 0)) (c' := (222, lw_L m, [.int (xs (Int32.ofNat (5 * m) + 2).toNatClampNeg), .int (xs (Int32.ofNat (5 * m) + 1).toNatClampNeg), .ref 1], σ, ce, sl)) (by decide +kernel) ?_ (fun m_ x_ Q_ k_ => ⟨⟨rfl, lw_in (k := 2) hm hL (by decide)⟩, k_⟩)
  refine w_R.callV (i := 48) (len := 3) (pl := 13) (na := 2) (ce' := ce) (sl' := sl) (v := some (.int v)) (σ' := σ1) (as := [.ref 1, .int (xs (Int32.ofNat (5 * m) + 1).toNatClampNeg), .int (xs (Int32.ofNat (5 * m) + 2).toNatClampNeg)]) (rest := []) h1 ?_ (by decide +kernel) rfl rfl rfl rfl sh_1 rfl rfl (Nat.ble_eq_true_of_le (show ce ≤ 601024 by omega)) (Nat.ble_eq_true_of_le (show sl ≤ 7293034 by omega))
  show w_R xs Ln 169 (225, lw_L m, [.int v], σ1, ce, sl) Q
  refine w_R.at (row := (.aload_n 2, 1, 0, 0, 0)) (c' := (226, lw_L m, [.ref 199, .int v], σ1, ce, sl)) (by decide +kernel) ?_ (fun m_ x_ Q_ k_ => ⟨trivial, k_⟩)
  refine w_R.at (row := (.aload_n 0, 1, 0, 0, 0)) (c' := (227, lw_L m, [.retAddr 0, .ref 199, .int v], σ1, ce, sl)) (by decide +kernel) ?_ (fun m_ x_ Q_ k_ => ⟨rfl, k_⟩)
  refine w_R.at (row := (.iload 4, 2, 0, 0, 0)) (c' := (229, lw_L m, [.int (Int32.ofNat (5 * m)), .retAddr 0, .ref 199, .int v], σ1, ce, sl)) (by decide +kernel) ?_ (fun m_ x_ Q_ k_ => ⟨trivial, k_⟩)
  refine w_R.at (row := (.iconst 1, 1, 0, 0, 0)) (c' := (230, lw_L m, [.int 1, .int (Int32.ofNat (5 * m)), .retAddr 0, .ref 199, .int v], σ1, ce, sl)) (by decide +kernel) ?_ (fun m_ x_ Q_ k_ => ⟨trivial, k_⟩)
  refine w_R.at (row := (.iadd, 1, 0, 0, 0)) (c' := (231, lw_L m, [.int (Int32.ofNat (5 * m) + 1), .retAddr 0, .ref 199, .int v], σ1, ce, sl)) (by decide +kernel) ?_ (fun m_ x_ Q_ k_ => ⟨trivial, k_⟩)
  refine w_R.at (row := (.iaload, 1, 0, 0, 0)) (c' := (232, lw_L m, [.int (xs (Int32.ofNat (5 * m) + 1).toNatClampNeg), .ref 199, .int v], σ1, ce, sl)) (by decide +kernel) ?_ (fun m_ x_ Q_ k_ => ⟨⟨rfl, lw_in (k := 1) hm hL (by decide)⟩, k_⟩)
  refine w_R.at (row := (.aload_n 0, 1, 0, 0, 0)) (c' := (233, lw_L m, [.retAddr 0, .int (xs (Int32.ofNat (5 * m) + 1).toNatClampNeg), .ref 199, .int v], σ1, ce, sl)) (by decide +kernel) ?_ (fun m_ x_ Q_ k_ => ⟨rfl, k_⟩)
  refine w_R.at (row := (.iload 4, 2, 0, 0, 0)) (c' := (235, lw_L m, [.int (Int32.ofNat (5 * m)), .retAddr 0, .int (xs (Int32.ofNat (5 * m) + 1).toNatClampNeg), .ref 199, .int v], σ1, ce, sl)) (by decide +kernel) ?_ (fun m_ x_ Q_ k_ => ⟨trivial, k_⟩)
  refine w_R.at (row := (.iconst 2, 1, 0, 0, 0)) (c' := (236, lw_L m, [.int 2, .int (Int32.ofNat (5 * m)), .retAddr 0, .int (xs (Int32.ofNat (5 * m) + 1).toNatClampNeg), .ref 199, .int v], σ1, ce, sl)) (by decide +kernel) ?_ (fun m_ x_ Q_ k_ => ⟨trivial, k_⟩)
  refine w_R.at (row := (.iadd, 1, 0, 0, 0)) (c' := (237, lw_L m, [.int (Int32.ofNat (5 * m) + 2), .retAddr 0, .int (xs (Int32.ofNat (5 * m) + 1).toNatClampNeg), .ref 199, .int v], σ1, ce, sl)) (by decide +kernel) ?_ (fun m_ x_ Q_ k_ => ⟨trivial, k_⟩)
  refine w_R.at (row := (.iaload, 1, 0, 0, 0)) (c' := (238, lw_L m, [.int (xs (Int32.ofNat (5 * m) + 2).toNatClampNeg), .int (xs (Int32.ofNat (5 * m) + 1).toNatClampNeg), .ref 199, .int v], σ1, ce, sl)) (by decide +kernel) ?_ (fun m_ x_ Q_ k_ => ⟨⟨rfl, lw_in (k := 2) hm hL (by decide)⟩, k_⟩)
  refine w_R.callV (i := 52) (len := 3) (pl := 14) (na := 2) (ce' := ce) (sl' := sl) (v := some (.int v)) (σ' := σ2) (as := [.ref 199, .int (xs (Int32.ofNat (5 * m) + 1).toNatClampNeg), .int (xs (Int32.ofNat (5 * m) + 2).toNatClampNeg)]) (rest := [.int v]) h2 ?_ (by decide +kernel) rfl rfl rfl rfl sh_199 rfl rfl (Nat.ble_eq_true_of_le (show ce ≤ 601024 by omega)) (Nat.ble_eq_true_of_le (show sl ≤ 7293034 by omega))
  show w_R xs Ln 169 (241, lw_L m, [.int v, .int v], σ2, ce, sl) Q
  refine w_R.at (row := (.if_icmp .eq 1102, 3, 0, 0, 0)) (c' := (i_br .eq v v 1343 244, lw_L m, [], σ2, ce, sl)) (by decide +kernel) ?_ (fun m_ x_ Q_ k_ => ⟨trivial, k_⟩)
  exact w_R.br_eq (fun _ => hk σ2 ce sl h3 (by omega) (by omega)) (fun hne => absurd rfl hne)
set_option maxRecDepth 20000 in
theorem k_case2 (h : ∀ a0 a1 a2 a3, lw_ok xs Ln Rel 3 114 [.int a0, .int a1, .int a2, .int a3]) : lw_case xs Ln Rel 246 := by
  intro m σ ce sl Q hR hm hL hce hsl hk
  obtain ⟨v, σ1, σ2, h1, h2, h3⟩ := h (xs (Int32.ofNat (5 * m) + 1).toNatClampNeg) (xs (Int32.ofNat (5 * m) + 2).toNatClampNeg) (xs (Int32.ofNat (5 * m) + 3).toNatClampNeg) (xs (Int32.ofNat (5 * m) + 4).toNatClampNeg) m σ hR (by omega)
  refine w_R.at (row := (.aload_n 1, 1, 0, 0, 0)) (c' := (247, lw_L m, [.ref 1], σ, ce, sl)) (by decide +kernel) ?_ (fun m_ x_ Q_ k_ => ⟨trivial, k_⟩)
  refine w_R.at (row := (.aload_n 0, 1, 0, 0, 0)) (c' := (248, lw_L m, [.retAddr 0, .ref 1], σ, ce, sl)) (by decide +kernel) ?_ (fun m_ x_ Q_ k_ => ⟨rfl, k_⟩)
  refine w_R.at (row := (.iload 4, 2, 0, 0, 0)) (c' := (250, lw_L m, [.int (Int32.ofNat (5 * m)), .retAddr 0, .ref 1], σ, ce, sl)) (by decide +kernel) ?_ (fun m_ x_ Q_ k_ => ⟨trivial, k_⟩)
  refine w_R.at (row := (.iconst 1, 1, 0, 0, 0)) (c' := (251, lw_L m, [.int 1, .int (Int32.ofNat (5 * m)), .retAddr 0, .ref 1], σ, ce, sl)) (by decide +kernel) ?_ (fun m_ x_ Q_ k_ => ⟨trivial, k_⟩)
  refine w_R.at (row := (.iadd, 1, 0, 0, 0)) (c' := (252, lw_L m, [.int (Int32.ofNat (5 * m) + 1), .retAddr 0, .ref 1], σ, ce, sl)) (by decide +kernel) ?_ (fun m_ x_ Q_ k_ => ⟨trivial, k_⟩)
  refine w_R.at (row := (.iaload, 1, 0, 0, 0)) (c' := (253, lw_L m, [.int (xs (Int32.ofNat (5 * m) + 1).toNatClampNeg), .ref 1], σ, ce, sl)) (by decide +kernel) ?_ (fun m_ x_ Q_ k_ => ⟨⟨rfl, lw_in (k := 1) hm hL (by decide)⟩, k_⟩)
  refine w_R.at (row := (.aload_n 0, 1, 0, 0, 0)) (c' := (254, lw_L m, [.retAddr 0, .int (xs (Int32.ofNat (5 * m) + 1).toNatClampNeg), .ref 1], σ, ce, sl)) (by decide +kernel) ?_ (fun m_ x_ Q_ k_ => ⟨rfl, k_⟩)
  refine w_R.at (row := (.iload 4, 2, 0, 0, 0)) (c' := (256, lw_L m, [.int (Int32.ofNat (5 * m)), .retAddr 0, .int (xs (Int32.ofNat (5 * m) + 1).toNatClampNeg), .ref 1], σ, ce, sl)) (by decide +kernel) ?_ (fun m_ x_ Q_ k_ => ⟨trivial, k_⟩)
  refine w_R.at (row := (.iconst 2, 1, 0, 0, 0)) (c' := (257, lw_L m, [.int 2, .int (Int32.ofNat (5 * m)), .retAddr 0, .int (xs (Int32.ofNat (5 * m) + 1).toNatClampNeg), .ref 1], σ, ce, sl)) (by decide +kernel) ?_ (fun m_ x_ Q_ k_ => ⟨trivial, k_⟩)
  refine w_R.at (row := (.iadd, 1, 0, 0, 0)) (c' := (258, lw_L m, [.int (Int32.ofNat (5 * m) + 2), .retAddr 0, .int (xs (Int32.ofNat (5 * m) + 1).toNatClampNeg), .ref 1], σ, ce, sl)) (by decide +kernel) ?_ (fun m_ x_ Q_ k_ => ⟨trivial, k_⟩)
  refine w_R.at (row := (.iaload, 1, 0, 0, 0)) (c' := (259, lw_L m, [.int (xs (Int32.ofNat (5 * m) + 2).toNatClampNeg), .int (xs (Int32.ofNat (5 * m) + 1).toNatClampNeg), .ref 1], σ, ce, sl)) (by decide +kernel) ?_ (fun m_ x_ Q_ k_ => ⟨⟨rfl, lw_in (k := 2) hm hL (by decide)⟩, k_⟩)
  refine w_R.at (row := (.aload_n 0, 1, 0, 0, 0)) (c' := (260, lw_L m, [.retAddr 0, .int (xs (Int32.ofNat (5 * m) + 2).toNatClampNeg), .int (xs (Int32.ofNat (5 * m) + 1).toNatClampNeg), .ref 1], σ, ce, sl)) (by decide +kernel) ?_ (fun m_ x_ Q_ k_ => ⟨rfl, k_⟩)
  refine w_R.at (row := (.iload 4, 2, 0, 0, 0)) (c' := (262, lw_L m, [.int (Int32.ofNat (5 * m)), .retAddr 0, .int (xs (Int32.ofNat (5 * m) + 2).toNatClampNeg), .int (xs (Int32.ofNat (5 * m) + 1).toNatClampNeg), .ref 1], σ, ce, sl)) (by decide +kernel) ?_ (fun m_ x_ Q_ k_ => ⟨trivial, k_⟩)
  refine w_R.at (row := (.iconst 3, 1, 0, 0, 0)) (c' := (263, lw_L m, [.int 3, .int (Int32.ofNat (5 * m)), .retAddr 0, .int (xs (Int32.ofNat (5 * m) + 2).toNatClampNeg), .int (xs (Int32.ofNat (5 * m) + 1).toNatClampNeg), .ref 1], σ, ce, sl)) (by decide +kernel) ?_ (fun m_ x_ Q_ k_ => ⟨trivial, k_⟩)
  refine w_R.at (row := (.iadd, 1, 0, 0, 0)) (c' := (264, lw_L m, [.int (Int32.ofNat (5 * m) + 3), .retAddr 0, .int (xs (Int32.ofNat (5 * m) + 2).toNatClampNeg), .int (xs (Int32.ofNat (5 * m) + 1).toNatClampNeg), .ref 1], σ, ce, sl)) (by decide +kernel) ?_ (fun m_ x_ Q_ k_ => ⟨trivial, k_⟩)
  refine w_R.at (row := (.iaload, 1, 0, 0, 0)) (c' := (265, lw_L m, [.int (xs (Int32.ofNat (5 * m) + 3).toNatClampNeg), .int (xs (Int32.ofNat (5 * m) + 2).toNatClampNeg), .int (xs (Int32.ofNat (5 * m) + 1).toNatClampNeg), .ref 1], σ, ce, sl)) (by decide +kernel) ?_ (fun m_ x_ Q_ k_ => ⟨⟨rfl, lw_in (k := 3) hm hL (by decide)⟩, k_⟩)
  refine w_R.at (row := (.aload_n 0, 1, 0, 0, 0)) (c' := (266, lw_L m, [.retAddr 0, .int (xs (Int32.ofNat (5 * m) + 3).toNatClampNeg), .int (xs (Int32.ofNat (5 * m) + 2).toNatClampNeg), .int (xs (Int32.ofNat (5 * m) + 1).toNatClampNeg), .ref 1], σ, ce, sl)) (by decide +kernel) ?_ (fun m_ x_ Q_ k_ => ⟨rfl, k_⟩)
  refine w_R.at (row := (.iload 4, 2, 0, 0, 0)) (c' := (268, lw_L m, [.int (Int32.ofNat (5 * m)), .retAddr 0, .int (xs (Int32.ofNat (5 * m) + 3).toNatClampNeg), .int (xs (Int32.ofNat (5 * m) + 2).toNatClampNeg), .int (xs (Int32.ofNat (5 * m) + 1).toNatClampNeg), .ref 1], σ, ce, sl)) (by decide +kernel) ?_ (fun m_ x_ Q_ k_ => ⟨trivial, k_⟩)
  refine w_R.at (row := (.iconst 4, 1, 0, 0, 0)) (c' := (269, lw_L m, [.int 4, .int (Int32.ofNat (5 * m)), .retAddr 0, .int (xs (Int32.ofNat (5 * m) + 3).toNatClampNeg), .int (xs (Int32.ofNat (5 * m) + 2).toNatClampNeg), .int (xs (Int32.ofNat (5 * m) + 1).toNatClampNeg), .ref 1], σ, ce, sl)) (by decide +kernel) ?_ (fun m_ x_ Q_ k_ => ⟨trivial, k_⟩)
  refine w_R.at (row := (.iadd, 1, 0, 0, 0)) (c' := (270, lw_L m, [.int (Int32.ofNat (5 * m) + 4), .retAddr 0, .int (xs (Int32.ofNat (5 * m) + 3).toNatClampNeg), .int (xs (Int32.ofNat (5 * m) + 2).toNatClampNeg), .int (xs (Int32.ofNat (5 * m) + 1).toNatClampNeg), .ref 1], σ, ce, sl)) (by decide +kernel) ?_ (fun m_ x_ Q_ k_ => ⟨trivial, k_⟩)
  refine w_R.at (row := (.iaload, 1, 0, 0, 0)) (c' := (271, lw_L m, [.int (xs (Int32.ofNat (5 * m) + 4).toNatClampNeg), .int (xs (Int32.ofNat (5 * m) + 3).toNatClampNeg), .int (xs (Int32.ofNat (5 * m) + 2).toNatClampNeg), .int (xs (Int32.ofNat (5 * m) + 1).toNatClampNeg), .ref 1], σ, ce, sl)) (by decide +kernel) ?_ (fun m_ x_ Q_ k_ => ⟨⟨rfl, lw_in (k := 4) hm hL (by decide)⟩, k_⟩)
  refine w_R.callV (i := 53) (len := 3) (pl := 15) (na := 4) (ce' := ce) (sl' := sl) (v := some (.int v)) (σ' := σ1) (as := [.ref 1, .int (xs (Int32.ofNat (5 * m) + 1).toNatClampNeg), .int (xs (Int32.ofNat (5 * m) + 2).toNatClampNeg), .int (xs (Int32.ofNat (5 * m) + 3).toNatClampNeg), .int (xs (Int32.ofNat (5 * m) + 4).toNatClampNeg)]) (rest := []) h1 ?_ (by decide +kernel) rfl rfl rfl rfl sh_1 rfl rfl (Nat.ble_eq_true_of_le (show ce ≤ 601024 by omega)) (Nat.ble_eq_true_of_le (show sl ≤ 7293034 by omega))
  show w_R xs Ln 169 (274, lw_L m, [.int v], σ1, ce, sl) Q
  refine w_R.at (row := (.aload_n 2, 1, 0, 0, 0)) (c' := (275, lw_L m, [.ref 199, .int v], σ1, ce, sl)) (by decide +kernel) ?_ (fun m_ x_ Q_ k_ => ⟨trivial, k_⟩)
  refine w_R.at (row := (.aload_n 0, 1, 0, 0, 0)) (c' := (276, lw_L m, [.retAddr 0, .ref 199, .int v], σ1, ce, sl)) (by decide +kernel) ?_ (fun m_ x_ Q_ k_ => ⟨rfl, k_⟩)
  refine w_R.at (row := (.iload 4, 2, 0, 0, 0)) (c' := (278, lw_L m, [.int (Int32.ofNat (5 * m)), .retAddr 0, .ref 199, .int v], σ1, ce, sl)) (by decide +kernel) ?_ (fun m_ x_ Q_ k_ => ⟨trivial, k_⟩)
  refine w_R.at (row := (.iconst 1, 1, 0, 0, 0)) (c' := (279, lw_L m, [.int 1, .int (Int32.ofNat (5 * m)), .retAddr 0, .ref 199, .int v], σ1, ce, sl)) (by decide +kernel) ?_ (fun m_ x_ Q_ k_ => ⟨trivial, k_⟩)
  refine w_R.at (row := (.iadd, 1, 0, 0, 0)) (c' := (280, lw_L m, [.int (Int32.ofNat (5 * m) + 1), .retAddr 0, .ref 199, .int v], σ1, ce, sl)) (by decide +kernel) ?_ (fun m_ x_ Q_ k_ => ⟨trivial, k_⟩)
  refine w_R.at (row := (.iaload, 1, 0, 0, 0)) (c' := (281, lw_L m, [.int (xs (Int32.ofNat (5 * m) + 1).toNatClampNeg), .ref 199, .int v], σ1, ce, sl)) (by decide +kernel) ?_ (fun m_ x_ Q_ k_ => ⟨⟨rfl, lw_in (k := 1) hm hL (by decide)⟩, k_⟩)
  refine w_R.at (row := (.aload_n 0, 1, 0, 0, 0)) (c' := (282, lw_L m, [.retAddr 0, .int (xs (Int32.ofNat (5 * m) + 1).toNatClampNeg), .ref 199, .int v], σ1, ce, sl)) (by decide +kernel) ?_ (fun m_ x_ Q_ k_ => ⟨rfl, k_⟩)
  refine w_R.at (row := (.iload 4, 2, 0, 0, 0)) (c' := (284, lw_L m, [.int (Int32.ofNat (5 * m)), .retAddr 0, .int (xs (Int32.ofNat (5 * m) + 1).toNatClampNeg), .ref 199, .int v], σ1, ce, sl)) (by decide +kernel) ?_ (fun m_ x_ Q_ k_ => ⟨trivial, k_⟩)
  refine w_R.at (row := (.iconst 2, 1, 0, 0, 0)) (c' := (285, lw_L m, [.int 2, .int (Int32.ofNat (5 * m)), .retAddr 0, .int (xs (Int32.ofNat (5 * m) + 1).toNatClampNeg), .ref 199, .int v], σ1, ce, sl)) (by decide +kernel) ?_ (fun m_ x_ Q_ k_ => ⟨trivial, k_⟩)
  refine w_R.at (row := (.iadd, 1, 0, 0, 0)) (c' := (286, lw_L m, [.int (Int32.ofNat (5 * m) + 2), .retAddr 0, .int (xs (Int32.ofNat (5 * m) + 1).toNatClampNeg), .ref 199, .int v], σ1, ce, sl)) (by decide +kernel) ?_ (fun m_ x_ Q_ k_ => ⟨trivial, k_⟩)
  refine w_R.at (row := (.iaload, 1, 0, 0, 0)) (c' := (287, lw_L m, [.int (xs (Int32.ofNat (5 * m) + 2).toNatClampNeg), .int (xs (Int32.ofNat (5 * m) + 1).toNatClampNeg), .ref 199, .int v], σ1, ce, sl)) (by decide +kernel) ?_ (fun m_ x_ Q_ k_ => ⟨⟨rfl, lw_in (k := 2) hm hL (by decide)⟩, k_⟩)
  refine w_R.at (row := (.aload_n 0, 1, 0, 0, 0)) (c' := (288, lw_L m, [.retAddr 0, .int (xs (Int32.ofNat (5 * m) + 2).toNatClampNeg), .int (xs (Int32.ofNat (5 * m) + 1).toNatClampNeg), .ref 199, .int v], σ1, ce, sl)) (by decide +kernel) ?_ (fun m_ x_ Q_ k_ => ⟨rfl, k_⟩)
  refine w_R.at (row := (.iload 4, 2, 0, 0, 0)) (c' := (290, lw_L m, [.int (Int32.ofNat (5 * m)), .retAddr 0, .int (xs (Int32.ofNat (5 * m) + 2).toNatClampNeg), .int (xs (Int32.ofNat (5 * m) + 1).toNatClampNeg), .ref 199, .int v], σ1, ce, sl)) (by decide +kernel) ?_ (fun m_ x_ Q_ k_ => ⟨trivial, k_⟩)
  refine w_R.at (row := (.iconst 3, 1, 0, 0, 0)) (c' := (291, lw_L m, [.int 3, .int (Int32.ofNat (5 * m)), .retAddr 0, .int (xs (Int32.ofNat (5 * m) + 2).toNatClampNeg), .int (xs (Int32.ofNat (5 * m) + 1).toNatClampNeg), .ref 199, .int v], σ1, ce, sl)) (by decide +kernel) ?_ (fun m_ x_ Q_ k_ => ⟨trivial, k_⟩)
  refine w_R.at (row := (.iadd, 1, 0, 0, 0)) (c' := (292, lw_L m, [.int (Int32.ofNat (5 * m) + 3), .retAddr 0, .int (xs (Int32.ofNat (5 * m) + 2).toNatClampNeg), .int (xs (Int32.ofNat (5 * m) + 1).toNatClampNeg), .ref 199, .int v], σ1, ce, sl)) (by decide +kernel) ?_ (fun m_ x_ Q_ k_ => ⟨trivial, k_⟩)
  refine w_R.at (row := (.iaload, 1, 0, 0, 0)) (c' := (293, lw_L m, [.int (xs (Int32.ofNat (5 * m) + 3).toNatClampNeg), .int (xs (Int32.ofNat (5 * m) + 2).toNatClampNeg), .int (xs (Int32.ofNat (5 * m) + 1).toNatClampNeg), .ref 199, .int v], σ1, ce, sl)) (by decide +kernel) ?_ (fun m_ x_ Q_ k_ => ⟨⟨rfl, lw_in (k := 3) hm hL (by decide)⟩, k_⟩)
  refine w_R.at (row := (.aload_n 0, 1, 0, 0, 0)) (c' := (294, lw_L m, [.retAddr 0, .int (xs (Int32.ofNat (5 * m) + 3).toNatClampNeg), .int (xs (Int32.ofNat (5 * m) + 2).toNatClampNeg), .int (xs (Int32.ofNat (5 * m) + 1).toNatClampNeg), .ref 199, .int v], σ1, ce, sl)) (by decide +kernel) ?_ (fun m_ x_ Q_ k_ => ⟨rfl, k_⟩)
  refine w_R.at (row := (.iload 4, 2, 0, 0, 0)) (c' := (296, lw_L m, [.int (Int32.ofNat (5 * m)), .retAddr 0, .int (xs (Int32.ofNat (5 * m) + 3).toNatClampNeg), .int (xs (Int32.ofNat (5 * m) + 2).toNatClampNeg), .int (xs (Int32.ofNat (5 * m) + 1).toNatClampNeg), .ref 199, .int v], σ1, ce, sl)) (by decide +kernel) ?_ (fun m_ x_ Q_ k_ => ⟨trivial, k_⟩)
  refine w_R.at (row := (.iconst 4, 1, 0, 0, 0)) (c' := (297, lw_L m, [.int 4, .int (Int32.ofNat (5 * m)), .retAddr 0, .int (xs (Int32.ofNat (5 * m) + 3).toNatClampNeg), .int (xs (Int32.ofNat (5 * m) + 2).toNatClampNeg), .int (xs (Int32.ofNat (5 * m) + 1).toNatClampNeg), .ref 199, .int v], σ1, ce, sl)) (by decide +kernel) ?_ (fun m_ x_ Q_ k_ => ⟨trivial, k_⟩)
  refine w_R.at (row := (.iadd, 1, 0, 0, 0)) (c' := (298, lw_L m, [.int (Int32.ofNat (5 * m) + 4), .retAddr 0, .int (xs (Int32.ofNat (5 * m) + 3).toNatClampNeg), .int (xs (Int32.ofNat (5 * m) + 2).toNatClampNeg), .int (xs (Int32.ofNat (5 * m) + 1).toNatClampNeg), .ref 199, .int v], σ1, ce, sl)) (by decide +kernel) ?_ (fun m_ x_ Q_ k_ => ⟨trivial, k_⟩)
  refine w_R.at (row := (.iaload, 1, 0, 0, 0)) (c' := (299, lw_L m, [.int (xs (Int32.ofNat (5 * m) + 4).toNatClampNeg), .int (xs (Int32.ofNat (5 * m) + 3).toNatClampNeg), .int (xs (Int32.ofNat (5 * m) + 2).toNatClampNeg), .int (xs (Int32.ofNat (5 * m) + 1).toNatClampNeg), .ref 199, .int v], σ1, ce, sl)) (by decide +kernel) ?_ (fun m_ x_ Q_ k_ => ⟨⟨rfl, lw_in (k := 4) hm hL (by decide)⟩, k_⟩)
  refine w_R.callV (i := 57) (len := 3) (pl := 16) (na := 4) (ce' := ce) (sl' := sl) (v := some (.int v)) (σ' := σ2) (as := [.ref 199, .int (xs (Int32.ofNat (5 * m) + 1).toNatClampNeg), .int (xs (Int32.ofNat (5 * m) + 2).toNatClampNeg), .int (xs (Int32.ofNat (5 * m) + 3).toNatClampNeg), .int (xs (Int32.ofNat (5 * m) + 4).toNatClampNeg)]) (rest := [.int v]) h2 ?_ (by decide +kernel) rfl rfl rfl rfl sh_199 rfl rfl (Nat.ble_eq_true_of_le (show ce ≤ 601024 by omega)) (Nat.ble_eq_true_of_le (show sl ≤ 7293034 by omega))
  show w_R xs Ln 169 (302, lw_L m, [.int v, .int v], σ2, ce, sl) Q
  refine w_R.at (row := (.if_icmp .eq 1041, 3, 0, 0, 0)) (c' := (i_br .eq v v 1343 305, lw_L m, [], σ2, ce, sl)) (by decide +kernel) ?_ (fun m_ x_ Q_ k_ => ⟨trivial, k_⟩)
  exact w_R.br_eq (fun _ => hk σ2 ce sl h3 (by omega) (by omega)) (fun hne => absurd rfl hne)
set_option maxRecDepth 20000 in
theorem k_case3 (h : ∀ a0, lw_ok xs Ln Rel 4 115 [.int a0]) : lw_case xs Ln Rel 307 := by
  intro m σ ce sl Q hR hm hL hce hsl hk
  obtain ⟨v, σ1, σ2, h1, h2, h3⟩ := h (xs (Int32.ofNat (5 * m) + 1).toNatClampNeg) m σ hR (by omega)
  refine w_R.at (row := (.aload_n 1, 1, 0, 0, 0)) (c' := (308, lw_L m, [.ref 1], σ, ce, sl)) (by decide +kernel) ?_ (fun m_ x_ Q_ k_ => ⟨trivial, k_⟩)
  refine w_R.at (row := (.aload_n 0, 1, 0, 0, 0)) (c' := (309, lw_L m, [.retAddr 0, .ref 1], σ, ce, sl)) (by decide +kernel) ?_ (fun m_ x_ Q_ k_ => ⟨rfl, k_⟩)
  refine w_R.at (row := (.iload 4, 2, 0, 0, 0)) (c' := (311, lw_L m, [.int (Int32.ofNat (5 * m)), .retAddr 0, .ref 1], σ, ce, sl)) (by decide +kernel) ?_ (fun m_ x_ Q_ k_ => ⟨trivial, k_⟩)
  refine w_R.at (row := (.iconst 1, 1, 0, 0, 0)) (c' := (312, lw_L m, [.int 1, .int (Int32.ofNat (5 * m)), .retAddr 0, .ref 1], σ, ce, sl)) (by decide +kernel) ?_ (fun m_ x_ Q_ k_ => ⟨trivial, k_⟩)
  refine w_R.at (row := (.iadd, 1, 0, 0, 0)) (c' := (313, lw_L m, [.int (Int32.ofNat (5 * m) + 1), .retAddr 0, .ref 1], σ, ce, sl)) (by decide +kernel) ?_ (fun m_ x_ Q_ k_ => ⟨trivial, k_⟩)
  refine w_R.at (row := (.iaload, 1, 0, 0, 0)) (c' := (314, lw_L m, [.int (xs (Int32.ofNat (5 * m) + 1).toNatClampNeg), .ref 1], σ, ce, sl)) (by decide +kernel) ?_ (fun m_ x_ Q_ k_ => ⟨⟨rfl, lw_in (k := 1) hm hL (by decide)⟩, k_⟩)
  refine w_R.callV (i := 58) (len := 3) (pl := 17) (na := 1) (ce' := ce) (sl' := sl) (v := some (.int v)) (σ' := σ1) (as := [.ref 1, .int (xs (Int32.ofNat (5 * m) + 1).toNatClampNeg)]) (rest := []) h1 ?_ (by decide +kernel) rfl rfl rfl rfl sh_1 rfl rfl (Nat.ble_eq_true_of_le (show ce ≤ 601024 by omega)) (Nat.ble_eq_true_of_le (show sl ≤ 7293034 by omega))
  show w_R xs Ln 169 (317, lw_L m, [.int v], σ1, ce, sl) Q
  refine w_R.at (row := (.aload_n 2, 1, 0, 0, 0)) (c' := (318, lw_L m, [.ref 199, .int v], σ1, ce, sl)) (by decide +kernel) ?_ (fun m_ x_ Q_ k_ => ⟨trivial, k_⟩)
  refine w_R.at (row := (.aload_n 0, 1, 0, 0, 0)) (c' := (319, lw_L m, [.retAddr 0, .ref 199, .int v], σ1, ce, sl)) (by decide +kernel) ?_ (fun m_ x_ Q_ k_ => ⟨rfl, k_⟩)
  refine w_R.at (row := (.iload 4, 2, 0, 0, 0)) (c' := (321, lw_L m, [.int (Int32.ofNat (5 * m)), .retAddr 0, .ref 199, .int v], σ1, ce, sl)) (by decide +kernel) ?_ (fun m_ x_ Q_ k_ => ⟨trivial, k_⟩)
  refine w_R.at (row := (.iconst 1, 1, 0, 0, 0)) (c' := (322, lw_L m, [.int 1, .int (Int32.ofNat (5 * m)), .retAddr 0, .ref 199, .int v], σ1, ce, sl)) (by decide +kernel) ?_ (fun m_ x_ Q_ k_ => ⟨trivial, k_⟩)
  refine w_R.at (row := (.iadd, 1, 0, 0, 0)) (c' := (323, lw_L m, [.int (Int32.ofNat (5 * m) + 1), .retAddr 0, .ref 199, .int v], σ1, ce, sl)) (by decide +kernel) ?_ (fun m_ x_ Q_ k_ => ⟨trivial, k_⟩)
  refine w_R.at (row := (.iaload, 1, 0, 0, 0)) (c' := (324, lw_L m, [.int (xs (Int32.ofNat (5 * m) + 1).toNatClampNeg), .ref 199, .int v], σ1, ce, sl)) (by decide +kernel) ?_ (fun m_ x_ Q_ k_ => ⟨⟨rfl, lw_in (k := 1) hm hL (by decide)⟩, k_⟩)
  refine w_R.callV (i := 62) (len := 3) (pl := 18) (na := 1) (ce' := ce) (sl' := sl) (v := some (.int v)) (σ' := σ2) (as := [.ref 199, .int (xs (Int32.ofNat (5 * m) + 1).toNatClampNeg)]) (rest := [.int v]) h2 ?_ (by decide +kernel) rfl rfl rfl rfl sh_199 rfl rfl (Nat.ble_eq_true_of_le (show ce ≤ 601024 by omega)) (Nat.ble_eq_true_of_le (show sl ≤ 7293034 by omega))
  show w_R xs Ln 169 (327, lw_L m, [.int v, .int v], σ2, ce, sl) Q
  refine w_R.at (row := (.if_icmp .eq 1016, 3, 0, 0, 0)) (c' := (i_br .eq v v 1343 330, lw_L m, [], σ2, ce, sl)) (by decide +kernel) ?_ (fun m_ x_ Q_ k_ => ⟨trivial, k_⟩)
  exact w_R.br_eq (fun _ => hk σ2 ce sl h3 (by omega) (by omega)) (fun hne => absurd rfl hne)
set_option maxRecDepth 20000 in
theorem k_case4 (h : ∀ a0 a1 a2, lw_ok xs Ln Rel 5 135 [.int a0, .int a1, .int a2]) : lw_case xs Ln Rel 332 := by
  intro m σ ce sl Q hR hm hL hce hsl hk
  obtain ⟨v, σ1, σ2, h1, h2, h3⟩ := h (xs (Int32.ofNat (5 * m) + 1).toNatClampNeg) (xs (Int32.ofNat (5 * m) + 2).toNatClampNeg) (xs (Int32.ofNat (5 * m) + 3).toNatClampNeg) m σ hR (by omega)
  refine w_R.at (row := (.aload_n 1, 1, 0, 0, 0)) (c' := (333, lw_L m, [.ref 1], σ, ce, sl)) (by decide +kernel) ?_ (fun m_ x_ Q_ k_ => ⟨trivial, k_⟩)
  refine w_R.at (row := (.aload_n 0, 1, 0, 0, 0)) (c' := (334, lw_L m, [.retAddr 0, .ref 1], σ, ce, sl)) (by decide +kernel) ?_ (fun m_ x_ Q_ k_ => ⟨rfl, k_⟩)
  refine w_R.at (row := (.iload 4, 2, 0, 0, 0)) (c' := (336, lw_L m, [.int (Int32.ofNat (5 * m)), .retAddr 0, .ref 1], σ, ce, sl)) (by decide +kernel) ?_ (fun m_ x_ Q_ k_ => ⟨trivial, k_⟩)
  refine w_R.at (row := (.iconst 1, 1, 0, 0, 0)) (c' := (337, lw_L m, [.int 1, .int (Int32.ofNat (5 * m)), .retAddr 0, .ref 1], σ, ce, sl)) (by decide +kernel) ?_ (fun m_ x_ Q_ k_ => ⟨trivial, k_⟩)
  refine w_R.at (row := (.iadd, 1, 0, 0, 0)) (c' := (338, lw_L m, [.int (Int32.ofNat (5 * m) + 1), .retAddr 0, .ref 1], σ, ce, sl)) (by decide +kernel) ?_ (fun m_ x_ Q_ k_ => ⟨trivial, k_⟩)
  refine w_R.at (row := (.iaload, 1, 0, 0, 0)) (c' := (339, lw_L m, [.int (xs (Int32.ofNat (5 * m) + 1).toNatClampNeg), .ref 1], σ, ce, sl)) (by decide +kernel) ?_ (fun m_ x_ Q_ k_ => ⟨⟨rfl, lw_in (k := 1) hm hL (by decide)⟩, k_⟩)
  refine w_R.at (row := (.aload_n 0, 1, 0, 0, 0)) (c' := (340, lw_L m, [.retAddr 0, .int (xs (Int32.ofNat (5 * m) + 1).toNatClampNeg), .ref 1], σ, ce, sl)) (by decide +kernel) ?_ (fun m_ x_ Q_ k_ => ⟨rfl, k_⟩)
  refine w_R.at (row := (.iload 4, 2, 0, 0, 0)) (c' := (342, lw_L m, [.int (Int32.ofNat (5 * m)), .retAddr 0, .int (xs (Int32.ofNat (5 * m) + 1).toNatClampNeg), .ref 1], σ, ce, sl)) (by decide +kernel) ?_ (fun m_ x_ Q_ k_ => ⟨trivial, k_⟩)
  refine w_R.at (row := (.iconst 2, 1, 0, 0, 0)) (c' := (343, lw_L m, [.int 2, .int (Int32.ofNat (5 * m)), .retAddr 0, .int (xs (Int32.ofNat (5 * m) + 1).toNatClampNeg), .ref 1], σ, ce, sl)) (by decide +kernel) ?_ (fun m_ x_ Q_ k_ => ⟨trivial, k_⟩)
  refine w_R.at (row := (.iadd, 1, 0, 0, 0)) (c' := (344, lw_L m, [.int (Int32.ofNat (5 * m) + 2), .retAddr 0, .int (xs (Int32.ofNat (5 * m) + 1).toNatClampNeg), .ref 1], σ, ce, sl)) (by decide +kernel) ?_ (fun m_ x_ Q_ k_ => ⟨trivial, k_⟩)
  refine w_R.at (row := (.iaload, 1, 0, 0, 0)) (c' := (345, lw_L m, [.int (xs (Int32.ofNat (5 * m) + 2).toNatClampNeg), .int (xs (Int32.ofNat (5 * m) + 1).toNatClampNeg), .ref 1], σ, ce, sl)) (by decide +kernel) ?_ (fun m_ x_ Q_ k_ => ⟨⟨rfl, lw_in (k := 2) hm hL (by decide)⟩, k_⟩)
  refine w_R.at (row := (.aload_n 0, 1, 0, 0, 0)) (c' := (346, lw_L m, [.retAddr 0, .int (xs (Int32.ofNat (5 * m) + 2).toNatClampNeg), .int (xs (Int32.ofNat (5 * m) + 1).toNatClampNeg), .ref 1], σ, ce, sl)) (by decide +kernel) ?_ (fun m_ x_ Q_ k_ => ⟨rfl, k_⟩)
  refine w_R.at (row := (.iload 4, 2, 0, 0, 0)) (c' := (348, lw_L m, [.int (Int32.ofNat (5 * m)), .retAddr 0, .int (xs (Int32.ofNat (5 * m) + 2).toNatClampNeg), .int (xs (Int32.ofNat (5 * m) + 1).toNatClampNeg), .ref 1], σ, ce, sl)) (by decide +kernel) ?_ (fun m_ x_ Q_ k_ => ⟨trivial, k_⟩)
  refine w_R.at (row := (.iconst 3, 1, 0, 0, 0)) (c' := (349, lw_L m, [.int 3, .int (Int32.ofNat (5 * m)), .retAddr 0, .int (xs (Int32.ofNat (5 * m) + 2).toNatClampNeg), .int (xs (Int32.ofNat (5 * m) + 1).toNatClampNeg), .ref 1], σ, ce, sl)) (by decide +kernel) ?_ (fun m_ x_ Q_ k_ => ⟨trivial, k_⟩)
  refine w_R.at (row := (.iadd, 1, 0, 0, 0)) (c' := (350, lw_L m, [.int (Int32.ofNat (5 * m) + 3), .retAddr 0, .int (xs (Int32.ofNat (5 * m) + 2).toNatClampNeg), .int (xs (Int32.ofNat (5 * m) + 1).toNatClampNeg), .ref 1], σ, ce, sl)) (by decide +kernel) ?_ (fun m_ x_ Q_ k_ => ⟨trivial, k_⟩)
  refine w_R.at (row := (.iaload, 1, 0, 0, 0)) (c' := (351, lw_L m, [.int (xs (Int32.ofNat (5 * m) + 3).toNatClampNeg), .int (xs (Int32.ofNat (5 * m) + 2).toNatClampNeg), .int (xs (Int32.ofNat (5 * m) + 1).toNatClampNeg), .ref 1], σ, ce, sl)) (by decide +kernel) ?_ (fun m_ x_ Q_ k_ => ⟨⟨rfl, lw_in (k := 3) hm hL (by decide)⟩, k_⟩)
  refine w_R.callV (i := 63) (len := 3) (pl := 19) (na := 3) (ce' := ce) (sl' := sl) (v := some (.int v)) (σ' := σ1) (as := [.ref 1, .int (xs (Int32.ofNat (5 * m) + 1).toNatClampNeg), .int (xs (Int32.ofNat (5 * m) + 2).toNatClampNeg), .int (xs (Int32.ofNat (5 * m) + 3).toNatClampNeg)]) (rest := []) h1 ?_ (by decide +kernel) rfl rfl rfl rfl sh_1 rfl rfl (Nat.ble_eq_true_of_le (show ce ≤ 601024 by omega)) (Nat.ble_eq_true_of_le (show sl ≤ 7293034 by omega))
  show w_R xs Ln 169 (354, lw_L m, [.int v], σ1, ce, sl) Q
  refine w_R.at (row := (.aload_n 2, 1, 0, 0, 0)) (c' := (355, lw_L m, [.ref 199, .int v], σ1, ce, sl)) (by decide +kernel) ?_ (fun m_ x_ Q_ k_ => ⟨trivial, k_⟩)
  refine w_R.at (row := (.aload_n 0, 1, 0, 0, 0)) (c' := (356, lw_L m, [.retAddr 0, .ref 199, .int v], σ1, ce, sl)) (by decide +kernel) ?_ (fun m_ x_ Q_ k_ => ⟨rfl, k_⟩)
  refine w_R.at (row := (.iload 4, 2, 0, 0, 0)) (c' := (358, lw_L m, [.int (Int32.ofNat (5 * m)), .retAddr 0, .ref 199, .int v], σ1, ce, sl)) (by decide +kernel) ?_ (fun m_ x_ Q_ k_ => ⟨trivial, k_⟩)
  refine w_R.at (row := (.iconst 1, 1, 0, 0, 0)) (c' := (359, lw_L m, [.int 1, .int (Int32.ofNat (5 * m)), .retAddr 0, .ref 199, .int v], σ1, ce, sl)) (by decide +kernel) ?_ (fun m_ x_ Q_ k_ => ⟨trivial, k_⟩)
  refine w_R.at (row := (.iadd, 1, 0, 0, 0)) (c' := (360, lw_L m, [.int (Int32.ofNat (5 * m) + 1), .retAddr 0, .ref 199, .int v], σ1, ce, sl)) (by decide +kernel) ?_ (fun m_ x_ Q_ k_ => ⟨trivial, k_⟩)
  refine w_R.at (row := (.iaload, 1, 0, 0, 0)) (c' := (361, lw_L m, [.int (xs (Int32.ofNat (5 * m) + 1).toNatClampNeg), .ref 199, .int v], σ1, ce, sl)) (by decide +kernel) ?_ (fun m_ x_ Q_ k_ => ⟨⟨rfl, lw_in (k := 1) hm hL (by decide)⟩, k_⟩)
  refine w_R.at (row := (.aload_n 0, 1, 0, 0, 0)) (c' := (362, lw_L m, [.retAddr 0, .int (xs (Int32.ofNat (5 * m) + 1).toNatClampNeg), .ref 199, .int v], σ1, ce, sl)) (by decide +kernel) ?_ (fun m_ x_ Q_ k_ => ⟨rfl, k_⟩)
  refine w_R.at (row := (.iload 4, 2, 0, 0, 0)) (c' := (364, lw_L m, [.int (Int32.ofNat (5 * m)), .retAddr 0, .int (xs (Int32.ofNat (5 * m) + 1).toNatClampNeg), .ref 199, .int v], σ1, ce, sl)) (by decide +kernel) ?_ (fun m_ x_ Q_ k_ => ⟨trivial, k_⟩)
  refine w_R.at (row := (.iconst 2, 1, 0, 0, 0)) (c' := (365, lw_L m, [.int 2, .int (Int32.ofNat (5 * m)), .retAddr 0, .int (xs (Int32.ofNat (5 * m) + 1).toNatClampNeg), .ref 199, .int v], σ1, ce, sl)) (by decide +kernel) ?_ (fun m_ x_ Q_ k_ => ⟨trivial, k_⟩)
  refine w_R.at (row := (.iadd, 1, 0, 0, 0)) (c' := (366, lw_L m, [.int (Int32.ofNat (5 * m) + 2), .retAddr 0, .int (xs (Int32.ofNat (5 * m) + 1).toNatClampNeg), .ref 199, .int v], σ1, ce, sl)) (by decide +kernel) ?_ (fun m_ x_ Q_ k_ => ⟨trivial, k_⟩)
  refine w_R.at (row := (.iaload, 1, 0, 0, 0)) (c' := (367, lw_L m, [.int (xs (Int32.ofNat (5 * m) + 2).toNatClampNeg), .int (xs (Int32.ofNat (5 * m) + 1).toNatClampNeg), .ref 199, .int v], σ1, ce, sl)) (by decide +kernel) ?_ (fun m_ x_ Q_ k_ => ⟨⟨rfl, lw_in (k := 2) hm hL (by decide)⟩, k_⟩)
  refine w_R.at (row := (.aload_n 0, 1, 0, 0, 0)) (c' := (368, lw_L m, [.retAddr 0, .int (xs (Int32.ofNat (5 * m) + 2).toNatClampNeg), .int (xs (Int32.ofNat (5 * m) + 1).toNatClampNeg), .ref 199, .int v], σ1, ce, sl)) (by decide +kernel) ?_ (fun m_ x_ Q_ k_ => ⟨rfl, k_⟩)
  refine w_R.at (row := (.iload 4, 2, 0, 0, 0)) (c' := (370, lw_L m, [.int (Int32.ofNat (5 * m)), .retAddr 0, .int (xs (Int32.ofNat (5 * m) + 2).toNatClampNeg), .int (xs (Int32.ofNat (5 * m) + 1).toNatClampNeg), .ref 199, .int v], σ1, ce, sl)) (by decide +kernel) ?_ (fun m_ x_ Q_ k_ => ⟨trivial, k_⟩)
  refine w_R.at (row := (.iconst 3, 1, 0, 0, 0)) (c' := (371, lw_L m, [.int 3, .int (Int32.ofNat (5 * m)), .retAddr 0, .int (xs (Int32.ofNat (5 * m) + 2).toNatClampNeg), .int (xs (Int32.ofNat (5 * m) + 1).toNatClampNeg), .ref 199, .int v], σ1, ce, sl)) (by decide +kernel) ?_ (fun m_ x_ Q_ k_ => ⟨trivial, k_⟩)
  refine w_R.at (row := (.iadd, 1, 0, 0, 0)) (c' := (372, lw_L m, [.int (Int32.ofNat (5 * m) + 3), .retAddr 0, .int (xs (Int32.ofNat (5 * m) + 2).toNatClampNeg), .int (xs (Int32.ofNat (5 * m) + 1).toNatClampNeg), .ref 199, .int v], σ1, ce, sl)) (by decide +kernel) ?_ (fun m_ x_ Q_ k_ => ⟨trivial, k_⟩)
  refine w_R.at (row := (.iaload, 1, 0, 0, 0)) (c' := (373, lw_L m, [.int (xs (Int32.ofNat (5 * m) + 3).toNatClampNeg), .int (xs (Int32.ofNat (5 * m) + 2).toNatClampNeg), .int (xs (Int32.ofNat (5 * m) + 1).toNatClampNeg), .ref 199, .int v], σ1, ce, sl)) (by decide +kernel) ?_ (fun m_ x_ Q_ k_ => ⟨⟨rfl, lw_in (k := 3) hm hL (by decide)⟩, k_⟩)
  refine w_R.callV (i := 66) (len := 3) (pl := 20) (na := 3) (ce' := ce) (sl' := sl) (v := some (.int v)) (σ' := σ2) (as := [.ref 199, .int (xs (Int32.ofNat (5 * m) + 1).toNatClampNeg), .int (xs (Int32.ofNat (5 * m) + 2).toNatClampNeg), .int (xs (Int32.ofNat (5 * m) + 3).toNatClampNeg)]) (rest := [.int v]) h2 ?_ (by decide +kernel) rfl rfl rfl rfl sh_199 rfl rfl (Nat.ble_eq_true_of_le (show ce ≤ 601024 by omega)) (Nat.ble_eq_true_of_le (show sl ≤ 7293034 by omega))
  show w_R xs Ln 169 (376, lw_L m, [.int v, .int v], σ2, ce, sl) Q
  refine w_R.at (row := (.if_icmp .eq 967, 3, 0, 0, 0)) (c' := (i_br .eq v v 1343 379, lw_L m, [], σ2, ce, sl)) (by decide +kernel) ?_ (fun m_ x_ Q_ k_ => ⟨trivial, k_⟩)
  exact w_R.br_eq (fun _ => hk σ2 ce sl h3 (by omega) (by omega)) (fun hne => absurd rfl hne)
set_option maxRecDepth 20000 in
theorem k_case5 (h : ∀ a0 a1, lw_ok xs Ln Rel 6 136 [.int a0, .int a1]) : lw_case xs Ln Rel 381 := by
  intro m σ ce sl Q hR hm hL hce hsl hk
  obtain ⟨v, σ1, σ2, h1, h2, h3⟩ := h (xs (Int32.ofNat (5 * m) + 1).toNatClampNeg) (xs (Int32.ofNat (5 * m) + 2).toNatClampNeg) m σ hR (by omega)
  refine w_R.at (row := (.aload_n 1, 1, 0, 0, 0)) (c' := (382, lw_L m, [.ref 1], σ, ce, sl)) (by decide +kernel) ?_ (fun m_ x_ Q_ k_ => ⟨trivial, k_⟩)
  refine w_R.at (row := (.aload_n 0, 1, 0, 0, 0)) (c' := (383, lw_L m, [.retAddr 0, .ref 1], σ, ce, sl)) (by decide +kernel) ?_ (fun m_ x_ Q_ k_ => ⟨rfl, k_⟩)
  refine w_R.at (row := (.iload 4, 2, 0, 0, 0)) (c' := (385, lw_L m, [.int (Int32.ofNat (5 * m)), .retAddr 0, .ref 1], σ, ce, sl)) (by decide +kernel) ?_ (fun m_ x_ Q_ k_ => ⟨trivial, k_⟩)
  refine w_R.at (row := (.iconst 1, 1, 0, 0, 0)) (c' := (386, lw_L m, [.int 1, .int (Int32.ofNat (5 * m)), .retAddr 0, .ref 1], σ, ce, sl)) (by decide +kernel) ?_ (fun m_ x_ Q_ k_ => ⟨trivial, k_⟩)
  refine w_R.at (row := (.iadd, 1, 0, 0, 0)) (c' := (387, lw_L m, [.int (Int32.ofNat (5 * m) + 1), .retAddr 0, .ref 1], σ, ce, sl)) (by decide +kernel) ?_ (fun m_ x_ Q_ k_ => ⟨trivial, k_⟩)
  refine w_R.at (row := (.iaload, 1, 0, 0, 0)) (c' := (388, lw_L m, [.int (xs (Int32.ofNat (5 * m) + 1).toNatClampNeg), .ref 1], σ, ce, sl)) (by decide +kernel) ?_ (fun m_ x_ Q_ k_ => ⟨⟨rfl, lw_in (k := 1) hm hL (by decide)⟩, k_⟩)
  refine w_R.at (row := (.aload_n 0, 1, 0, 0, 0)) (c' := (389, lw_L m, [.retAddr 0, .int (xs (Int32.ofNat (5 * m) + 1).toNatClampNeg), .ref 1], σ, ce, sl)) (by decide +kernel) ?_ (fun m_ x_ Q_ k_ => ⟨rfl, k_⟩)
  refine w_R.at (row := (.iload 4, 2, 0, 0, 0)) (c' := (391, lw_L m, [.int (Int32.ofNat (5 * m)), .retAddr 0, .int (xs (Int32.ofNat (5 * m) + 1).toNatClampNeg), .ref 1], σ, ce, sl)) (by decide +kernel) ?_ (fun m_ x_ Q_ k_ => ⟨trivial, k_⟩)
  refine w_R.at (row := (.iconst 2, 1, 0, 0, 0)) (c' := (392, lw_L m, [.int 2, .int (Int32.ofNat (5 * m)), .retAddr 0, .int (xs (Int32.ofNat (5 * m) + 1).toNatClampNeg), .ref 1], σ, ce, sl)) (by decide +kernel) ?_ (fun m_ x_ Q_ k_ => ⟨trivial, k_⟩)
  refine w_R.at (row := (.iadd, 1, 0, 0, 0)) (c' := (393, lw_L m, [.int (Int32.ofNat (5 * m) + 2), .retAddr 0, .int (xs (Int32.ofNat (5 * m) + 1).toNatClampNeg), .ref 1], σ, ce, sl)) (by decide +kernel) ?_ (fun m_ x_ Q_ k_ => ⟨trivial, k_⟩)
  refine w_R.at (row := (.iaload, 1, 0, 0, 0)) (c' := (394, lw_L m, [.int (xs (Int32.ofNat (5 * m) + 2).toNatClampNeg), .int (xs (Int32.ofNat (5 * m) + 1).toNatClampNeg), .ref 1], σ, ce, sl)) (by decide +kernel) ?_ (fun m_ x_ Q_ k_ => ⟨⟨rfl, lw_in (k := 2) hm hL (by decide)⟩, k_⟩)
  refine w_R.callV (i := 67) (len := 3) (pl := 21) (na := 2) (ce' := ce) (sl' := sl) (v := some (.int v)) (σ' := σ1) (as := [.ref 1, .int (xs (Int32.ofNat (5 * m) + 1).toNatClampNeg), .int (xs (Int32.ofNat (5 * m) + 2).toNatClampNeg)]) (rest := []) h1 ?_ (by decide +kernel) rfl rfl rfl rfl sh_1 rfl rfl (Nat.ble_eq_true_of_le (show ce ≤ 601024 by omega)) (Nat.ble_eq_true_of_le (show sl ≤ 7293034 by omega))
  show w_R xs Ln 169 (397, lw_L m, [.int v], σ1, ce, sl) Q
  refine w_R.at (row := (.aload_n 2, 1, 0, 0, 0)) (c' := (398, lw_L m, [.ref 199, .int v], σ1, ce, sl)) (by decide +kernel) ?_ (fun m_ x_ Q_ k_ => ⟨trivial, k_⟩)
  refine w_R.at (row := (.aload_n 0, 1, 0, 0, 0)) (c' := (399, lw_L m, [.retAddr 0, .ref 199, .int v], σ1, ce, sl)) (by decide +kernel) ?_ (fun m_ x_ Q_ k_ => ⟨rfl, k_⟩)
  refine w_R.at (row := (.iload 4, 2, 0, 0, 0)) (c' := (401, lw_L m, [.int (Int32.ofNat (5 * m)), .retAddr 0, .ref 199, .int v], σ1, ce, sl)) (by decide +kernel) ?_ (fun m_ x_ Q_ k_ => ⟨trivial, k_⟩)
  refine w_R.at (row := (.iconst 1, 1, 0, 0, 0)) (c' := (402, lw_L m, [.int 1, .int (Int32.ofNat (5 * m)), .retAddr 0, .ref 199, .int v], σ1, ce, sl)) (by decide +kernel) ?_ (fun m_ x_ Q_ k_ => ⟨trivial, k_⟩)
  refine w_R.at (row := (.iadd, 1, 0, 0, 0)) (c' := (403, lw_L m, [.int (Int32.ofNat (5 * m) + 1), .retAddr 0, .ref 199, .int v], σ1, ce, sl)) (by decide +kernel) ?_ (fun m_ x_ Q_ k_ => ⟨trivial, k_⟩)
  refine w_R.at (row := (.iaload, 1, 0, 0, 0)) (c' := (404, lw_L m, [.int (xs (Int32.ofNat (5 * m) + 1).toNatClampNeg), .ref 199, .int v], σ1, ce, sl)) (by decide +kernel) ?_ (fun m_ x_ Q_ k_ => ⟨⟨rfl, lw_in (k := 1) hm hL (by decide)⟩, k_⟩)
  refine w_R.at (row := (.aload_n 0, 1, 0, 0, 0)) (c' := (405, lw_L m, [.retAddr 0, .int (xs (Int32.ofNat (5 * m) + 1).toNatClampNeg), .ref 199, .int v], σ1, ce, sl)) (by decide +kernel) ?_ (fun m_ x_ Q_ k_ => ⟨rfl, k_⟩)
  refine w_R.at (row := (.iload 4, 2, 0, 0, 0)) (c' := (407, lw_L m, [.int (Int32.ofNat (5 * m)), .retAddr 0, .int (xs (Int32.ofNat (5 * m) + 1).toNatClampNeg), .ref 199, .int v], σ1, ce, sl)) (by decide +kernel) ?_ (fun m_ x_ Q_ k_ => ⟨trivial, k_⟩)
  refine w_R.at (row := (.iconst 2, 1, 0, 0, 0)) (c' := (408, lw_L m, [.int 2, .int (Int32.ofNat (5 * m)), .retAddr 0, .int (xs (Int32.ofNat (5 * m) + 1).toNatClampNeg), .ref 199, .int v], σ1, ce, sl)) (by decide +kernel) ?_ (fun m_ x_ Q_ k_ => ⟨trivial, k_⟩)
  refine w_R.at (row := (.iadd, 1, 0, 0, 0)) (c' := (409, lw_L m, [.int (Int32.ofNat (5 * m) + 2), .retAddr 0, .int (xs (Int32.ofNat (5 * m) + 1).toNatClampNeg), .ref 199, .int v], σ1, ce, sl)) (by decide +kernel) ?_ (fun m_ x_ Q_ k_ => ⟨trivial, k_⟩)
  refine w_R.at (row := (.iaload, 1, 0, 0, 0)) (c' := (410, lw_L m, [.int (xs (Int32.ofNat (5 * m) + 2).toNatClampNeg), .int (xs (Int32.ofNat (5 * m) + 1).toNatClampNeg), .ref 199, .int v], σ1, ce, sl)) (by decide +kernel) ?_ (fun m_ x_ Q_ k_ => ⟨⟨rfl, lw_in (k := 2) hm hL (by decide)⟩, k_⟩)
  refine w_R.callV (i := 70) (len := 3) (pl := 22) (na := 2) (ce' := ce) (sl' := sl) (v := some (.int v)) (σ' := σ2) (as := [.ref 199, .int (xs (Int32.ofNat (5 * m) + 1).toNatClampNeg), .int (xs (Int32.ofNat (5 * m) + 2).toNatClampNeg)]) (rest := [.int v]) h2 ?_ (by decide +kernel) rfl rfl rfl rfl sh_199 rfl rfl (Nat.ble_eq_true_of_le (show ce ≤ 601024 by omega)) (Nat.ble_eq_true_of_le (show sl ≤ 7293034 by omega))
  show w_R xs Ln 169 (413, lw_L m, [.int v, .int v], σ2, ce, sl) Q
  refine w_R.at (row := (.if_icmp .eq 930, 3, 0, 0, 0)) (c' := (i_br .eq v v 1343 416, lw_L m, [], σ2, ce, sl)) (by decide +kernel) ?_ (fun m_ x_ Q_ k_ => ⟨trivial, k_⟩)
  exact w_R.br_eq (fun _ => hk σ2 ce sl h3 (by omega) (by omega)) (fun hne => absurd rfl hne)
set_option maxRecDepth 20000 in
theorem k_case6 (h : ∀ a0 a1, lw_ok xs Ln Rel 7 137 [.int a0, .int a1]) : lw_case xs Ln Rel 418 := by
  intro m σ ce sl Q hR hm hL hce hsl hk
  obtain ⟨v, σ1, σ2, h1, h2, h3⟩ := h (xs (Int32.ofNat (5 * m) + 1).toNatClampNeg) (xs (Int32.ofNat (5 * m) + 2).toNatClampNeg) m σ hR (by omega)
  refine w_R.at (row := (.aload_n 1, 1, 0, 0, 0)) (c' := (419, lw_L m, [.ref 1], σ, ce, sl)) (by decide +kernel) ?_ (fun m_ x_ Q_ k_ => ⟨trivial, k_⟩)
  refine w_R.at (row := (.aload_n 0, 1, 0, 0, 0)) (c' := (420, lw_L m, [.retAddr 0, .ref 1], σ, ce, sl)) (by decide +kernel) ?_ (fun m_ x_ Q_ k_ => ⟨rfl, k_⟩)
  refine w_R.at (row := (.iload 4, 2, 0, 0, 0)) (c' := (422, lw_L m, [.int (Int32.ofNat (5 * m)), .retAddr 0, .ref 1], σ, ce, sl)) (by decide +kernel) ?_ (fun m_ x_ Q_ k_ => ⟨trivial, k_⟩)
  refine w_R.at (row := (.iconst 1, 1, 0, 0, 0)) (c' := (423, lw_L m, [.int 1, .int (Int32.ofNat (5 * m)), .retAddr 0, .ref 1], σ, ce, sl)) (by decide +kernel) ?_ (fun m_ x_ Q_ k_ => ⟨trivial, k_⟩)
  refine w_R.at (row := (.iadd, 1, 0, 0, 0)) (c' := (424, lw_L m, [.int (Int32.ofNat (5 * m) + 1), .retAddr 0, .ref 1], σ, ce, sl)) (by decide +kernel) ?_ (fun m_ x_ Q_ k_ => ⟨trivial, k_⟩)
  refine w_R.at (row := (.iaload, 1, 0, 0, 0)) (c' := (425, lw_L m, [.int (xs (Int32.ofNat (5 * m) + 1).toNatClampNeg), .ref 1], σ, ce, sl)) (by decide +kernel) ?_ (fun m_ x_ Q_ k_ => ⟨⟨rfl, lw_in (k := 1) hm hL (by decide)⟩, k_⟩)
  refine w_R.at (row := (.aload_n 0, 1, 0, 0, 0)) (c' := (426, lw_L m, [.retAddr 0, .int (xs (Int32.ofNat (5 * m) + 1).toNatClampNeg), .ref 1], σ, ce, sl)) (by decide +kernel) ?_ (fun m_ x_ Q_ k_ => ⟨rfl, k_⟩)
  refine w_R.at (row := (.iload 4, 2, 0, 0, 0)) (c' := (428, lw_L m, [.int (Int32.ofNat (5 * m)), .retAddr 0, .int (xs (Int32.ofNat (5 * m) + 1).toNatClampNeg), .ref 1], σ, ce, sl)) (by decide +kernel) ?_ (fun m_ x_ Q_ k_ => ⟨trivial, k_⟩)
  refine w_R.at (row := (.iconst 2, 1, 0, 0, 0)) (c' := (429, lw_L m, [.int 2, .int (Int32.ofNat (5 * m)), .retAddr 0, .int (xs (Int32.ofNat (5 * m) + 1).toNatClampNeg), .ref 1], σ, ce, sl)) (by decide +kernel) ?_ (fun m_ x_ Q_ k_ => ⟨trivial, k_⟩)
  refine w_R.at (row := (.iadd, 1, 0, 0, 0)) (c' := (430, lw_L m, [.int (Int32.ofNat (5 * m) + 2), .retAddr 0, .int (xs (Int32.ofNat (5 * m) + 1).toNatClampNeg), .ref 1], σ, ce, sl)) (by decide +kernel) ?_ (fun m_ x_ Q_ k_ => ⟨trivial, k_⟩)
  refine w_R.at (row := (.iaload, 1, 0, 0, 0)) (c' := (431, lw_L m, [.int (xs (Int32.ofNat (5 * m) + 2).toNatClampNeg), .int (xs (Int32.ofNat (5 * m) + 1).toNatClampNeg), .ref 1], σ, ce, sl)) (by decide +kernel) ?_ (fun m_ x_ Q_ k_ => ⟨⟨rfl, lw_in (k := 2) hm hL (by decide)⟩, k_⟩)
  refine w_R.callV (i := 71) (len := 3) (pl := 23) (na := 2) (ce' := ce) (sl' := sl) (v := some (.int v)) (σ' := σ1) (as := [.ref 1, .int (xs (Int32.ofNat (5 * m) + 1).toNatClampNeg), .int (xs (Int32.ofNat (5 * m) + 2).toNatClampNeg)]) (rest := []) h1 ?_ (by decide +kernel) rfl rfl rfl rfl sh_1 rfl rfl (Nat.ble_eq_true_of_le (show ce ≤ 601024 by omega)) (Nat.ble_eq_true_of_le (show sl ≤ 7293034 by omega))
  show w_R xs Ln 169 (434, lw_L m, [.int v], σ1, ce, sl) Q
  refine w_R.at (row := (.aload_n 2, 1, 0, 0, 0)) (c' := (435, lw_L m, [.ref 199, .int v], σ1, ce, sl)) (by decide +kernel) ?_ (fun m_ x_ Q_ k_ => ⟨trivial, k_⟩)
  refine w_R.at (row := (.aload_n 0, 1, 0, 0, 0)) (c' := (436, lw_L m, [.retAddr 0, .ref 199, .int v], σ1, ce, sl)) (by decide +kernel) ?_ (fun m_ x_ Q_ k_ => ⟨rfl, k_⟩)
  refine w_R.at (row := (.iload 4, 2, 0, 0, 0)) (c' := (438, lw_L m, [.int (Int32.ofNat (5 * m)), .retAddr 0, .ref 199, .int v], σ1, ce, sl)) (by decide +kernel) ?_ (fun m_ x_ Q_ k_ => ⟨trivial, k_⟩)
  refine w_R.at (row := (.iconst 1, 1, 0, 0, 0)) (c' := (439, lw_L m, [.int 1, .int (Int32.ofNat (5 * m)), .retAddr 0, .ref 199, .int v], σ1, ce, sl)) (by decide +kernel) ?_ (fun m_ x_ Q_ k_ => ⟨trivial, k_⟩)
  refine w_R.at (row := (.iadd, 1, 0, 0, 0)) (c' := (440, lw_L m, [.int (Int32.ofNat (5 * m) + 1), .retAddr 0, .ref 199, .int v], σ1, ce, sl)) (by decide +kernel) ?_ (fun m_ x_ Q_ k_ => ⟨trivial, k_⟩)
  refine w_R.at (row := (.iaload, 1, 0, 0, 0)) (c' := (441, lw_L m, [.int (xs (Int32.ofNat (5 * m) + 1).toNatClampNeg), .ref 199, .int v], σ1, ce, sl)) (by decide +kernel) ?_ (fun m_ x_ Q_ k_ => ⟨⟨rfl, lw_in (k := 1) hm hL (by decide)⟩, k_⟩)
  refine w_R.at (row := (.aload_n 0, 1, 0, 0, 0)) (c' := (442, lw_L m, [.retAddr 0, .int (xs (Int32.ofNat (5 * m) + 1).toNatClampNeg), .ref 199, .int v], σ1, ce, sl)) (by decide +kernel) ?_ (fun m_ x_ Q_ k_ => ⟨rfl, k_⟩)
  refine w_R.at (row := (.iload 4, 2, 0, 0, 0)) (c' := (444, lw_L m, [.int (Int32.ofNat (5 * m)), .retAddr 0, .int (xs (Int32.ofNat (5 * m) + 1).toNatClampNeg), .ref 199, .int v], σ1, ce, sl)) (by decide +kernel) ?_ (fun m_ x_ Q_ k_ => ⟨trivial, k_⟩)
  refine w_R.at (row := (.iconst 2, 1, 0, 0, 0)) (c' := (445, lw_L m, [.int 2, .int (Int32.ofNat (5 * m)), .retAddr 0, .int (xs (Int32.ofNat (5 * m) + 1).toNatClampNeg), .ref 199, .int v], σ1, ce, sl)) (by decide +kernel) ?_ (fun m_ x_ Q_ k_ => ⟨trivial, k_⟩)
  refine w_R.at (row := (.iadd, 1, 0, 0, 0)) (c' := (446, lw_L m, [.int (Int32.ofNat (5 * m) + 2), .retAddr 0, .int (xs (Int32.ofNat (5 * m) + 1).toNatClampNeg), .ref 199, .int v], σ1, ce, sl)) (by decide +kernel) ?_ (fun m_ x_ Q_ k_ => ⟨trivial, k_⟩)
  refine w_R.at (row := (.iaload, 1, 0, 0, 0)) (c' := (447, lw_L m, [.int (xs (Int32.ofNat (5 * m) + 2).toNatClampNeg), .int (xs (Int32.ofNat (5 * m) + 1).toNatClampNeg), .ref 199, .int v], σ1, ce, sl)) (by decide +kernel) ?_ (fun m_ x_ Q_ k_ => ⟨⟨rfl, lw_in (k := 2) hm hL (by decide)⟩, k_⟩)
  refine w_R.callV (i := 74) (len := 3) (pl := 24) (na := 2) (ce' := ce) (sl' := sl) (v := some (.int v)) (σ' := σ2) (as := [.ref 199, .int (xs (Int32.ofNat (5 * m) + 1).toNatClampNeg), .int (xs (Int32.ofNat (5 * m) + 2).toNatClampNeg)]) (rest := [.int v]) h2 ?_ (by decide +kernel) rfl rfl rfl rfl sh_199 rfl rfl (Nat.ble_eq_true_of_le (show ce ≤ 601024 by omega)) (Nat.ble_eq_true_of_le (show sl ≤ 7293034 by omega))
  show w_R xs Ln 169 (450, lw_L m, [.int v, .int v], σ2, ce, sl) Q
  refine w_R.at (row := (.if_icmp .eq 893, 3, 0, 0, 0)) (c' := (i_br .eq v v 1343 453, lw_L m, [], σ2, ce, sl)) (by decide +kernel) ?_ (fun m_ x_ Q_ k_ => ⟨trivial, k_⟩)
  exact w_R.br_eq (fun _ => hk σ2 ce sl h3 (by omega) (by omega)) (fun hne => absurd rfl hne)
set_option maxRecDepth 20000 in
theorem k_case9 (h : ∀ a0 a1, lw_ok xs Ln Rel 10 141 [.int a0, .int a1]) : lw_case xs Ln Rel 558 := by
  intro m σ ce sl Q hR hm hL hce hsl hk
  obtain ⟨v, σ1, σ2, h1, h2, h3⟩ := h (xs (Int32.ofNat (5 * m) + 1).toNatClampNeg) (xs (Int32.ofNat (5 * m) + 2).toNatClampNeg) m σ hR (by omega)
  refine w_R.at (row := (.aload_n 1, 1, 0, 0, 0)) (c' := (559, lw_L m, [.ref 1], σ, ce, sl)) (by decide +kernel) ?_ (fun m_ x_ Q_ k_ => ⟨trivial, k_⟩)
  refine w_R.at (row := (.aload_n 0, 1, 0, 0, 0)) (c' := (560, lw_L m, [.retAddr 0, .ref 1], σ, ce, sl)) (by decide +kernel) ?_ (fun m_ x_ Q_ k_ => ⟨rfl, k_⟩)
  refine w_R.at (row := (.iload 4, 2, 0, 0, 0)) (c' := (562, lw_L m, [.int (Int32.ofNat (5 * m)), .retAddr 0, .ref 1], σ, ce, sl)) (by decide +kernel) ?_ (fun m_ x_ Q_ k_ => ⟨trivial, k_⟩)
  refine w_R.at (row := (.iconst 1, 1, 0, 0, 0)) (c' := (563, lw_L m, [.int 1, .int (Int32.ofNat (5 * m)), .retAddr 0, .ref 1], σ, ce, sl)) (by decide +kernel) ?_ (fun m_ x_ Q_ k_ => ⟨trivial, k_⟩)
  refine w_R.at (row := (.iadd, 1, 0, 0, 0)) (c' := (564, lw_L m, [.int (Int32.ofNat (5 * m) + 1), .retAddr 0, .ref 1], σ, ce, sl)) (by decide +kernel) ?_ (fun m_ x_ Q_ k_ => ⟨trivial, k_⟩)
  refine w_R.at (row := (.iaload, 1, 0, 0, 0)) (c' := (565, lw_L m, [.int (xs (Int32.ofNat (5 * m) + 1).toNatClampNeg), .ref 1], σ, ce, sl)) (by decide +kernel) ?_ (fun m_ x_ Q_ k_ => ⟨⟨rfl, lw_in (k := 1) hm hL (by decide)⟩, k_⟩)
  refine w_R.at (row := (.aload_n 0, 1, 0, 0, 0)) (c' := (566, lw_L m, [.retAddr 0, .int (xs (Int32.ofNat (5 * m) + 1).toNatClampNeg), .ref 1], σ, ce, sl)) (by decide +kernel) ?_ (fun m_ x_ Q_ k_ => ⟨rfl, k_⟩)
  refine w_R.at (row := (.iload 4, 2, 0, 0, 0)) (c' := (568, lw_L m, [.int (Int32.ofNat (5 * m)), .retAddr 0, .int (xs (Int32.ofNat (5 * m) + 1).toNatClampNeg), .ref 1], σ, ce, sl)) (by decide +kernel) ?_ (fun m_ x_ Q_ k_ => ⟨trivial, k_⟩)
  refine w_R.at (row := (.iconst 2, 1, 0, 0, 0)) (c' := (569, lw_L m, [.int 2, .int (Int32.ofNat (5 * m)), .retAddr 0, .int (xs (Int32.ofNat (5 * m) + 1).toNatClampNeg), .ref 1], σ, ce, sl)) (by decide +kernel) ?_ (fun m_ x_ Q_ k_ => ⟨trivial, k_⟩)
  refine w_R.at (row := (.iadd, 1, 0, 0, 0)) (c' := (570, lw_L m, [.int (Int32.ofNat (5 * m) + 2), .retAddr 0, .int (xs (Int32.ofNat (5 * m) + 1).toNatClampNeg), .ref 1], σ, ce, sl)) (by decide +kernel) ?_ (fun m_ x_ Q_ k_ => ⟨trivial, k_⟩)
  refine w_R.at (row := (.iaload, 1, 0, 0, 0)) (c' := (571, lw_L m, [.int (xs (Int32.ofNat (5 * m) + 2).toNatClampNeg), .int (xs (Int32.ofNat (5 * m) + 1).toNatClampNeg), .ref 1], σ, ce, sl)) (by decide +kernel) ?_ (fun m_ x_ Q_ k_ => ⟨⟨rfl, lw_in (k := 2) hm hL (by decide)⟩, k_⟩)
  refine w_R.callV (i := 89) (len := 3) (pl := 30) (na := 2) (ce' := ce) (sl' := sl) (v := some (.int v)) (σ' := σ1) (as := [.ref 1, .int (xs (Int32.ofNat (5 * m) + 1).toNatClampNeg), .int (xs (Int32.ofNat (5 * m) + 2).toNatClampNeg)]) (rest := []) h1 ?_ (by decide +kernel) rfl rfl rfl rfl sh_1 rfl rfl (Nat.ble_eq_true_of_le (show ce ≤ 601024 by omega)) (Nat.ble_eq_true_of_le (show sl ≤ 7293034 by omega))
  show w_R xs Ln 169 (574, lw_L m, [.int v], σ1, ce, sl) Q
  refine w_R.at (row := (.aload_n 2, 1, 0, 0, 0)) (c' := (575, lw_L m, [.ref 199, .int v], σ1, ce, sl)) (by decide +kernel) ?_ (fun m_ x_ Q_ k_ => ⟨trivial, k_⟩)
  refine w_R.at (row := (.aload_n 0, 1, 0, 0, 0)) (c' := (576, lw_L m, [.retAddr 0, .ref 199, .int v], σ1, ce, sl)) (by decide +kernel) ?_ (fun m_ x_ Q_ k_ => ⟨rfl, k_⟩)
  refine w_R.at (row := (.iload 4, 2, 0, 0, 0)) (c' := (578, lw_L m, [.int (Int32.ofNat (5 * m)), .retAddr 0, .ref 199, .int v], σ1, ce, sl)) (by decide +kernel) ?_ (fun m_ x_ Q_ k_ => ⟨trivial, k_⟩)
  refine w_R.at (row := (.iconst 1, 1, 0, 0, 0)) (c' := (579, lw_L m, [.int 1, .int (Int32.ofNat (5 * m)), .retAddr 0, .ref 199, .int v], σ1, ce, sl)) (by decide +kernel) ?_ (fun m_ x_ Q_ k_ => ⟨trivial, k_⟩)
  refine w_R.at (row := (.iadd, 1, 0, 0, 0)) (c' := (580, lw_L m, [.int (Int32.ofNat (5 * m) + 1), .retAddr 0, .ref 199, .int v], σ1, ce, sl)) (by decide +kernel) ?_ (fun m_ x_ Q_ k_ => ⟨trivial, k_⟩)
  refine w_R.at (row := (.iaload, 1, 0, 0, 0)) (c' := (581, lw_L m, [.int (xs (Int32.ofNat (5 * m) + 1).toNatClampNeg), .ref 199, .int v], σ1, ce, sl)) (by decide +kernel) ?_ (fun m_ x_ Q_ k_ => ⟨⟨rfl, lw_in (k := 1) hm hL (by decide)⟩, k_⟩)
  refine w_R.at (row := (.aload_n 0, 1, 0, 0, 0)) (c' := (582, lw_L m, [.retAddr 0, .int (xs (Int32.ofNat (5 * m) + 1).toNatClampNeg), .ref 199, .int v], σ1, ce, sl)) (by decide +kernel) ?_ (fun m_ x_ Q_ k_ => ⟨rfl, k_⟩)
  refine w_R.at (row := (.iload 4, 2, 0, 0, 0)) (c' := (584, lw_L m, [.int (Int32.ofNat (5 * m)), .retAddr 0, .int (xs (Int32.ofNat (5 * m) + 1).toNatClampNeg), .ref 199, .int v], σ1, ce, sl)) (by decide +kernel) ?_ (fun m_ x_ Q_ k_ => ⟨trivial, k_⟩)
  refine w_R.at (row := (.iconst 2, 1, 0, 0, 0)) (c' := (585, lw_L m, [.int 2, .int (Int32.ofNat (5 * m)), .retAddr 0, .int (xs (Int32.ofNat (5 * m) + 1).toNatClampNeg), .ref 199, .int v], σ1, ce, sl)) (by decide +kernel) ?_ (fun m_ x_ Q_ k_ => ⟨trivial, k_⟩)
  refine w_R.at (row := (.iadd, 1, 0, 0, 0)) (c' := (586, lw_L m, [.int (Int32.ofNat (5 * m) + 2), .retAddr 0, .int (xs (Int32.ofNat (5 * m) + 1).toNatClampNeg), .ref 199, .int v], σ1, ce, sl)) (by decide +kernel) ?_ (fun m_ x_ Q_ k_ => ⟨trivial, k_⟩)
  refine w_R.at (row := (.iaload, 1, 0, 0, 0)) (c' := (587, lw_L m, [.int (xs (Int32.ofNat (5 * m) + 2).toNatClampNeg), .int (xs (Int32.ofNat (5 * m) + 1).toNatClampNeg), .ref 199, .int v], σ1, ce, sl)) (by decide +kernel) ?_ (fun m_ x_ Q_ k_ => ⟨⟨rfl, lw_in (k := 2) hm hL (by decide)⟩, k_⟩)
  refine w_R.callV (i := 92) (len := 3) (pl := 31) (na := 2) (ce' := ce) (sl' := sl) (v := some (.int v)) (σ' := σ2) (as := [.ref 199, .int (xs (Int32.ofNat (5 * m) + 1).toNatClampNeg), .int (xs (Int32.ofNat (5 * m) + 2).toNatClampNeg)]) (rest := [.int v]) h2 ?_ (by decide +kernel) rfl rfl rfl rfl sh_199 rfl rfl (Nat.ble_eq_true_of_le (show ce ≤ 601024 by omega)) (Nat.ble_eq_true_of_le (show sl ≤ 7293034 by omega))
  show w_R xs Ln 169 (590, lw_L m, [.int v, .int v], σ2, ce, sl) Q
  refine w_R.at (row := (.if_icmp .eq 753, 3, 0, 0, 0)) (c' := (i_br .eq v v 1343 593, lw_L m, [], σ2, ce, sl)) (by decide +kernel) ?_ (fun m_ x_ Q_ k_ => ⟨trivial, k_⟩)
  exact w_R.br_eq (fun _ => hk σ2 ce sl h3 (by omega) (by omega)) (fun hne => absurd rfl hne)
set_option maxRecDepth 20000 in
theorem k_case15 (h : ∀ (_ : Unit), lw_ok xs Ln Rel 16 133 []) : lw_case xs Ln Rel 935 := by
  intro m σ ce sl Q hR hm hL hce hsl hk
  obtain ⟨v, σ1, σ2, h1, h2, h3⟩ := h () m σ hR (by omega)
  refine w_R.at (row := (.aload_n 1, 1, 0, 0, 0)) (c' := (936, lw_L m, [.ref 1], σ, ce, sl)) (by decide +kernel) ?_ (fun m_ x_ Q_ k_ => ⟨trivial, k_⟩)
  refine w_R.callV (i := 111) (len := 3) (pl := 42) (na := 0) (ce' := ce) (sl' := sl) (v := some (.int v)) (σ' := σ1) (as := [.ref 1]) (rest := []) h1 ?_ (by decide +kernel) rfl rfl rfl rfl sh_1 rfl rfl (Nat.ble_eq_true_of_le (show ce ≤ 601024 by omega)) (Nat.ble_eq_true_of_le (show sl ≤ 7293034 by omega))
  show w_R xs Ln 169 (939, lw_L m, [.int v], σ1, ce, sl) Q
  refine w_R.at (row := (.aload_n 2, 1, 0, 0, 0)) (c' := (940, lw_L m, [.ref 199, .int v], σ1, ce, sl)) (by decide +kernel) ?_ (fun m_ x_ Q_ k_ => ⟨trivial, k_⟩)
  refine w_R.callV (i := 114) (len := 3) (pl := 43) (na := 0) (ce' := ce) (sl' := sl) (v := some (.int v)) (σ' := σ2) (as := [.ref 199]) (rest := [.int v]) h2 ?_ (by decide +kernel) rfl rfl rfl rfl sh_199 rfl rfl (Nat.ble_eq_true_of_le (show ce ≤ 601024 by omega)) (Nat.ble_eq_true_of_le (show sl ≤ 7293034 by omega))
  show w_R xs Ln 169 (943, lw_L m, [.int v, .int v], σ2, ce, sl) Q
  refine w_R.at (row := (.if_icmp .eq 400, 3, 0, 0, 0)) (c' := (i_br .eq v v 1343 946, lw_L m, [], σ2, ce, sl)) (by decide +kernel) ?_ (fun m_ x_ Q_ k_ => ⟨trivial, k_⟩)
  exact w_R.br_eq (fun _ => hk σ2 ce sl h3 (by omega) (by omega)) (fun hne => absurd rfl hne)
set_option maxRecDepth 20000 in
theorem k_case16 (h : ∀ a0 a1, lw_ok xs Ln Rel 17 134 [.int a0, .int a1]) : lw_case xs Ln Rel 948 := by
  intro m σ ce sl Q hR hm hL hce hsl hk
  obtain ⟨v, σ1, σ2, h1, h2, h3⟩ := h (xs (Int32.ofNat (5 * m) + 1).toNatClampNeg) (xs (Int32.ofNat (5 * m) + 2).toNatClampNeg) m σ hR (by omega)
  refine w_R.at (row := (.aload_n 1, 1, 0, 0, 0)) (c' := (949, lw_L m, [.ref 1], σ, ce, sl)) (by decide +kernel) ?_ (fun m_ x_ Q_ k_ => ⟨trivial, k_⟩)
  refine w_R.at (row := (.aload_n 0, 1, 0, 0, 0)) (c' := (950, lw_L m, [.retAddr 0, .ref 1], σ, ce, sl)) (by decide +kernel) ?_ (fun m_ x_ Q_ k_ => ⟨rfl, k_⟩)
  refine w_R.at (row := (.iload 4, 2, 0, 0, 0)) (c' := (952, lw_L m, [.int (Int32.ofNat (5 * m)), .retAddr 0, .ref 1], σ, ce, sl)) (by decide +kernel) ?_ (fun m_ x_ Q_ k_ => ⟨trivial, k_⟩)
  refine w_R.at (row := (.iconst 1, 1, 0, 0, 0)) (c' := (953, lw_L m, [.int 1, .int (Int32.ofNat (5 * m)), .retAddr 0, .ref 1], σ, ce, sl)) (by decide +kernel) ?_ (fun m_ x_ Q_ k_ => ⟨trivial, k_⟩)
  refine w_R.at (row := (.iadd, 1, 0, 0, 0)) (c' := (954, lw_L m, [.int (Int32.ofNat (5 * m) + 1), .retAddr 0, .ref 1], σ, ce, sl)) (by decide +kernel) ?_ (fun m_ x_ Q_ k_ => ⟨trivial, k_⟩)
  refine w_R.at (row := (.iaload, 1, 0, 0, 0)) (c' := (955, lw_L m, [.int (xs (Int32.ofNat (5 * m) + 1).toNatClampNeg), .ref 1], σ, ce, sl)) (by decide +kernel) ?_ (fun m_ x_ Q_ k_ => ⟨⟨rfl, lw_in (k := 1) hm hL (by decide)⟩, k_⟩)
  refine w_R.at (row := (.aload_n 0, 1, 0, 0, 0)) (c' := (956, lw_L m, [.retAddr 0, .int (xs (Int32.ofNat (5 * m) + 1).toNatClampNeg), .ref 1], σ, ce, sl)) (by decide +kernel) ?_ (fun m_ x_ Q_ k_ => ⟨rfl, k_⟩)
  refine w_R.at (row := (.iload 4, 2, 0, 0, 0)) (c' := (958, lw_L m, [.int (Int32.ofNat (5 * m)), .retAddr 0, .int (xs (Int32.ofNat (5 * m) + 1).toNatClampNeg), .ref 1], σ, ce, sl)) (by decide +kernel) ?_ (fun m_ x_ Q_ k_ => ⟨trivial, k_⟩)
  refine w_R.at (row := (.iconst 2, 1, 0, 0, 0)) (c' := (959, lw_L m, [.int 2, .int (Int32.ofNat (5 * m)), .retAddr 0, .int (xs (Int32.ofNat (5 * m) + 1).toNatClampNeg), .ref 1], σ, ce, sl)) (by decide +kernel) ?_ (fun m_ x_ Q_ k_ => ⟨trivial, k_⟩)
  refine w_R.at (row := (.iadd, 1, 0, 0, 0)) (c' := (960, lw_L m, [.int (Int32.ofNat (5 * m) + 2), .retAddr 0, .int (xs (Int32.ofNat (5 * m) + 1).toNatClampNeg), .ref 1], σ, ce, sl)) (by decide +kernel) ?_ (fun m_ x_ Q_ k_ => ⟨trivial, k_⟩)
  refine w_R.at (row := (.iaload, 1, 0, 0, 0)) (c' := (961, lw_L m, [.int (xs (Int32.ofNat (5 * m) + 2).toNatClampNeg), .int (xs (Int32.ofNat (5 * m) + 1).toNatClampNeg), .ref 1], σ, ce, sl)) (by decide +kernel) ?_ (fun m_ x_ Q_ k_ => ⟨⟨rfl, lw_in (k := 2) hm hL (by decide)⟩, k_⟩)
  refine w_R.callV (i := 115) (len := 3) (pl := 44) (na := 2) (ce' := ce) (sl' := sl) (v := some (.int v)) (σ' := σ1) (as := [.ref 1, .int (xs (Int32.ofNat (5 * m) + 1).toNatClampNeg), .int (xs (Int32.ofNat (5 * m) + 2).toNatClampNeg)]) (rest := []) h1 ?_ (by decide +kernel) rfl rfl rfl rfl sh_1 rfl rfl (Nat.ble_eq_true_of_le (show ce ≤ 601024 by omega)) (Nat.ble_eq_true_of_le (show sl ≤ 7293034 by omega))
  show w_R xs Ln 169 (964, lw_L m, [.int v], σ1, ce, sl) Q
  refine w_R.at (row := (.aload_n 2, 1, 0, 0, 0)) (c' := (965, lw_L m, [.ref 199, .int v], σ1, ce, sl)) (by decide +kernel) ?_ (fun m_ x_ Q_ k_ => ⟨trivial, k_⟩)
  refine w_R.at (row := (.aload_n 0, 1, 0, 0, 0)) (c' := (966, lw_L m, [.retAddr 0, .ref 199, .int v], σ1, ce, sl)) (by decide +kernel) ?_ (fun m_ x_ Q_ k_ => ⟨rfl, k_⟩)
  refine w_R.at (row := (.iload 4, 2, 0, 0, 0)) (c' := (968, lw_L m, [.int (Int32.ofNat (5 * m)), .retAddr 0, .ref 199, .int v], σ1, ce, sl)) (by decide +kernel) ?_ (fun m_ x_ Q_ k_ => ⟨trivial, k_⟩)
  refine w_R.at (row := (.iconst 1, 1, 0, 0, 0)) (c' := (969, lw_L m, [.int 1, .int (Int32.ofNat (5 * m)), .retAddr 0, .ref 199, .int v], σ1, ce, sl)) (by decide +kernel) ?_ (fun m_ x_ Q_ k_ => ⟨trivial, k_⟩)
  refine w_R.at (row := (.iadd, 1, 0, 0, 0)) (c' := (970, lw_L m, [.int (Int32.ofNat (5 * m) + 1), .retAddr 0, .ref 199, .int v], σ1, ce, sl)) (by decide +kernel) ?_ (fun m_ x_ Q_ k_ => ⟨trivial, k_⟩)
  refine w_R.at (row := (.iaload, 1, 0, 0, 0)) (c' := (971, lw_L m, [.int (xs (Int32.ofNat (5 * m) + 1).toNatClampNeg), .ref 199, .int v], σ1, ce, sl)) (by decide +kernel) ?_ (fun m_ x_ Q_ k_ => ⟨⟨rfl, lw_in (k := 1) hm hL (by decide)⟩, k_⟩)
  refine w_R.at (row := (.aload_n 0, 1, 0, 0, 0)) (c' := (972, lw_L m, [.retAddr 0, .int (xs (Int32.ofNat (5 * m) + 1).toNatClampNeg), .ref 199, .int v], σ1, ce, sl)) (by decide +kernel) ?_ (fun m_ x_ Q_ k_ => ⟨rfl, k_⟩)
  refine w_R.at (row := (.iload 4, 2, 0, 0, 0)) (c' := (974, lw_L m, [.int (Int32.ofNat (5 * m)), .retAddr 0, .int (xs (Int32.ofNat (5 * m) + 1).toNatClampNeg), .ref 199, .int v], σ1, ce, sl)) (by decide +kernel) ?_ (fun m_ x_ Q_ k_ => ⟨trivial, k_⟩)
  refine w_R.at (row := (.iconst 2, 1, 0, 0, 0)) (c' := (975, lw_L m, [.int 2, .int (Int32.ofNat (5 * m)), .retAddr 0, .int (xs (Int32.ofNat (5 * m) + 1).toNatClampNeg), .ref 199, .int v], σ1, ce, sl)) (by decide +kernel) ?_ (fun m_ x_ Q_ k_ => ⟨trivial, k_⟩)
  refine w_R.at (row := (.iadd, 1, 0, 0, 0)) (c' := (976, lw_L m, [.int (Int32.ofNat (5 * m) + 2), .retAddr 0, .int (xs (Int32.ofNat (5 * m) + 1).toNatClampNeg), .ref 199, .int v], σ1, ce, sl)) (by decide +kernel) ?_ (fun m_ x_ Q_ k_ => ⟨trivial, k_⟩)
  refine w_R.at (row := (.iaload, 1, 0, 0, 0)) (c' := (977, lw_L m, [.int (xs (Int32.ofNat (5 * m) + 2).toNatClampNeg), .int (xs (Int32.ofNat (5 * m) + 1).toNatClampNeg), .ref 199, .int v], σ1, ce, sl)) (by decide +kernel) ?_ (fun m_ x_ Q_ k_ => ⟨⟨rfl, lw_in (k := 2) hm hL (by decide)⟩, k_⟩)
  refine w_R.callV (i := 118) (len := 3) (pl := 45) (na := 2) (ce' := ce) (sl' := sl) (v := some (.int v)) (σ' := σ2) (as := [.ref 199, .int (xs (Int32.ofNat (5 * m) + 1).toNatClampNeg), .int (xs (Int32.ofNat (5 * m) + 2).toNatClampNeg)]) (rest := [.int v]) h2 ?_ (by decide +kernel) rfl rfl rfl rfl sh_199 rfl rfl (Nat.ble_eq_true_of_le (show ce ≤ 601024 by omega)) (Nat.ble_eq_true_of_le (show sl ≤ 7293034 by omega))
  show w_R xs Ln 169 (980, lw_L m, [.int v, .int v], σ2, ce, sl) Q
  refine w_R.at (row := (.if_icmp .eq 363, 3, 0, 0, 0)) (c' := (i_br .eq v v 1343 983, lw_L m, [], σ2, ce, sl)) (by decide +kernel) ?_ (fun m_ x_ Q_ k_ => ⟨trivial, k_⟩)
  exact w_R.br_eq (fun _ => hk σ2 ce sl h3 (by omega) (by omega)) (fun hne => absurd rfl hne)
set_option maxRecDepth 20000 in
theorem k_case17 (h : ∀ a0, lw_ok xs Ln Rel 18 130 [.int a0]) : lw_case xs Ln Rel 985 := by
  intro m σ ce sl Q hR hm hL hce hsl hk
  obtain ⟨v, σ1, σ2, h1, h2, h3⟩ := h (xs (Int32.ofNat (5 * m) + 1).toNatClampNeg) m σ hR (by omega)
  refine w_R.at (row := (.aload_n 1, 1, 0, 0, 0)) (c' := (986, lw_L m, [.ref 1], σ, ce, sl)) (by decide +kernel) ?_ (fun m_ x_ Q_ k_ => ⟨trivial, k_⟩)
  refine w_R.at (row := (.aload_n 0, 1, 0, 0, 0)) (c' := (987, lw_L m, [.retAddr 0, .ref 1], σ, ce, sl)) (by decide +kernel) ?_ (fun m_ x_ Q_ k_ => ⟨rfl, k_⟩)
  refine w_R.at (row := (.iload 4, 2, 0, 0, 0)) (c' := (989, lw_L m, [.int (Int32.ofNat (5 * m)), .retAddr 0, .ref 1], σ, ce, sl)) (by decide +kernel) ?_ (fun m_ x_ Q_ k_ => ⟨trivial, k_⟩)
  refine w_R.at (row := (.iconst 1, 1, 0, 0, 0)) (c' := (990, lw_L m, [.int 1, .int (Int32.ofNat (5 * m)), .retAddr 0, .ref 1], σ, ce, sl)) (by decide +kernel) ?_ (fun m_ x_ Q_ k_ => ⟨trivial, k_⟩)
  refine w_R.at (row := (.iadd, 1, 0, 0, 0)) (c' := (991, lw_L m, [.int (Int32.ofNat (5 * m) + 1), .retAddr 0, .ref 1], σ, ce, sl)) (by decide +kernel) ?_ (fun m_ x_ Q_ k_ => ⟨trivial, k_⟩)
  refine w_R.at (row := (.iaload, 1, 0, 0, 0)) (c' := (992, lw_L m, [.int (xs (Int32.ofNat (5 * m) + 1).toNatClampNeg), .ref 1], σ, ce, sl)) (by decide +kernel) ?_ (fun m_ x_ Q_ k_ => ⟨⟨rfl, lw_in (k := 1) hm hL (by decide)⟩, k_⟩)
  refine w_R.callV (i := 119) (len := 3) (pl := 46) (na := 1) (ce' := ce) (sl' := sl) (v := some (.int v)) (σ' := σ1) (as := [.ref 1, .int (xs (Int32.ofNat (5 * m) + 1).toNatClampNeg)]) (rest := []) h1 ?_ (by decide +kernel) rfl rfl rfl rfl sh_1 rfl rfl (Nat.ble_eq_true_of_le (show ce ≤ 601024 by omega)) (Nat.ble_eq_true_of_le (show sl ≤ 7293034 by omega))
  show w_R xs Ln 169 (995, lw_L m, [.int v], σ1, ce, sl) Q
  refine w_R.at (row := (.aload_n 2, 1, 0, 0, 0)) (c' := (996, lw_L m, [.ref 199, .int v], σ1, ce, sl)) (by decide +kernel) ?_ (fun m_ x_ Q_ k_ => ⟨trivial, k_⟩)
  refine w_R.at (row := (.aload_n 0, 1, 0, 0, 0)) (c' := (997, lw_L m, [.retAddr 0, .ref 199, .int v], σ1, ce, sl)) (by decide +kernel) ?_ (fun m_ x_ Q_ k_ => ⟨rfl, k_⟩)
  refine w_R.at (row := (.iload 4, 2, 0, 0, 0)) (c' := (999, lw_L m, [.int (Int32.ofNat (5 * m)), .retAddr 0, .ref 199, .int v], σ1, ce, sl)) (by decide +kernel) ?_ (fun m_ x_ Q_ k_ => ⟨trivial, k_⟩)
  refine w_R.at (row := (.iconst 1, 1, 0, 0, 0)) (c' := (1000, lw_L m, [.int 1, .int (Int32.ofNat (5 * m)), .retAddr 0, .ref 199, .int v], σ1, ce, sl)) (by decide +kernel) ?_ (fun m_ x_ Q_ k_ => ⟨trivial, k_⟩)
  refine w_R.at (row := (.iadd, 1, 0, 0, 0)) (c' := (1001, lw_L m, [.int (Int32.ofNat (5 * m) + 1), .retAddr 0, .ref 199, .int v], σ1, ce, sl)) (by decide +kernel) ?_ (fun m_ x_ Q_ k_ => ⟨trivial, k_⟩)
  refine w_R.at (row := (.iaload, 1, 0, 0, 0)) (c' := (1002, lw_L m, [.int (xs (Int32.ofNat (5 * m) + 1).toNatClampNeg), .ref 199, .int v], σ1, ce, sl)) (by decide +kernel) ?_ (fun m_ x_ Q_ k_ => ⟨⟨rfl, lw_in (k := 1) hm hL (by decide)⟩, k_⟩)
  refine w_R.callV (i := 123) (len := 3) (pl := 47) (na := 1) (ce' := ce) (sl' := sl) (v := some (.int v)) (σ' := σ2) (as := [.ref 199, .int (xs (Int32.ofNat (5 * m) + 1).toNatClampNeg)]) (rest := [.int v]) h2 ?_ (by decide +kernel) rfl rfl rfl rfl sh_199 rfl rfl (Nat.ble_eq_true_of_le (show ce ≤ 601024 by omega)) (Nat.ble_eq_true_of_le (show sl ≤ 7293034 by omega))
  show w_R xs Ln 169 (1005, lw_L m, [.int v, .int v], σ2, ce, sl) Q
  refine w_R.at (row := (.if_icmp .eq 338, 3, 0, 0, 0)) (c' := (i_br .eq v v 1343 1008, lw_L m, [], σ2, ce, sl)) (by decide +kernel) ?_ (fun m_ x_ Q_ k_ => ⟨trivial, k_⟩)
  exact w_R.br_eq (fun _ => hk σ2 ce sl h3 (by omega) (by omega)) (fun hne => absurd rfl hne)
set_option maxRecDepth 20000 in
theorem k_case18 (h : ∀ a0, lw_ok xs Ln Rel 19 131 [.int a0]) : lw_case xs Ln Rel 1010 := by
  intro m σ ce sl Q hR hm hL hce hsl hk
  obtain ⟨v, σ1, σ2, h1, h2, h3⟩ := h (xs (Int32.ofNat (5 * m) + 1).toNatClampNeg) m σ hR (by omega)
  refine w_R.at (row := (.aload_n 1, 1, 0, 0, 0)) (c' := (1011, lw_L m, [.ref 1], σ, ce, sl)) (by decide +kernel) ?_ (fun m_ x_ Q_ k_ => ⟨trivial, k_⟩)
  refine w_R.at (row := (.aload_n 0, 1, 0, 0, 0)) (c' := (1012, lw_L m, [.retAddr 0, .ref 1], σ, ce, sl)) (by decide +kernel) ?_ (fun m_ x_ Q_ k_ => ⟨rfl, k_⟩)
  refine w_R.at (row := (.iload 4, 2, 0, 0, 0)) (c' := (1014, lw_L m, [.int (Int32.ofNat (5 * m)), .retAddr 0, .ref 1], σ, ce, sl)) (by decide +kernel) ?_ (fun m_ x_ Q_ k_ => ⟨trivial, k_⟩)
  refine w_R.at (row := (.iconst 1, 1, 0, 0, 0)) (c' := (1015, lw_L m, [.int 1, .int (Int32.ofNat (5 * m)), .retAddr 0, .ref 1], σ, ce, sl)) (by decide +kernel) ?_ (fun m_ x_ Q_ k_ => ⟨trivial, k_⟩)
  refine w_R.at (row := (.iadd, 1, 0, 0, 0)) (c' := (1016, lw_L m, [.int (Int32.ofNat (5 * m) + 1), .retAddr 0, .ref 1], σ, ce, sl)) (by decide +kernel) ?_ (fun m_ x_ Q_ k_ => ⟨trivial, k_⟩)
  refine w_R.at (row := (.iaload, 1, 0, 0, 0)) (c' := (1017, lw_L m, [.int (xs (Int32.ofNat (5 * m) + 1).toNatClampNeg), .ref 1], σ, ce, sl)) (by decide +kernel) ?_ (fun m_ x_ Q_ k_ => ⟨⟨rfl, lw_in (k := 1) hm hL (by decide)⟩, k_⟩)
  refine w_R.callV (i := 124) (len := 3) (pl := 48) (na := 1) (ce' := ce) (sl' := sl) (v := some (.int v)) (σ' := σ1) (as := [.ref 1, .int (xs (Int32.ofNat (5 * m) + 1).toNatClampNeg)]) (rest := []) h1 ?_ (by decide +kernel) rfl rfl rfl rfl sh_1 rfl rfl (Nat.ble_eq_true_of_le (show ce ≤ 601024 by omega)) (Nat.ble_eq_true_of_le (show sl ≤ 7293034 by omega))
  show w_R xs Ln 169 (1020, lw_L m, [.int v], σ1, ce, sl) Q
  refine w_R.at (row := (.aload_n 2, 1, 0, 0, 0)) (c' := (1021, lw_L m, [.ref 199, .int v], σ1, ce, sl)) (by decide +kernel) ?_ (fun m_ x_ Q_ k_ => ⟨trivial, k_⟩)
  refine w_R.at (row := (.aload_n 0, 1, 0, 0, 0)) (c' := (1022, lw_L m, [.retAddr 0, .ref 199, .int v], σ1, ce, sl)) (by decide +kernel) ?_ (fun m_ x_ Q_ k_ => ⟨rfl, k_⟩)
  refine w_R.at (row := (.iload 4, 2, 0, 0, 0)) (c' := (1024, lw_L m, [.int (Int32.ofNat (5 * m)), .retAddr 0, .ref 199, .int v], σ1, ce, sl)) (by decide +kernel) ?_ (fun m_ x_ Q_ k_ => ⟨trivial, k_⟩)
  refine w_R.at (row := (.iconst 1, 1, 0, 0, 0)) (c' := (1025, lw_L m, [.int 1, .int (Int32.ofNat (5 * m)), .retAddr 0, .ref 199, .int v], σ1, ce, sl)) (by decide +kernel) ?_ (fun m_ x_ Q_ k_ => ⟨trivial, k_⟩)
  refine w_R.at (row := (.iadd, 1, 0, 0, 0)) (c' := (1026, lw_L m, [.int (Int32.ofNat (5 * m) + 1), .retAddr 0, .ref 199, .int v], σ1, ce, sl)) (by decide +kernel) ?_ (fun m_ x_ Q_ k_ => ⟨trivial, k_⟩)
  refine w_R.at (row := (.iaload, 1, 0, 0, 0)) (c' := (1027, lw_L m, [.int (xs (Int32.ofNat (5 * m) + 1).toNatClampNeg), .ref 199, .int v], σ1, ce, sl)) (by decide +kernel) ?_ (fun m_ x_ Q_ k_ => ⟨⟨rfl, lw_in (k := 1) hm hL (by decide)⟩, k_⟩)
  refine w_R.callV (i := 127) (len := 3) (pl := 49) (na := 1) (ce' := ce) (sl' := sl) (v := some (.int v)) (σ' := σ2) (as := [.ref 199, .int (xs (Int32.ofNat (5 * m) + 1).toNatClampNeg)]) (rest := [.int v]) h2 ?_ (by decide +kernel) rfl rfl rfl rfl sh_199 rfl rfl (Nat.ble_eq_true_of_le (show ce ≤ 601024 by omega)) (Nat.ble_eq_true_of_le (show sl ≤ 7293034 by omega))
  show w_R xs Ln 169 (1030, lw_L m, [.int v, .int v], σ2, ce, sl) Q
  refine w_R.at (row := (.if_icmp .eq 313, 3, 0, 0, 0)) (c' := (i_br .eq v v 1343 1033, lw_L m, [], σ2, ce, sl)) (by decide +kernel) ?_ (fun m_ x_ Q_ k_ => ⟨trivial, k_⟩)
  exact w_R.br_eq (fun _ => hk σ2 ce sl h3 (by omega) (by omega)) (fun hne => absurd rfl hne)
set_option maxRecDepth 20000 in
theorem k_case19 (h : ∀ a0, lw_ok xs Ln Rel 20 132 [.int a0]) : lw_case xs Ln Rel 1035 := by
  intro m σ ce sl Q hR hm hL hce hsl hk
  obtain ⟨v, σ1, σ2, h1, h2, h3⟩ := h (xs (Int32.ofNat (5 * m) + 1).toNatClampNeg) m σ hR (by omega)
  refine w_R.at (row := (.aload_n 1, 1, 0, 0, 0)) (c' := (1036, lw_L m, [.ref 1], σ, ce, sl)) (by decide +kernel) ?_ (fun m_ x_ Q_ k_ => ⟨trivial, k_⟩)
  refine w_R.at (row := (.aload_n 0, 1, 0, 0, 0)) (c' := (1037, lw_L m, [.retAddr 0, .ref 1], σ, ce, sl)) (by decide +kernel) ?_ (fun m_ x_ Q_ k_ => ⟨rfl, k_⟩)
  refine w_R.at (row := (.iload 4, 2, 0, 0, 0)) (c' := (1039, lw_L m, [.int (Int32.ofNat (5 * m)), .retAddr 0, .ref 1], σ, ce, sl)) (by decide +kernel) ?_ (fun m_ x_ Q_ k_ => ⟨trivial, k_⟩)
  refine w_R.at (row := (.iconst 1, 1, 0, 0, 0)) (c' := (1040, lw_L m, [.int 1, .int (Int32.ofNat (5 * m)), .retAddr 0, .ref 1], σ, ce, sl)) (by decide +kernel) ?_ (fun m_ x_ Q_ k_ => ⟨trivial, k_⟩)
  refine w_R.at (row := (.iadd, 1, 0, 0, 0)) (c' := (1041, lw_L m, [.int (Int32.ofNat (5 * m) + 1), .retAddr 0, .ref 1], σ, ce, sl)) (by decide +kernel) ?_ (fun m_ x_ Q_ k_ => ⟨trivial, k_⟩)
  refine w_R.at (row := (.iaload, 1, 0, 0, 0)) (c' := (1042, lw_L m, [.int (xs (Int32.ofNat (5 * m) + 1).toNatClampNeg), .ref 1], σ, ce, sl)) (by decide +kernel) ?_ (fun m_ x_ Q_ k_ => ⟨⟨rfl, lw_in (k := 1) hm hL (by decide)⟩, k_⟩)
  refine w_R.callV (i := 128) (len := 3) (pl := 50) (na := 1) (ce' := ce) (sl' := sl) (v := some (.int v)) (σ' := σ1) (as := [.ref 1, .int (xs (Int32.ofNat (5 * m) + 1).toNatClampNeg)]) (rest := []) h1 ?_ (by decide +kernel) rfl rfl rfl rfl sh_1 rfl rfl (Nat.ble_eq_true_of_le (show ce ≤ 601024 by omega)) (Nat.ble_eq_true_of_le (show sl ≤ 7293034 by omega))
  show w_R xs Ln 169 (1045, lw_L m, [.int v], σ1, ce, sl) Q
  refine w_R.at (row := (.aload_n 2, 1, 0, 0, 0)) (c' := (1046, lw_L m, [.ref 199, .int v], σ1, ce, sl)) (by decide +kernel) ?_ (fun m_ x_ Q_ k_ => ⟨trivial, k_⟩)
  refine w_R.at (row := (.aload_n 0, 1, 0, 0, 0)) (c' := (1047, lw_L m, [.retAddr 0, .ref 199, .int v], σ1, ce, sl)) (by decide +kernel) ?_ (fun m_ x_ Q_ k_ => ⟨rfl, k_⟩)
  refine w_R.at (row := (.iload 4, 2, 0, 0, 0)) (c' := (1049, lw_L m, [.int (Int32.ofNat (5 * m)), .retAddr 0, .ref 199, .int v], σ1, ce, sl)) (by decide +kernel) ?_ (fun m_ x_ Q_ k_ => ⟨trivial, k_⟩)
  refine w_R.at (row := (.iconst 1, 1, 0, 0, 0)) (c' := (1050, lw_L m, [.int 1, .int (Int32.ofNat (5 * m)), .retAddr 0, .ref 199, .int v], σ1, ce, sl)) (by decide +kernel) ?_ (fun m_ x_ Q_ k_ => ⟨trivial, k_⟩)
  refine w_R.at (row := (.iadd, 1, 0, 0, 0)) (c' := (1051, lw_L m, [.int (Int32.ofNat (5 * m) + 1), .retAddr 0, .ref 199, .int v], σ1, ce, sl)) (by decide +kernel) ?_ (fun m_ x_ Q_ k_ => ⟨trivial, k_⟩)
  refine w_R.at (row := (.iaload, 1, 0, 0, 0)) (c' := (1052, lw_L m, [.int (xs (Int32.ofNat (5 * m) + 1).toNatClampNeg), .ref 199, .int v], σ1, ce, sl)) (by decide +kernel) ?_ (fun m_ x_ Q_ k_ => ⟨⟨rfl, lw_in (k := 1) hm hL (by decide)⟩, k_⟩)
  refine w_R.callV (i := 131) (len := 3) (pl := 51) (na := 1) (ce' := ce) (sl' := sl) (v := some (.int v)) (σ' := σ2) (as := [.ref 199, .int (xs (Int32.ofNat (5 * m) + 1).toNatClampNeg)]) (rest := [.int v]) h2 ?_ (by decide +kernel) rfl rfl rfl rfl sh_199 rfl rfl (Nat.ble_eq_true_of_le (show ce ≤ 601024 by omega)) (Nat.ble_eq_true_of_le (show sl ≤ 7293034 by omega))
  show w_R xs Ln 169 (1055, lw_L m, [.int v, .int v], σ2, ce, sl) Q
  refine w_R.at (row := (.if_icmp .eq 288, 3, 0, 0, 0)) (c' := (i_br .eq v v 1343 1058, lw_L m, [], σ2, ce, sl)) (by decide +kernel) ?_ (fun m_ x_ Q_ k_ => ⟨trivial, k_⟩)
  exact w_R.br_eq (fun _ => hk σ2 ce sl h3 (by omega) (by omega)) (fun hne => absurd rfl hne)
set_option maxRecDepth 20000 in
theorem k_case20 (h : ∀ a0, lw_ok xs Ln Rel 21 155 [.int a0]) : lw_case xs Ln Rel 1060 := by
  intro m σ ce sl Q hR hm hL hce hsl hk
  obtain ⟨v, σ1, σ2, h1, h2, h3⟩ := h (xs (Int32.ofNat (5 * m) + 1).toNatClampNeg) m σ hR (by omega)
  refine w_R.at (row := (.aload_n 1, 1, 0, 0, 0)) (c' := (1061, lw_L m, [.ref 1], σ, ce, sl)) (by decide +kernel) ?_ (fun m_ x_ Q_ k_ => ⟨trivial, k_⟩)
  refine w_R.at (row := (.aload_n 0, 1, 0, 0, 0)) (c' := (1062, lw_L m, [.retAddr 0, .ref 1], σ, ce, sl)) (by decide +kernel) ?_ (fun m_ x_ Q_ k_ => ⟨rfl, k_⟩)
  refine w_R.at (row := (.iload 4, 2, 0, 0, 0)) (c' := (1064, lw_L m, [.int (Int32.ofNat (5 * m)), .retAddr 0, .ref 1], σ, ce, sl)) (by decide +kernel) ?_ (fun m_ x_ Q_ k_ => ⟨trivial, k_⟩)
  refine w_R.at (row := (.iconst 1, 1, 0, 0, 0)) (c' := (1065, lw_L m, [.int 1, .int (Int32.ofNat (5 * m)), .retAddr 0, .ref 1], σ, ce, sl)) (by decide +kernel) ?_ (fun m_ x_ Q_ k_ => ⟨trivial, k_⟩)
  refine w_R.at (row := (.iadd, 1, 0, 0, 0)) (c' := (1066, lw_L m, [.int (Int32.ofNat (5 * m) + 1), .retAddr 0, .ref 1], σ, ce, sl)) (by decide +kernel) ?_ (fun m_ x_ Q_ k_ => ⟨trivial, k_⟩)
  refine w_R.at (row := (.iaload, 1, 0, 0, 0)) (c' := (1067, lw_L m, [.int (xs (Int32.ofNat (5 * m) + 1).toNatClampNeg), .ref 1], σ, ce, sl)) (by decide +kernel) ?_ (fun m_ x_ Q_ k_ => ⟨⟨rfl, lw_in (k := 1) hm hL (by decide)⟩, k_⟩)
  refine w_R.callV (i := 132) (len := 3) (pl := 52) (na := 1) (ce' := ce) (sl' := sl) (v := some (.int v)) (σ' := σ1) (as := [.ref 1, .int (xs (Int32.ofNat (5 * m) + 1).toNatClampNeg)]) (rest := []) h1 ?_ (by decide +kernel) rfl rfl rfl rfl sh_1 rfl rfl (Nat.ble_eq_true_of_le (show ce ≤ 601024 by omega)) (Nat.ble_eq_true_of_le (show sl ≤ 7293034 by omega))
  show w_R xs Ln 169 (1070, lw_L m, [.int v], σ1, ce, sl) Q
  refine w_R.at (row := (.aload_n 2, 1, 0, 0, 0)) (c' := (1071, lw_L m, [.ref 199, .int v], σ1, ce, sl)) (by decide +kernel) ?_ (fun m_ x_ Q_ k_ => ⟨trivial, k_⟩)
  refine w_R.at (row := (.aload_n 0, 1, 0, 0, 0)) (c' := (1072, lw_L m, [.retAddr 0, .ref 199, .int v], σ1, ce, sl)) (by decide +kernel) ?_ (fun m_ x_ Q_ k_ => ⟨rfl, k_⟩)
  refine w_R.at (row := (.iload 4, 2, 0, 0, 0)) (c' := (1074, lw_L m, [.int (Int32.ofNat (5 * m)), .retAddr 0, .ref 199, .int v], σ1, ce, sl)) (by decide +kernel) ?_ (fun m_ x_ Q_ k_ => ⟨trivial, k_⟩)
  refine w_R.at (row := (.iconst 1, 1, 0, 0, 0)) (c' := (1075, lw_L m, [.int 1, .int (Int32.ofNat (5 * m)), .retAddr 0, .ref 199, .int v], σ1, ce, sl)) (by decide +kernel) ?_ (fun m_ x_ Q_ k_ => ⟨trivial, k_⟩)
  refine w_R.at (row := (.iadd, 1, 0, 0, 0)) (c' := (1076, lw_L m, [.int (Int32.ofNat (5 * m) + 1), .retAddr 0, .ref 199, .int v], σ1, ce, sl)) (by decide +kernel) ?_ (fun m_ x_ Q_ k_ => ⟨trivial, k_⟩)
  refine w_R.at (row := (.iaload, 1, 0, 0, 0)) (c' := (1077, lw_L m, [.int (xs (Int32.ofNat (5 * m) + 1).toNatClampNeg), .ref 199, .int v], σ1, ce, sl)) (by decide +kernel) ?_ (fun m_ x_ Q_ k_ => ⟨⟨rfl, lw_in (k := 1) hm hL (by decide)⟩, k_⟩)
  refine w_R.callV (i := 135) (len := 3) (pl := 53) (na := 1) (ce' := ce) (sl' := sl) (v := some (.int v)) (σ' := σ2) (as := [.ref 199, .int (xs (Int32.ofNat (5 * m) + 1).toNatClampNeg)]) (rest := [.int v]) h2 ?_ (by decide +kernel) rfl rfl rfl rfl sh_199 rfl rfl (Nat.ble_eq_true_of_le (show ce ≤ 601024 by omega)) (Nat.ble_eq_true_of_le (show sl ≤ 7293034 by omega))
  show w_R xs Ln 169 (1080, lw_L m, [.int v, .int v], σ2, ce, sl) Q
  refine w_R.at (row := (.if_icmp .eq 263, 3, 0, 0, 0)) (c' := (i_br .eq v v 1343 1083, lw_L m, [], σ2, ce, sl)) (by decide +kernel) ?_ (fun m_ x_ Q_ k_ => ⟨trivial, k_⟩)
  exact w_R.br_eq (fun _ => hk σ2 ce sl h3 (by omega) (by omega)) (fun hne => absurd rfl hne)
set_option maxRecDepth 20000 in
theorem k_case21 (h : ∀ a0, lw_ok xs Ln Rel 22 156 [.int a0]) : lw_case xs Ln Rel 1085 := by
  intro m σ ce sl Q hR hm hL hce hsl hk
  obtain ⟨v, σ1, σ2, h1, h2, h3⟩ := h (xs (Int32.ofNat (5 * m) + 1).toNatClampNeg) m σ hR (by omega)
  refine w_R.at (row := (.aload_n 1, 1, 0, 0, 0)) (c' := (1086, lw_L m, [.ref 1], σ, ce, sl)) (by decide +kernel) ?_ (fun m_ x_ Q_ k_ => ⟨trivial, k_⟩)
  refine w_R.at (row := (.aload_n 0, 1, 0, 0, 0)) (c' := (1087, lw_L m, [.retAddr 0, .ref 1], σ, ce, sl)) (by decide +kernel) ?_ (fun m_ x_ Q_ k_ => ⟨rfl, k_⟩)
  refine w_R.at (row := (.iload 4, 2, 0, 0, 0)) (c' := (1089, lw_L m, [.int (Int32.ofNat (5 * m)), .retAddr 0, .ref 1], σ, ce, sl)) (by decide +kernel) ?_ (fun m_ x_ Q_ k_ => ⟨trivial, k_⟩)
  refine w_R.at (row := (.iconst 1, 1, 0, 0, 0)) (c' := (1090, lw_L m, [.int 1, .int (Int32.ofNat (5 * m)), .retAddr 0, .ref 1], σ, ce, sl)) (by decide +kernel) ?_ (fun m_ x_ Q_ k_ => ⟨trivial, k_⟩)
  refine w_R.at (row := (.iadd, 1, 0, 0, 0)) (c' := (1091, lw_L m, [.int (Int32.ofNat (5 * m) + 1), .retAddr 0, .ref 1], σ, ce, sl)) (by decide +kernel) ?_ (fun m_ x_ Q_ k_ => ⟨trivial, k_⟩)
  refine w_R.at (row := (.iaload, 1, 0, 0, 0)) (c' := (1092, lw_L m, [.int (xs (Int32.ofNat (5 * m) + 1).toNatClampNeg), .ref 1], σ, ce, sl)) (by decide +kernel) ?_ (fun m_ x_ Q_ k_ => ⟨⟨rfl, lw_in (k := 1) hm hL (by decide)⟩, k_⟩)
  refine w_R.callV (i := 136) (len := 3) (pl := 54) (na := 1) (ce' := ce) (sl' := sl) (v := some (.int v)) (σ' := σ1) (as := [.ref 1, .int (xs (Int32.ofNat (5 * m) + 1).toNatClampNeg)]) (rest := []) h1 ?_ (by decide +kernel) rfl rfl rfl rfl sh_1 rfl rfl (Nat.ble_eq_true_of_le (show ce ≤ 601024 by omega)) (Nat.ble_eq_true_of_le (show sl ≤ 7293034 by omega))
  show w_R xs Ln 169 (1095, lw_L m, [.int v], σ1, ce, sl) Q
  refine w_R.at (row := (.aload_n 2, 1, 0, 0, 0)) (c' := (1096, lw_L m, [.ref 199, .int v], σ1, ce, sl)) (by decide +kernel) ?_ (fun m_ x_ Q_ k_ => ⟨trivial, k_⟩)
  refine w_R.at (row := (.aload_n 0, 1, 0, 0, 0)) (c' := (1097, lw_L m, [.retAddr 0, .ref 199, .int v], σ1, ce, sl)) (by decide +kernel) ?_ (fun m_ x_ Q_ k_ => ⟨rfl, k_⟩)
  refine w_R.at (row := (.iload 4, 2, 0, 0, 0)) (c' := (1099, lw_L m, [.int (Int32.ofNat (5 * m)), .retAddr 0, .ref 199, .int v], σ1, ce, sl)) (by decide +kernel) ?_ (fun m_ x_ Q_ k_ => ⟨trivial, k_⟩)
  refine w_R.at (row := (.iconst 1, 1, 0, 0, 0)) (c' := (1100, lw_L m, [.int 1, .int (Int32.ofNat (5 * m)), .retAddr 0, .ref 199, .int v], σ1, ce, sl)) (by decide +kernel) ?_ (fun m_ x_ Q_ k_ => ⟨trivial, k_⟩)
  refine w_R.at (row := (.iadd, 1, 0, 0, 0)) (c' := (1101, lw_L m, [.int (Int32.ofNat (5 * m) + 1), .retAddr 0, .ref 199, .int v], σ1, ce, sl)) (by decide +kernel) ?_ (fun m_ x_ Q_ k_ => ⟨trivial, k_⟩)
  refine w_R.at (row := (.iaload, 1, 0, 0, 0)) (c' := (1102, lw_L m, [.int (xs (Int32.ofNat (5 * m) + 1).toNatClampNeg), .ref 199, .int v], σ1, ce, sl)) (by decide +kernel) ?_ (fun m_ x_ Q_ k_ => ⟨⟨rfl, lw_in (k := 1) hm hL (by decide)⟩, k_⟩)
  refine w_R.callV (i := 139) (len := 3) (pl := 55) (na := 1) (ce' := ce) (sl' := sl) (v := some (.int v)) (σ' := σ2) (as := [.ref 199, .int (xs (Int32.ofNat (5 * m) + 1).toNatClampNeg)]) (rest := [.int v]) h2 ?_ (by decide +kernel) rfl rfl rfl rfl sh_199 rfl rfl (Nat.ble_eq_true_of_le (show ce ≤ 601024 by omega)) (Nat.ble_eq_true_of_le (show sl ≤ 7293034 by omega))
  show w_R xs Ln 169 (1105, lw_L m, [.int v, .int v], σ2, ce, sl) Q
  refine w_R.at (row := (.if_icmp .eq 238, 3, 0, 0, 0)) (c' := (i_br .eq v v 1343 1108, lw_L m, [], σ2, ce, sl)) (by decide +kernel) ?_ (fun m_ x_ Q_ k_ => ⟨trivial, k_⟩)
  exact w_R.br_eq (fun _ => hk σ2 ce sl h3 (by omega) (by omega)) (fun hne => absurd rfl hne)
set_option maxRecDepth 20000 in
theorem k_case22 (h : ∀ a0 a1, lw_ok xs Ln Rel 23 157 [.int a0, .int a1]) : lw_case xs Ln Rel 1110 := by
  intro m σ ce sl Q hR hm hL hce hsl hk
  obtain ⟨v, σ1, σ2, h1, h2, h3⟩ := h (xs (Int32.ofNat (5 * m) + 1).toNatClampNeg) (xs (Int32.ofNat (5 * m) + 2).toNatClampNeg) m σ hR (by omega)
  refine w_R.at (row := (.aload_n 1, 1, 0, 0, 0)) (c' := (1111, lw_L m, [.ref 1], σ, ce, sl)) (by decide +kernel) ?_ (fun m_ x_ Q_ k_ => ⟨trivial, k_⟩)
  refine w_R.at (row := (.aload_n 0, 1, 0, 0, 0)) (c' := (1112, lw_L m, [.retAddr 0, .ref 1], σ, ce, sl)) (by decide +kernel) ?_ (fun m_ x_ Q_ k_ => ⟨rfl, k_⟩)
  refine w_R.at (row := (.iload 4, 2, 0, 0, 0)) (c' := (1114, lw_L m, [.int (Int32.ofNat (5 * m)), .retAddr 0, .ref 1], σ, ce, sl)) (by decide +kernel) ?_ (fun m_ x_ Q_ k_ => ⟨trivial, k_⟩)
  refine w_R.at (row := (.iconst 1, 1, 0, 0, 0)) (c' := (1115, lw_L m, [.int 1, .int (Int32.ofNat (5 * m)), .retAddr 0, .ref 1], σ, ce, sl)) (by decide +kernel) ?_ (fun m_ x_ Q_ k_ => ⟨trivial, k_⟩)
  refine w_R.at (row := (.iadd, 1, 0, 0, 0)) (c' := (1116, lw_L m, [.int (Int32.ofNat (5 * m) + 1), .retAddr 0, .ref 1], σ, ce, sl)) (by decide +kernel) ?_ (fun m_ x_ Q_ k_ => ⟨trivial, k_⟩)
  refine w_R.at (row := (.iaload, 1, 0, 0, 0)) (c' := (1117, lw_L m, [.int (xs (Int32.ofNat (5 * m) + 1).toNatClampNeg), .ref 1], σ, ce, sl)) (by decide +kernel) ?_ (fun m_ x_ Q_ k_ => ⟨⟨rfl, lw_in (k := 1) hm hL (by decide)⟩, k_⟩)
  refine w_R.at (row := (.aload_n 0, 1, 0, 0, 0)) (c' := (1118, lw_L m, [.retAddr 0, .int (xs (Int32.ofNat (5 * m) + 1).toNatClampNeg), .ref 1], σ, ce, sl)) (by decide +kernel) ?_ (fun m_ x_ Q_ k_ => ⟨rfl, k_⟩)
  refine w_R.at (row := (.iload 4, 2, 0, 0, 0)) (c' := (1120, lw_L m, [.int (Int32.ofNat (5 * m)), .retAddr 0, .int (xs (Int32.ofNat (5 * m) + 1).toNatClampNeg), .ref 1], σ, ce, sl)) (by decide +kernel) ?_ (fun m_ x_ Q_ k_ => ⟨trivial, k_⟩)
  refine w_R.at (row := (.iconst 2, 1, 0, 0, 0)) (c' := (1121, lw_L m, [.int 2, .int (Int32.ofNat (5 * m)), .retAddr 0, .int (xs (Int32.ofNat (5 * m) + 1).toNatClampNeg), .ref 1], σ, ce, sl)) (by decide +kernel) ?_ (fun m_ x_ Q_ k_ => ⟨trivial, k_⟩)
  refine w_R.at (row := (.iadd, 1, 0, 0, 0)) (c' := (1122, lw_L m, [.int (Int32.ofNat (5 * m) + 2), .retAddr 0, .int (xs (Int32.ofNat (5 * m) + 1).toNatClampNeg), .ref 1], σ, ce, sl)) (by decide +kernel) ?_ (fun m_ x_ Q_ k_ => ⟨trivial, k_⟩)
  refine w_R.at (row := (.iaload, 1, 0, 0, 0)) (c' := (1123, lw_L m, [.int (xs (Int32.ofNat (5 * m) + 2).toNatClampNeg), .int (xs (Int32.ofNat (5 * m) + 1).toNatClampNeg), .ref 1], σ, ce, sl)) (by decide +kernel) ?_ (fun m_ x_ Q_ k_ => ⟨⟨rfl, lw_in (k := 2) hm hL (by decide)⟩, k_⟩)
  refine w_R.callV (i := 140) (len := 3) (pl := 56) (na := 2) (ce' := ce) (sl' := sl) (v := some (.int v)) (σ' := σ1) (as := [.ref 1, .int (xs (Int32.ofNat (5 * m) + 1).toNatClampNeg), .int (xs (Int32.ofNat (5 * m) + 2).toNatClampNeg)]) (rest := []) h1 ?_ (by decide +kernel) rfl rfl rfl rfl sh_1 rfl rfl (Nat.ble_eq_true_of_le (show ce ≤ 601024 by omega)) (Nat.ble_eq_true_of_le (show sl ≤ 7293034 by omega))
  show w_R xs Ln 169 (1126, lw_L m, [.int v], σ1, ce, sl) Q
  refine w_R.at (row := (.aload_n 2, 1, 0, 0, 0)) (c' := (1127, lw_L m, [.ref 199, .int v], σ1, ce, sl)) (by decide +kernel) ?_ (fun m_ x_ Q_ k_ => ⟨trivial, k_⟩)
  refine w_R.at (row := (.aload_n 0, 1, 0, 0, 0)) (c' := (1128, lw_L m, [.retAddr 0, .ref 199, .int v], σ1, ce, sl)) (by decide +kernel) ?_ (fun m_ x_ Q_ k_ => ⟨rfl, k_⟩)
  refine w_R.at (row := (.iload 4, 2, 0, 0, 0)) (c' := (1130, lw_L m, [.int (Int32.ofNat (5 * m)), .retAddr 0, .ref 199, .int v], σ1, ce, sl)) (by decide +kernel) ?_ (fun m_ x_ Q_ k_ => ⟨trivial, k_⟩)
  refine w_R.at (row := (.iconst 1, 1, 0, 0, 0)) (c' := (1131, lw_L m, [.int 1, .int (Int32.ofNat (5 * m)), .retAddr 0, .ref 199, .int v], σ1, ce, sl)) (by decide +kernel) ?_ (fun m_ x_ Q_ k_ => ⟨trivial, k_⟩)
  refine w_R.at (row := (.iadd, 1, 0, 0, 0)) (c' := (1132, lw_L m, [.int (Int32.ofNat (5 * m) + 1), .retAddr 0, .ref 199, .int v], σ1, ce, sl)) (by decide +kernel) ?_ (fun m_ x_ Q_ k_ => ⟨trivial, k_⟩)
  refine w_R.at (row := (.iaload, 1, 0, 0, 0)) (c' := (1133, lw_L m, [.int (xs (Int32.ofNat (5 * m) + 1).toNatClampNeg), .ref 199, .int v], σ1, ce, sl)) (by decide +kernel) ?_ (fun m_ x_ Q_ k_ => ⟨⟨rfl, lw_in (k := 1) hm hL (by decide)⟩, k_⟩)
  refine w_R.at (row := (.aload_n 0, 1, 0, 0, 0)) (c' := (1134, lw_L m, [.retAddr 0, .int (xs (Int32.ofNat (5 * m) + 1).toNatClampNeg), .ref 199, .int v], σ1, ce, sl)) (by decide +kernel) ?_ (fun m_ x_ Q_ k_ => ⟨rfl, k_⟩)
  refine w_R.at (row := (.iload 4, 2, 0, 0, 0)) (c' := (1136, lw_L m, [.int (Int32.ofNat (5 * m)), .retAddr 0, .int (xs (Int32.ofNat (5 * m) + 1).toNatClampNeg), .ref 199, .int v], σ1, ce, sl)) (by decide +kernel) ?_ (fun m_ x_ Q_ k_ => ⟨trivial, k_⟩)
  refine w_R.at (row := (.iconst 2, 1, 0, 0, 0)) (c' := (1137, lw_L m, [.int 2, .int (Int32.ofNat (5 * m)), .retAddr 0, .int (xs (Int32.ofNat (5 * m) + 1).toNatClampNeg), .ref 199, .int v], σ1, ce, sl)) (by decide +kernel) ?_ (fun m_ x_ Q_ k_ => ⟨trivial, k_⟩)
  refine w_R.at (row := (.iadd, 1, 0, 0, 0)) (c' := (1138, lw_L m, [.int (Int32.ofNat (5 * m) + 2), .retAddr 0, .int (xs (Int32.ofNat (5 * m) + 1).toNatClampNeg), .ref 199, .int v], σ1, ce, sl)) (by decide +kernel) ?_ (fun m_ x_ Q_ k_ => ⟨trivial, k_⟩)
  refine w_R.at (row := (.iaload, 1, 0, 0, 0)) (c' := (1139, lw_L m, [.int (xs (Int32.ofNat (5 * m) + 2).toNatClampNeg), .int (xs (Int32.ofNat (5 * m) + 1).toNatClampNeg), .ref 199, .int v], σ1, ce, sl)) (by decide +kernel) ?_ (fun m_ x_ Q_ k_ => ⟨⟨rfl, lw_in (k := 2) hm hL (by decide)⟩, k_⟩)
  refine w_R.callV (i := 143) (len := 3) (pl := 57) (na := 2) (ce' := ce) (sl' := sl) (v := some (.int v)) (σ' := σ2) (as := [.ref 199, .int (xs (Int32.ofNat (5 * m) + 1).toNatClampNeg), .int (xs (Int32.ofNat (5 * m) + 2).toNatClampNeg)]) (rest := [.int v]) h2 ?_ (by decide +kernel) rfl rfl rfl rfl sh_199 rfl rfl (Nat.ble_eq_true_of_le (show ce ≤ 601024 by omega)) (Nat.ble_eq_true_of_le (show sl ≤ 7293034 by omega))
  show w_R xs Ln 169 (1142, lw_L m, [.int v, .int v], σ2, ce, sl) Q
  refine w_R.at (row := (.if_icmp .eq 201, 3, 0, 0, 0)) (c' := (i_br .eq v v 1343 1145, lw_L m, [], σ2, ce, sl)) (by decide +kernel) ?_ (fun m_ x_ Q_ k_ => ⟨trivial, k_⟩)
  exact w_R.br_eq (fun _ => hk σ2 ce sl h3 (by omega) (by omega)) (fun hne => absurd rfl hne)
set_option maxRecDepth 20000 in
theorem k_case23 (h : ∀ a0 a1 a2 a3, lw_ok xs Ln Rel 24 158 [.int a0, .int a1, .int a2, .int a3]) : lw_case xs Ln Rel 1147 := by
  intro m σ ce sl Q hR hm hL hce hsl hk
  obtain ⟨v, σ1, σ2, h1, h2, h3⟩ := h (xs (Int32.ofNat (5 * m) + 1).toNatClampNeg) (xs (Int32.ofNat (5 * m) + 2).toNatClampNeg) (xs (Int32.ofNat (5 * m) + 3).toNatClampNeg) (xs (Int32.ofNat (5 * m) + 4).toNatClampNeg) m σ hR (by omega)
  refine w_R.at (row := (.aload_n 1, 1, 0, 0, 0)) (c' := (1148, lw_L m, [.ref 1], σ, ce, sl)) (by decide +kernel) ?_ (fun m_ x_ Q_ k_ => ⟨trivial, k_⟩)
  refine w_R.at (row := (.aload_n 0, 1, 0, 0, 0)) (c' := (1149, lw_L m, [.retAddr 0, .ref 1], σ, ce, sl)) (by decide +kernel) ?_ (fun m_ x_ Q_ k_ => ⟨rfl, k_⟩)
  refine w_R.at (row := (.iload 4, 2, 0, 0, 0)) (c' := (1151, lw_L m, [.int (Int32.ofNat (5 * m)), .retAddr 0, .ref 1], σ, ce, sl)) (by decide +kernel) ?_ (fun m_ x_ Q_ k_ => ⟨trivial, k_⟩)
  refine w_R.at (row := (.iconst 1, 1, 0, 0, 0)) (c' := (1152, lw_L m, [.int 1, .int (Int32.ofNat (5 * m)), .retAddr 0, .ref 1], σ, ce, sl)) (by decide +kernel) ?_ (fun m_ x_ Q_ k_ => ⟨trivial, k_⟩)
  refine w_R.at (row := (.iadd, 1, 0, 0, 0)) (c' := (1153, lw_L m, [.int (Int32.ofNat (5 * m) + 1), .retAddr 0, .ref 1], σ, ce, sl)) (by decide +kernel) ?_ (fun m_ x_ Q_ k_ => ⟨trivial, k_⟩)
  refine w_R.at (row := (.iaload, 1, 0, 0, 0)) (c' := (1154, lw_L m, [.int (xs (Int32.ofNat (5 * m) + 1).toNatClampNeg), .ref 1], σ, ce, sl)) (by decide +kernel) ?_ (fun m_ x_ Q_ k_ => ⟨⟨rfl, lw_in (k := 1) hm hL (by decide)⟩, k_⟩)
  refine w_R.at (row := (.aload_n 0, 1, 0, 0, 0)) (c' := (1155, lw_L m, [.retAddr 0, .int (xs (Int32.ofNat (5 * m) + 1).toNatClampNeg), .ref 1], σ, ce, sl)) (by decide +kernel) ?_ (fun m_ x_ Q_ k_ => ⟨rfl, k_⟩)
  refine w_R.at (row := (.iload 4, 2, 0, 0, 0)) (c' := (1157, lw_L m, [.int (Int32.ofNat (5 * m)), .retAddr 0, .int (xs (Int32.ofNat (5 * m) + 1).toNatClampNeg), .ref 1], σ, ce, sl)) (by decide +kernel) ?_ (fun m_ x_ Q_ k_ => ⟨trivial, k_⟩)
  refine w_R.at (row := (.iconst 2, 1, 0, 0, 0)) (c' := (1158, lw_L m, [.int 2, .int (Int32.ofNat (5 * m)), .retAddr 0, .int (xs (Int32.ofNat (5 * m) + 1).toNatClampNeg), .ref 1], σ, ce, sl)) (by decide +kernel) ?_ (fun m_ x_ Q_ k_ => ⟨trivial, k_⟩)
  refine w_R.at (row := (.iadd, 1, 0, 0, 0)) (c' := (1159, lw_L m, [.int (Int32.ofNat (5 * m) + 2), .retAddr 0, .int (xs (Int32.ofNat (5 * m) + 1).toNatClampNeg), .ref 1], σ, ce, sl)) (by decide +kernel) ?_ (fun m_ x_ Q_ k_ => ⟨trivial, k_⟩)
  refine w_R.at (row := (.iaload, 1, 0, 0, 0)) (c' := (1160, lw_L m, [.int (xs (Int32.ofNat (5 * m) + 2).toNatClampNeg), .int (xs (Int32.ofNat (5 * m) + 1).toNatClampNeg), .ref 1], σ, ce, sl)) (by decide +kernel) ?_ (fun m_ x_ Q_ k_ => ⟨⟨rfl, lw_in (k := 2) hm hL (by decide)⟩, k_⟩)
  refine w_R.at (row := (.aload_n 0, 1, 0, 0, 0)) (c' := (1161, lw_L m, [.retAddr 0, .int (xs (Int32.ofNat (5 * m) + 2).toNatClampNeg), .int (xs (Int32.ofNat (5 * m) + 1).toNatClampNeg), .ref 1], σ, ce, sl)) (by decide +kernel) ?_ (fun m_ x_ Q_ k_ => ⟨rfl, k_⟩)
  refine w_R.at (row := (.iload 4, 2, 0, 0, 0)) (c' := (1163, lw_L m, [.int (Int32.ofNat (5 * m)), .retAddr 0, .int (xs (Int32.ofNat (5 * m) + 2).toNatClampNeg), .int (xs (Int32.ofNat (5 * m) + 1).toNatClampNeg), .ref 1], σ, ce, sl)) (by decide +kernel) ?_ (fun m_ x_ Q_ k_ => ⟨trivial, k_⟩)
  refine w_R.at (row := (.iconst 3, 1, 0, 0, 0)) (c' := (1164, lw_L m, [.int 3, .int (Int32.ofNat (5 * m)), .retAddr 0, .int (xs (Int32.ofNat (5 * m) + 2).toNatClampNeg), .int (xs (Int32.ofNat (5 * m) + 1).toNatClampNeg), .ref 1], σ, ce, sl)) (by decide +kernel) ?_ (fun m_ x_ Q_ k_ => ⟨trivial, k_⟩)
  refine w_R.at (row := (.iadd, 1, 0, 0, 0)) (c' := (1165, lw_L m, [.int (Int32.ofNat (5 * m) + 3), .retAddr 0, .int (xs (Int32.ofNat (5 * m) + 2).toNatClampNeg), .int (xs (Int32.ofNat (5 * m) + 1).toNatClampNeg), .ref 1], σ, ce, sl)) (by decide +kernel) ?_ (fun m_ x_ Q_ k_ => ⟨trivial, k_⟩)
  refine w_R.at (row := (.iaload, 1, 0, 0, 0)) (c' := (1166, lw_L m, [.int (xs (Int32.ofNat (5 * m) + 3).toNatClampNeg), .int (xs (Int32.ofNat (5 * m) + 2).toNatClampNeg), .int (xs (Int32.ofNat (5 * m) + 1).toNatClampNeg), .ref 1], σ, ce, sl)) (by decide +kernel) ?_ (fun m_ x_ Q_ k_ => ⟨⟨rfl, lw_in (k := 3) hm hL (by decide)⟩, k_⟩)
  refine w_R.at (row := (.aload_n 0, 1, 0, 0, 0)) (c' := (1167, lw_L m, [.retAddr 0, .int (xs (Int32.ofNat (5 * m) + 3).toNatClampNeg), .int (xs (Int32.ofNat (5 * m) + 2).toNatClampNeg), .int (xs (Int32.ofNat (5 * m) + 1).toNatClampNeg), .ref 1], σ, ce, sl)) (by decide +kernel) ?_ (fun m_ x_ Q_ k_ => ⟨rfl, k_⟩)
  refine w_R.at (row := (.iload 4, 2, 0, 0, 0)) (c' := (1169, lw_L m, [.int (Int32.ofNat (5 * m)), .retAddr 0, .int (xs (Int32.ofNat (5 * m) + 3).toNatClampNeg), .int (xs (Int32.ofNat (5 * m) + 2).toNatClampNeg), .int (xs (Int32.ofNat (5 * m) + 1).toNatClampNeg), .ref 1], σ, ce, sl)) (by decide +kernel) ?_ (fun m_ x_ Q_ k_ => ⟨trivial, k_⟩)
  refine w_R.at (row := (.iconst 4, 1, 0, 0, 0)) (c' := (1170, lw_L m, [.int 4, .int (Int32.ofNat (5 * m)), .retAddr 0, .int (xs (Int32.ofNat (5 * m) + 3).toNatClampNeg), .int (xs (Int32.ofNat (5 * m) + 2).toNatClampNeg), .int (xs (Int32.ofNat (5 * m) + 1).toNatClampNeg), .ref 1], σ, ce, sl)) (by decide +kernel) ?_ (fun m_ x_ Q_ k_ => ⟨trivial, k_⟩)
  refine w_R.at (row := (.iadd, 1, 0, 0, 0)) (c' := (1171, lw_L m, [.int (Int32.ofNat (5 * m) + 4), .retAddr 0, .int (xs (Int32.ofNat (5 * m) + 3).toNatClampNeg), .int (xs (Int32.ofNat (5 * m) + 2).toNatClampNeg), .int (xs (Int32.ofNat (5 * m) + 1).toNatClampNeg), .ref 1], σ, ce, sl)) (by decide +kernel) ?_ (fun m_ x_ Q_ k_ => ⟨trivial, k_⟩)
  refine w_R.at (row := (.iaload, 1, 0, 0, 0)) (c' := (1172, lw_L m, [.int (xs (Int32.ofNat (5 * m) + 4).toNatClampNeg), .int (xs (Int32.ofNat (5 * m) + 3).toNatClampNeg), .int (xs (Int32.ofNat (5 * m) + 2).toNatClampNeg), .int (xs (Int32.ofNat (5 * m) + 1).toNatClampNeg), .ref 1], σ, ce, sl)) (by decide +kernel) ?_ (fun m_ x_ Q_ k_ => ⟨⟨rfl, lw_in (k := 4) hm hL (by decide)⟩, k_⟩)
  refine w_R.callV (i := 144) (len := 3) (pl := 58) (na := 4) (ce' := ce) (sl' := sl) (v := some (.int v)) (σ' := σ1) (as := [.ref 1, .int (xs (Int32.ofNat (5 * m) + 1).toNatClampNeg), .int (xs (Int32.ofNat (5 * m) + 2).toNatClampNeg), .int (xs (Int32.ofNat (5 * m) + 3).toNatClampNeg), .int (xs (Int32.ofNat (5 * m) + 4).toNatClampNeg)]) (rest := []) h1 ?_ (by decide +kernel) rfl rfl rfl rfl sh_1 rfl rfl (Nat.ble_eq_true_of_le (show ce ≤ 601024 by omega)) (Nat.ble_eq_true_of_le (show sl ≤ 7293034 by omega))
  show w_R xs Ln 169 (1175, lw_L m, [.int v], σ1, ce, sl) Q
  refine w_R.at (row := (.aload_n 2, 1, 0, 0, 0)) (c' := (1176, lw_L m, [.ref 199, .int v], σ1, ce, sl)) (by decide +kernel) ?_ (fun m_ x_ Q_ k_ => ⟨trivial, k_⟩)
  refine w_R.at (row := (.aload_n 0, 1, 0, 0, 0)) (c' := (1177, lw_L m, [.retAddr 0, .ref 199, .int v], σ1, ce, sl)) (by decide +kernel) ?_ (fun m_ x_ Q_ k_ => ⟨rfl, k_⟩)
  refine w_R.at (row := (.iload 4, 2, 0, 0, 0)) (c' := (1179, lw_L m, [.int (Int32.ofNat (5 * m)), .retAddr 0, .ref 199, .int v], σ1, ce, sl)) (by decide +kernel) ?_ (fun m_ x_ Q_ k_ => ⟨trivial, k_⟩)
  refine w_R.at (row := (.iconst 1, 1, 0, 0, 0)) (c' := (1180, lw_L m, [.int 1, .int (Int32.ofNat (5 * m)), .retAddr 0, .ref 199, .int v], σ1, ce, sl)) (by decide +kernel) ?_ (fun m_ x_ Q_ k_ => ⟨trivial, k_⟩)
  refine w_R.at (row := (.iadd, 1, 0, 0, 0)) (c' := (1181, lw_L m, [.int (Int32.ofNat (5 * m) + 1), .retAddr 0, .ref 199, .int v], σ1, ce, sl)) (by decide +kernel) ?_ (fun m_ x_ Q_ k_ => ⟨trivial, k_⟩)
  refine w_R.at (row := (.iaload, 1, 0, 0, 0)) (c' := (1182, lw_L m, [.int (xs (Int32.ofNat (5 * m) + 1).toNatClampNeg), .ref 199, .int v], σ1, ce, sl)) (by decide +kernel) ?_ (fun m_ x_ Q_ k_ => ⟨⟨rfl, lw_in (k := 1) hm hL (by decide)⟩, k_⟩)
  refine w_R.at (row := (.aload_n 0, 1, 0, 0, 0)) (c' := (1183, lw_L m, [.retAddr 0, .int (xs (Int32.ofNat (5 * m) + 1).toNatClampNeg), .ref 199, .int v], σ1, ce, sl)) (by decide +kernel) ?_ (fun m_ x_ Q_ k_ => ⟨rfl, k_⟩)
  refine w_R.at (row := (.iload 4, 2, 0, 0, 0)) (c' := (1185, lw_L m, [.int (Int32.ofNat (5 * m)), .retAddr 0, .int (xs (Int32.ofNat (5 * m) + 1).toNatClampNeg), .ref 199, .int v], σ1, ce, sl)) (by decide +kernel) ?_ (fun m_ x_ Q_ k_ => ⟨trivial, k_⟩)
  refine w_R.at (row := (.iconst 2, 1, 0, 0, 0)) (c' := (1186, lw_L m, [.int 2, .int (Int32.ofNat (5 * m)), .retAddr 0, .int (xs (Int32.ofNat (5 * m) + 1).toNatClampNeg), .ref 199, .int v], σ1, ce, sl)) (by decide +kernel) ?_ (fun m_ x_ Q_ k_ => ⟨trivial, k_⟩)
  refine w_R.at (row := (.iadd, 1, 0, 0, 0)) (c' := (1187, lw_L m, [.int (Int32.ofNat (5 * m) + 2), .retAddr 0, .int (xs (Int32.ofNat (5 * m) + 1).toNatClampNeg), .ref 199, .int v], σ1, ce, sl)) (by decide +kernel) ?_ (fun m_ x_ Q_ k_ => ⟨trivial, k_⟩)
  refine w_R.at (row := (.iaload, 1, 0, 0, 0)) (c' := (1188, lw_L m, [.int (xs (Int32.ofNat (5 * m) + 2).toNatClampNeg), .int (xs (Int32.ofNat (5 * m) + 1).toNatClampNeg), .ref 199, .int v], σ1, ce, sl)) (by decide +kernel) ?_ (fun m_ x_ Q_ k_ => ⟨⟨rfl, lw_in (k := 2) hm hL (by decide)⟩, k_⟩)
  refine w_R.at (row := (.aload_n 0, 1, 0, 0, 0)) (c' := (1189, lw_L m, [.retAddr 0, .int (xs (Int32.ofNat (5 * m) + 2).toNatClampNeg), .int (xs (Int32.ofNat (5 * m) + 1).toNatClampNeg), .ref 199, .int v], σ1, ce, sl)) (by decide +kernel) ?_ (fun m_ x_ Q_ k_ => ⟨rfl, k_⟩)
  refine w_R.at (row := (.iload 4, 2, 0, 0, 0)) (c' := (1191, lw_L m, [.int (Int32.ofNat (5 * m)), .retAddr 0, .int (xs (Int32.ofNat (5 * m) + 2).toNatClampNeg), .int (xs (Int32.ofNat (5 * m) + 1).toNatClampNeg), .ref 199, .int v], σ1, ce, sl)) (by decide +kernel) ?_ (fun m_ x_ Q_ k_ => ⟨trivial, k_⟩)
  refine w_R.at (row := (.iconst 3, 1, 0, 0, 0)) (c' := (1192, lw_L m, [.int 3, .int (Int32.ofNat (5 * m)), .retAddr 0, .int (xs (Int32.ofNat (5 * m) + 2).toNatClampNeg), .int (xs (Int32.ofNat (5 * m) + 1).toNatClampNeg), .ref 199, .int v], σ1, ce, sl)) (by decide +kernel) ?_ (fun m_ x_ Q_ k_ => ⟨trivial, k_⟩)
  refine w_R.at (row := (.iadd, 1, 0, 0, 0)) (c' := (1193, lw_L m, [.int (Int32.ofNat (5 * m) + 3), .retAddr 0, .int (xs (Int32.ofNat (5 * m) + 2).toNatClampNeg), .int (xs (Int32.ofNat (5 * m) + 1).toNatClampNeg), .ref 199, .int v], σ1, ce, sl)) (by decide +kernel) ?_ (fun m_ x_ Q_ k_ => ⟨trivial, k_⟩)
  refine w_R.at (row := (.iaload, 1, 0, 0, 0)) (c' := (1194, lw_L m, [.int (xs (Int32.ofNat (5 * m) + 3).toNatClampNeg), .int (xs (Int32.ofNat (5 * m) + 2).toNatClampNeg), .int (xs (Int32.ofNat (5 * m) + 1).toNatClampNeg), .ref 199, .int v], σ1, ce, sl)) (by decide +kernel) ?_ (fun m_ x_ Q_ k_ => ⟨⟨rfl, lw_in (k := 3) hm hL (by decide)⟩, k_⟩)
  refine w_R.at (row := (.aload_n 0, 1, 0, 0, 0)) (c' := (1195, lw_L m, [.retAddr 0, .int (xs (Int32.ofNat (5 * m) + 3).toNatClampNeg), .int (xs (Int32.ofNat (5 * m) + 2).toNatClampNeg), .int (xs (Int32.ofNat (5 * m) + 1).toNatClampNeg), .ref 199, .int v], σ1, ce, sl)) (by decide +kernel) ?_ (fun m_ x_ Q_ k_ => ⟨rfl, k_⟩)
  refine w_R.at (row := (.iload 4, 2, 0, 0, 0)) (c' := (1197, lw_L m, [.int (Int32.ofNat (5 * m)), .retAddr 0, .int (xs (Int32.ofNat (5 * m) + 3).toNatClampNeg), .int (xs (Int32.ofNat (5 * m) + 2).toNatClampNeg), .int (xs (Int32.ofNat (5 * m) + 1).toNatClampNeg), .ref 199, .int v], σ1, ce, sl)) (by decide +kernel) ?_ (fun m_ x_ Q_ k_ => ⟨trivial, k_⟩)
  refine w_R.at (row := (.iconst 4, 1, 0, 0, 0)) (c' := (1198, lw_L m, [.int 4, .int (Int32.ofNat (5 * m)), .retAddr 0, .int (xs (Int32.ofNat (5 * m) + 3).toNatClampNeg), .int (xs (Int32.ofNat (5 * m) + 2).toNatClampNeg), .int (xs (Int32.ofNat (5 * m) + 1).toNatClampNeg), .ref 199, .int v], σ1, ce, sl)) (by decide +kernel) ?_ (fun m_ x_ Q_ k_ => ⟨trivial, k_⟩)
  refine w_R.at (row := (.iadd, 1, 0, 0, 0)) (c' := (1199, lw_L m, [.int (Int32.ofNat (5 * m) + 4), .retAddr 0, .int (xs (Int32.ofNat (5 * m) + 3).toNatClampNeg), .int (xs (Int32.ofNat (5 * m) + 2).toNatClampNeg), .int (xs (Int32.ofNat (5 * m) + 1).toNatClampNeg), .ref 199, .int v], σ1, ce, sl)) (by decide +kernel) ?_ (fun m_ x_ Q_ k_ => ⟨trivial, k_⟩)
  refine w_R.at (row := (.iaload, 1, 0, 0, 0)) (c' := (1200, lw_L m, [.int (xs (Int32.ofNat (5 * m) + 4).toNatClampNeg), .int (xs (Int32.ofNat (5 * m) + 3).toNatClampNeg), .int (xs (Int32.ofNat (5 * m) + 2).toNatClampNeg), .int (xs (Int32.ofNat (5 * m) + 1).toNatClampNeg), .ref 199, .int v], σ1, ce, sl)) (by decide +kernel) ?_ (fun m_ x_ Q_ k_ => ⟨⟨rfl, lw_in (k := 4) hm hL (by decide)⟩, k_⟩)
  refine w_R.callV (i := 148) (len := 3) (pl := 59) (na := 4) (ce' := ce) (sl' := sl) (v := some (.int v)) (σ' := σ2) (as := [.ref 199, .int (xs (Int32.ofNat (5 * m) + 1).toNatClampNeg), .int (xs (Int32.ofNat (5 * m) + 2).toNatClampNeg), .int (xs (Int32.ofNat (5 * m) + 3).toNatClampNeg), .int (xs (Int32.ofNat (5 * m) + 4).toNatClampNeg)]) (rest := [.int v]) h2 ?_ (by decide +kernel) rfl rfl rfl rfl sh_199 rfl rfl (Nat.ble_eq_true_of_le (show ce ≤ 601024 by omega)) (Nat.ble_eq_true_of_le (show sl ≤ 7293034 by omega))
  show w_R xs Ln 169 (1203, lw_L m, [.int v, .int v], σ2, ce, sl) Q
  refine w_R.at (row := (.if_icmp .eq 140, 3, 0, 0, 0)) (c' := (i_br .eq v v 1343 1206, lw_L m, [], σ2, ce, sl)) (by decide +kernel) ?_ (fun m_ x_ Q_ k_ => ⟨trivial, k_⟩)
  exact w_R.br_eq (fun _ => hk σ2 ce sl h3 (by omega) (by omega)) (fun hne => absurd rfl hne)
set_option maxRecDepth 20000 in
theorem k_case24 (h : ∀ a0 a1, lw_ok xs Ln Rel 25 159 [.int a0, .int a1]) : lw_case xs Ln Rel 1208 := by
  intro m σ ce sl Q hR hm hL hce hsl hk
  obtain ⟨v, σ1, σ2, h1, h2, h3⟩ := h (xs (Int32.ofNat (5 * m) + 1).toNatClampNeg) (xs (Int32.ofNat (5 * m) + 2).toNatClampNeg) m σ hR (by omega)
  refine w_R.at (row := (.aload_n 1, 1, 0, 0, 0)) (c' := (1209, lw_L m, [.ref 1], σ, ce, sl)) (by decide +kernel) ?_ (fun m_ x_ Q_ k_ => ⟨trivial, k_⟩)
  refine w_R.at (row := (.aload_n 0, 1, 0, 0, 0)) (c' := (1210, lw_L m, [.retAddr 0, .ref 1], σ, ce, sl)) (by decide +kernel) ?_ (fun m_ x_ Q_ k_ => ⟨rfl, k_⟩)
  refine w_R.at (row := (.iload 4, 2, 0, 0, 0)) (c' := (1212, lw_L m, [.int (Int32.ofNat (5 * m)), .retAddr 0, .ref 1], σ, ce, sl)) (by decide +kernel) ?_ (fun m_ x_ Q_ k_ => ⟨trivial, k_⟩)
  refine w_R.at (row := (.iconst 1, 1, 0, 0, 0)) (c' := (1213, lw_L m, [.int 1, .int (Int32.ofNat (5 * m)), .retAddr 0, .ref 1], σ, ce, sl)) (by decide +kernel) ?_ (fun m_ x_ Q_ k_ => ⟨trivial, k_⟩)
  refine w_R.at (row := (.iadd, 1, 0, 0, 0)) (c' := (1214, lw_L m, [.int (Int32.ofNat (5 * m) + 1), .retAddr 0, .ref 1], σ, ce, sl)) (by decide +kernel) ?_ (fun m_ x_ Q_ k_ => ⟨trivial, k_⟩)
  refine w_R.at (row := (.iaload, 1, 0, 0, 0)) (c' := (1215, lw_L m, [.int (xs (Int32.ofNat (5 * m) + 1).toNatClampNeg), .ref 1], σ, ce, sl)) (by decide +kernel) ?_ (fun m_ x_ Q_ k_ => ⟨⟨rfl, lw_in (k := 1) hm hL (by decide)⟩, k_⟩)
  refine w_R.at (row := (.aload_n 0, 1, 0, 0, 0)) (c' := (1216, lw_L m, [.retAddr 0, .int (xs (Int32.ofNat (5 * m) + 1).toNatClampNeg), .ref 1], σ, ce, sl)) (by decide +kernel) ?_ (fun m_ x_ Q_ k_ => ⟨rfl, k_⟩)
  refine w_R.at (row := (.iload 4, 2, 0, 0, 0)) (c' := (1218, lw_L m, [.int (Int32.ofNat (5 * m)), .retAddr 0, .int (xs (Int32.ofNat (5 * m) + 1).toNatClampNeg), .ref 1], σ, ce, sl)) (by decide +kernel) ?_ (fun m_ x_ Q_ k_ => ⟨trivial, k_⟩)
  refine w_R.at (row := (.iconst 2, 1, 0, 0, 0)) (c' := (1219, lw_L m, [.int 2, .int (Int32.ofNat (5 * m)), .retAddr 0, .int (xs (Int32.ofNat (5 * m) + 1).toNatClampNeg), .ref 1], σ, ce, sl)) (by decide +kernel) ?_ (fun m_ x_ Q_ k_ => ⟨trivial, k_⟩)
  refine w_R.at (row := (.iadd, 1, 0, 0, 0)) (c' := (1220, lw_L m, [.int (Int32.ofNat (5 * m) + 2), .retAddr 0, .int (xs (Int32.ofNat (5 * m) + 1).toNatClampNeg), .ref 1], σ, ce, sl)) (by decide +kernel) ?_ (fun m_ x_ Q_ k_ => ⟨trivial, k_⟩)
  refine w_R.at (row := (.iaload, 1, 0, 0, 0)) (c' := (1221, lw_L m, [.int (xs (Int32.ofNat (5 * m) + 2).toNatClampNeg), .int (xs (Int32.ofNat (5 * m) + 1).toNatClampNeg), .ref 1], σ, ce, sl)) (by decide +kernel) ?_ (fun m_ x_ Q_ k_ => ⟨⟨rfl, lw_in (k := 2) hm hL (by decide)⟩, k_⟩)
  refine w_R.callV (i := 149) (len := 3) (pl := 60) (na := 2) (ce' := ce) (sl' := sl) (v := some (.int v)) (σ' := σ1) (as := [.ref 1, .int (xs (Int32.ofNat (5 * m) + 1).toNatClampNeg), .int (xs (Int32.ofNat (5 * m) + 2).toNatClampNeg)]) (rest := []) h1 ?_ (by decide +kernel) rfl rfl rfl rfl sh_1 rfl rfl (Nat.ble_eq_true_of_le (show ce ≤ 601024 by omega)) (Nat.ble_eq_true_of_le (show sl ≤ 7293034 by omega))
  show w_R xs Ln 169 (1224, lw_L m, [.int v], σ1, ce, sl) Q
  refine w_R.at (row := (.aload_n 2, 1, 0, 0, 0)) (c' := (1225, lw_L m, [.ref 199, .int v], σ1, ce, sl)) (by decide +kernel) ?_ (fun m_ x_ Q_ k_ => ⟨trivial, k_⟩)
  refine w_R.at (row := (.aload_n 0, 1, 0, 0, 0)) (c' := (1226, lw_L m, [.retAddr 0, .ref 199, .int v], σ1, ce, sl)) (by decide +kernel) ?_ (fun m_ x_ Q_ k_ => ⟨rfl, k_⟩)
  refine w_R.at (row := (.iload 4, 2, 0, 0, 0)) (c' := (1228, lw_L m, [.int (Int32.ofNat (5 * m)), .retAddr 0, .ref 199, .int v], σ1, ce, sl)) (by decide +kernel) ?_ (fun m_ x_ Q_ k_ => ⟨trivial, k_⟩)
  refine w_R.at (row := (.iconst 1, 1, 0, 0, 0)) (c' := (1229, lw_L m, [.int 1, .int (Int32.ofNat (5 * m)), .retAddr 0, .ref 199, .int v], σ1, ce, sl)) (by decide +kernel) ?_ (fun m_ x_ Q_ k_ => ⟨trivial, k_⟩)
  refine w_R.at (row := (.iadd, 1, 0, 0, 0)) (c' := (1230, lw_L m, [.int (Int32.ofNat (5 * m) + 1), .retAddr 0, .ref 199, .int v], σ1, ce, sl)) (by decide +kernel) ?_ (fun m_ x_ Q_ k_ => ⟨trivial, k_⟩)
  refine w_R.at (row := (.iaload, 1, 0, 0, 0)) (c' := (1231, lw_L m, [.int (xs (Int32.ofNat (5 * m) + 1).toNatClampNeg), .ref 199, .int v], σ1, ce, sl)) (by decide +kernel) ?_ (fun m_ x_ Q_ k_ => ⟨⟨rfl, lw_in (k := 1) hm hL (by decide)⟩, k_⟩)
  refine w_R.at (row := (.aload_n 0, 1, 0, 0, 0)) (c' := (1232, lw_L m, [.retAddr 0, .int (xs (Int32.ofNat (5 * m) + 1).toNatClampNeg), .ref 199, .int v], σ1, ce, sl)) (by decide +kernel) ?_ (fun m_ x_ Q_ k_ => ⟨rfl, k_⟩)
  refine w_R.at (row := (.iload 4, 2, 0, 0, 0)) (c' := (1234, lw_L m, [.int (Int32.ofNat (5 * m)), .retAddr 0, .int (xs (Int32.ofNat (5 * m) + 1).toNatClampNeg), .ref 199, .int v], σ1, ce, sl)) (by decide +kernel) ?_ (fun m_ x_ Q_ k_ => ⟨trivial, k_⟩)
  refine w_R.at (row := (.iconst 2, 1, 0, 0, 0)) (c' := (1235, lw_L m, [.int 2, .int (Int32.ofNat (5 * m)), .retAddr 0, .int (xs (Int32.ofNat (5 * m) + 1).toNatClampNeg), .ref 199, .int v], σ1, ce, sl)) (by decide +kernel) ?_ (fun m_ x_ Q_ k_ => ⟨trivial, k_⟩)
  refine w_R.at (row := (.iadd, 1, 0, 0, 0)) (c' := (1236, lw_L m, [.int (Int32.ofNat (5 * m) + 2), .retAddr 0, .int (xs (Int32.ofNat (5 * m) + 1).toNatClampNeg), .ref 199, .int v], σ1, ce, sl)) (by decide +kernel) ?_ (fun m_ x_ Q_ k_ => ⟨trivial, k_⟩)
  refine w_R.at (row := (.iaload, 1, 0, 0, 0)) (c' := (1237, lw_L m, [.int (xs (Int32.ofNat (5 * m) + 2).toNatClampNeg), .int (xs (Int32.ofNat (5 * m) + 1).toNatClampNeg), .ref 199, .int v], σ1, ce, sl)) (by decide +kernel) ?_ (fun m_ x_ Q_ k_ => ⟨⟨rfl, lw_in (k := 2) hm hL (by decide)⟩, k_⟩)
  refine w_R.callV (i := 152) (len := 3) (pl := 61) (na := 2) (ce' := ce) (sl' := sl) (v := some (.int v)) (σ' := σ2) (as := [.ref 199, .int (xs (Int32.ofNat (5 * m) + 1).toNatClampNeg), .int (xs (Int32.ofNat (5 * m) + 2).toNatClampNeg)]) (rest := [.int v]) h2 ?_ (by decide +kernel) rfl rfl rfl rfl sh_199 rfl rfl (Nat.ble_eq_true_of_le (show ce ≤ 601024 by omega)) (Nat.ble_eq_true_of_le (show sl ≤ 7293034 by omega))
  show w_R xs Ln 169 (1240, lw_L m, [.int v, .int v], σ2, ce, sl) Q
  refine w_R.at (row := (.if_icmp .eq 103, 3, 0, 0, 0)) (c' := (i_br .eq v v 1343 1243, lw_L m, [], σ2, ce, sl)) (by decide +kernel) ?_ (fun m_ x_ Q_ k_ => ⟨trivial, k_⟩)
  exact w_R.br_eq (fun _ => hk σ2 ce sl h3 (by omega) (by omega)) (fun hne => absurd rfl hne)
set_option maxRecDepth 20000 in
theorem k_case25 (h : ∀ a0 a1 a2, lw_ok xs Ln Rel 26 160 [.int a0, .int a1, .int a2]) : lw_case xs Ln Rel 1245 := by
  intro m σ ce sl Q hR hm hL hce hsl hk
  obtain ⟨v, σ1, σ2, h1, h2, h3⟩ := h (xs (Int32.ofNat (5 * m) + 1).toNatClampNeg) (xs (Int32.ofNat (5 * m) + 2).toNatClampNeg) (xs (Int32.ofNat (5 * m) + 3).toNatClampNeg) m σ hR (by omega)
  refine w_R.at (row := (.aload_n 1, 1, 0, 0, 0)) (c' := (1246, lw_L m, [.ref 1], σ, ce, sl)) (by decide +kernel) ?_ (fun m_ x_ Q_ k_ => ⟨trivial, k_⟩)
  refine w_R.at (row := (.aload_n 0, 1, 0, 0, 0)) (c' := (1247, lw_L m, [.retAddr 0, .ref 1], σ, ce, sl)) (by decide +kernel) ?_ (fun m_ x_ Q_ k_ => ⟨rfl, k_⟩)
  refine w_R.at (row := (.iload 4, 2, 0, 0, 0)) (c' := (1249, lw_L m, [.int (Int32.ofNat (5 * m)), .retAddr 0, .ref 1], σ, ce, sl)) (by decide +kernel) ?_ (fun m_ x_ Q_ k_ => ⟨trivial, k_⟩)
  refine w_R.at (row := (.iconst 1, 1, 0, 0, 0)) (c' := (1250, lw_L m, [.int 1, .int (Int32.ofNat (5 * m)), .retAddr 0, .ref 1], σ, ce, sl)) (by decide +kernel) ?_ (fun m_ x_ Q_ k_ => ⟨trivial, k_⟩)
  refine w_R.at (row := (.iadd, 1, 0, 0, 0)) (c' := (1251, lw_L m, [.int (Int32.ofNat (5 * m) + 1), .retAddr 0, .ref 1], σ, ce, sl)) (by decide +kernel) ?_ (fun m_ x_ Q_ k_ => ⟨trivial, k_⟩)
  refine w_R.at (row := (.iaload, 1, 0, 0, 0)) (c' := (1252, lw_L m, [.int (xs (Int32.ofNat (5 * m) + 1).toNatClampNeg), .ref 1], σ, ce, sl)) (by decide +kernel) ?_ (fun m_ x_ Q_ k_ => ⟨⟨rfl, lw_in (k := 1) hm hL (by decide)⟩, k_⟩)
  refine w_R.at (row := (.aload_n 0, 1, 0, 0, 0)) (c' := (1253, lw_L m, [.retAddr 0, .int (xs (Int32.ofNat (5 * m) + 1).toNatClampNeg), .ref 1], σ, ce, sl)) (by decide +kernel) ?_ (fun m_ x_ Q_ k_ => ⟨rfl, k_⟩)
  refine w_R.at (row := (.iload 4, 2, 0, 0, 0)) (c' := (1255, lw_L m, [.int (Int32.ofNat (5 * m)), .retAddr 0, .int (xs (Int32.ofNat (5 * m) + 1).toNatClampNeg), .ref 1], σ, ce, sl)) (by decide +kernel) ?_ (fun m_ x_ Q_ k_ => ⟨trivial, k_⟩)
  refine w_R.at (row := (.iconst 2, 1, 0, 0, 0)) (c' := (1256, lw_L m, [.int 2, .int (Int32.ofNat (5 * m)), .retAddr 0, .int (xs (Int32.ofNat (5 * m) + 1).toNatClampNeg), .ref 1], σ, ce, sl)) (by decide +kernel) ?_ (fun m_ x_ Q_ k_ => ⟨trivial, k_⟩)
  refine w_R.at (row := (.iadd, 1, 0, 0, 0)) (c' := (1257, lw_L m, [.int (Int32.ofNat (5 * m) + 2), .retAddr 0, .int (xs (Int32.ofNat (5 * m) + 1).toNatClampNeg), .ref 1], σ, ce, sl)) (by decide +kernel) ?_ (fun m_ x_ Q_ k_ => ⟨trivial, k_⟩)
  refine w_R.at (row := (.iaload, 1, 0, 0, 0)) (c' := (1258, lw_L m, [.int (xs (Int32.ofNat (5 * m) + 2).toNatClampNeg), .int (xs (Int32.ofNat (5 * m) + 1).toNatClampNeg), .ref 1], σ, ce, sl)) (by decide +kernel) ?_ (fun m_ x_ Q_ k_ => ⟨⟨rfl, lw_in (k := 2) hm hL (by decide)⟩, k_⟩)
  refine w_R.at (row := (.aload_n 0, 1, 0, 0, 0)) (c' := (1259, lw_L m, [.retAddr 0, .int (xs (Int32.ofNat (5 * m) + 2).toNatClampNeg), .int (xs (Int32.ofNat (5 * m) + 1).toNatClampNeg), .ref 1], σ, ce, sl)) (by decide +kernel) ?_ (fun m_ x_ Q_ k_ => ⟨rfl, k_⟩)
  refine w_R.at (row := (.iload 4, 2, 0, 0, 0)) (c' := (1261, lw_L m, [.int (Int32.ofNat (5 * m)), .retAddr 0, .int (xs (Int32.ofNat (5 * m) + 2).toNatClampNeg), .int (xs (Int32.ofNat (5 * m) + 1).toNatClampNeg), .ref 1], σ, ce, sl)) (by decide +kernel) ?_ (fun m_ x_ Q_ k_ => ⟨trivial, k_⟩)
  refine w_R.at (row := (.iconst 3, 1, 0, 0, 0)) (c' := (1262, lw_L m, [.int 3, .int (Int32.ofNat (5 * m)), .retAddr 0, .int (xs (Int32.ofNat (5 * m) + 2).toNatClampNeg), .int (xs (Int32.ofNat (5 * m) + 1).toNatClampNeg), .ref 1], σ, ce, sl)) (by decide +kernel) ?_ (fun m_ x_ Q_ k_ => ⟨trivial, k_⟩)
  refine w_R.at (row := (.iadd, 1, 0, 0, 0)) (c' := (1263, lw_L m, [.int (Int32.ofNat (5 * m) + 3), .retAddr 0, .int (xs (Int32.ofNat (5 * m) + 2).toNatClampNeg), .int (xs (Int32.ofNat (5 * m) + 1).toNatClampNeg), .ref 1], σ, ce, sl)) (by decide +kernel) ?_ (fun m_ x_ Q_ k_ => ⟨trivial, k_⟩)
  refine w_R.at (row := (.iaload, 1, 0, 0, 0)) (c' := (1264, lw_L m, [.int (xs (Int32.ofNat (5 * m) + 3).toNatClampNeg), .int (xs (Int32.ofNat (5 * m) + 2).toNatClampNeg), .int (xs (Int32.ofNat (5 * m) + 1).toNatClampNeg), .ref 1], σ, ce, sl)) (by decide +kernel) ?_ (fun m_ x_ Q_ k_ => ⟨⟨rfl, lw_in (k := 3) hm hL (by decide)⟩, k_⟩)
  refine w_R.callV (i := 153) (len := 3) (pl := 62) (na := 3) (ce' := ce) (sl' := sl) (v := some (.int v)) (σ' := σ1) (as := [.ref 1, .int (xs (Int32.ofNat (5 * m) + 1).toNatClampNeg), .int (xs (Int32.ofNat (5 * m) + 2).toNatClampNeg), .int (xs (Int32.ofNat (5 * m) + 3).toNatClampNeg)]) (rest := []) h1 ?_ (by decide +kernel) rfl rfl rfl rfl sh_1 rfl rfl (Nat.ble_eq_true_of_le (show ce ≤ 601024 by omega)) (Nat.ble_eq_true_of_le (show sl ≤ 7293034 by omega))
  show w_R xs Ln 169 (1267, lw_L m, [.int v], σ1, ce, sl) Q
  refine w_R.at (row := (.aload_n 2, 1, 0, 0, 0)) (c' := (1268, lw_L m, [.ref 199, .int v], σ1, ce, sl)) (by decide +kernel) ?_ (fun m_ x_ Q_ k_ => ⟨trivial, k_⟩)
  refine w_R.at (row := (.aload_n 0, 1, 0, 0, 0)) (c' := (1269, lw_L m, [.retAddr 0, .ref 199, .int v], σ1, ce, sl)) (by decide +kernel) ?_ (fun m_ x_ Q_ k_ => ⟨rfl, k_⟩)
  refine w_R.at (row := (.iload 4, 2, 0, 0, 0)) (c' := (1271, lw_L m, [.int (Int32.ofNat (5 * m)), .retAddr 0, .ref 199, .int v], σ1, ce, sl)) (by decide +kernel) ?_ (fun m_ x_ Q_ k_ => ⟨trivial, k_⟩)
  refine w_R.at (row := (.iconst 1, 1, 0, 0, 0)) (c' := (1272, lw_L m, [.int 1, .int (Int32.ofNat (5 * m)), .retAddr 0, .ref 199, .int v], σ1, ce, sl)) (by decide +kernel) ?_ (fun m_ x_ Q_ k_ => ⟨trivial, k_⟩)
  refine w_R.at (row := (.iadd, 1, 0, 0, 0)) (c' := (1273, lw_L m, [.int (Int32.ofNat (5 * m) + 1), .retAddr 0, .ref 199, .int v], σ1, ce, sl)) (by decide +kernel) ?_ (fun m_ x_ Q_ k_ => ⟨trivial, k_⟩)
  refine w_R.at (row := (.iaload, 1, 0, 0, 0)) (c' := (1274, lw_L m, [.int (xs (Int32.ofNat (5 * m) + 1).toNatClampNeg), .ref 199, .int v], σ1, ce, sl)) (by decide +kernel) ?_ (fun m_ x_ Q_ k_ => ⟨⟨rfl, lw_in (k := 1) hm hL (by decide)⟩, k_⟩)
  refine w_R.at (row := (.aload_n 0, 1, 0, 0, 0)) (c' := (1275, lw_L m, [.retAddr 0, .int (xs (Int32.ofNat (5 * m) + 1).toNatClampNeg), .ref 199, .int v], σ1, ce, sl)) (by decide +kernel) ?_ (fun m_ x_ Q_ k_ => ⟨rfl, k_⟩)
  refine w_R.at (row := (.iload 4, 2, 0, 0, 0)) (c' := (1277, lw_L m, [.int (Int32.ofNat (5 * m)), .retAddr 0, .int (xs (Int32.ofNat (5 * m) + 1).toNatClampNeg), .ref 199, .int v], σ1, ce, sl)) (by decide +kernel) ?_ (fun m_ x_ Q_ k_ => ⟨trivial, k_⟩)
  refine w_R.at (row := (.iconst 2, 1, 0, 0, 0)) (c' := (1278, lw_L m, [.int 2, .int (Int32.ofNat (5 * m)), .retAddr 0, .int (xs (Int32.ofNat (5 * m) + 1).toNatClampNeg), .ref 199, .int v], σ1, ce, sl)) (by decide +kernel) ?_ (fun m_ x_ Q_ k_ => ⟨trivial, k_⟩)
  refine w_R.at (row := (.iadd, 1, 0, 0, 0)) (c' := (1279, lw_L m, [.int (Int32.ofNat (5 * m) + 2), .retAddr 0, .int (xs (Int32.ofNat (5 * m) + 1).toNatClampNeg), .ref 199, .int v], σ1, ce, sl)) (by decide +kernel) ?_ (fun m_ x_ Q_ k_ => ⟨trivial, k_⟩)
  refine w_R.at (row := (.iaload, 1, 0, 0, 0)) (c' := (1280, lw_L m, [.int (xs (Int32.ofNat (5 * m) + 2).toNatClampNeg), .int (xs (Int32.ofNat (5 * m) + 1).toNatClampNeg), .ref 199, .int v], σ1, ce, sl)) (by decide +kernel) ?_ (fun m_ x_ Q_ k_ => ⟨⟨rfl, lw_in (k := 2) hm hL (by decide)⟩, k_⟩)
  refine w_R.at (row := (.aload_n 0, 1, 0, 0, 0)) (c' := (1281, lw_L m, [.retAddr 0, .int (xs (Int32.ofNat (5 * m) + 2).toNatClampNeg), .int (xs (Int32.ofNat (5 * m) + 1).toNatClampNeg), .ref 199, .int v], σ1, ce, sl)) (by decide +kernel) ?_ (fun m_ x_ Q_ k_ => ⟨rfl, k_⟩)
  refine w_R.at (row := (.iload 4, 2, 0, 0, 0)) (c' := (1283, lw_L m, [.int (Int32.ofNat (5 * m)), .retAddr 0, .int (xs (Int32.ofNat (5 * m) + 2).toNatClampNeg), .int (xs (Int32.ofNat (5 * m) + 1).toNatClampNeg), .ref 199, .int v], σ1, ce, sl)) (by decide +kernel) ?_ (fun m_ x_ Q_ k_ => ⟨trivial, k_⟩)
  refine w_R.at (row := (.iconst 3, 1, 0, 0, 0)) (c' := (1284, lw_L m, [.int 3, .int (Int32.ofNat (5 * m)), .retAddr 0, .int (xs (Int32.ofNat (5 * m) + 2).toNatClampNeg), .int (xs (Int32.ofNat (5 * m) + 1).toNatClampNeg), .ref 199, .int v], σ1, ce, sl)) (by decide +kernel) ?_ (fun m_ x_ Q_ k_ => ⟨trivial, k_⟩)
  refine w_R.at (row := (.iadd, 1, 0, 0, 0)) (c' := (1285, lw_L m, [.int (Int32.ofNat (5 * m) + 3), .retAddr 0, .int (xs (Int32.ofNat (5 * m) + 2).toNatClampNeg), .int (xs (Int32.ofNat (5 * m) + 1).toNatClampNeg), .ref 199, .int v], σ1, ce, sl)) (by decide +kernel) ?_ (fun m_ x_ Q_ k_ => ⟨trivial, k_⟩)
  refine w_R.at (row := (.iaload, 1, 0, 0, 0)) (c' := (1286, lw_L m, [.int (xs (Int32.ofNat (5 * m) + 3).toNatClampNeg), .int (xs (Int32.ofNat (5 * m) + 2).toNatClampNeg), .int (xs (Int32.ofNat (5 * m) + 1).toNatClampNeg), .ref 199, .int v], σ1, ce, sl)) (by decide +kernel) ?_ (fun m_ x_ Q_ k_ => ⟨⟨rfl, lw_in (k := 3) hm hL (by decide)⟩, k_⟩)
  refine w_R.callV (i := 156) (len := 3) (pl := 63) (na := 3) (ce' := ce) (sl' := sl) (v := some (.int v)) (σ' := σ2) (as := [.ref 199, .int (xs (Int32.ofNat (5 * m) + 1).toNatClampNeg), .int (xs (Int32.ofNat (5 * m) + 2).toNatClampNeg), .int (xs (Int32.ofNat (5 * m) + 3).toNatClampNeg)]) (rest := [.int v]) h2 ?_ (by decide +kernel) rfl rfl rfl rfl sh_199 rfl rfl (Nat.ble_eq_true_of_le (show ce ≤ 601024 by omega)) (Nat.ble_eq_true_of_le (show sl ≤ 7293034 by omega))
  show w_R xs Ln 169 (1289, lw_L m, [.int v, .int v], σ2, ce, sl) Q
  refine w_R.at (row := (.if_icmp .eq 54, 3, 0, 0, 0)) (c' := (i_br .eq v v 1343 1292, lw_L m, [], σ2, ce, sl)) (by decide +kernel) ?_ (fun m_ x_ Q_ k_ => ⟨trivial, k_⟩)
  exact w_R.br_eq (fun _ => hk σ2 ce sl h3 (by omega) (by omega)) (fun hne => absurd rfl hne)
set_option maxRecDepth 20000 in
theorem k_case26 (h : ∀ a0 a1 a2, lw_ok xs Ln Rel 27 161 [.int a0, .int a1, .int a2]) : lw_case xs Ln Rel 1294 := by
  intro m σ ce sl Q hR hm hL hce hsl hk
  obtain ⟨v, σ1, σ2, h1, h2, h3⟩ := h (xs (Int32.ofNat (5 * m) + 1).toNatClampNeg) (xs (Int32.ofNat (5 * m) + 2).toNatClampNeg) (xs (Int32.ofNat (5 * m) + 3).toNatClampNeg) m σ hR (by omega)
  refine w_R.at (row := (.aload_n 1, 1, 0, 0, 0)) (c' := (1295, lw_L m, [.ref 1], σ, ce, sl)) (by decide +kernel) ?_ (fun m_ x_ Q_ k_ => ⟨trivial, k_⟩)
  refine w_R.at (row := (.aload_n 0, 1, 0, 0, 0)) (c' := (1296, lw_L m, [.retAddr 0, .ref 1], σ, ce, sl)) (by decide +kernel) ?_ (fun m_ x_ Q_ k_ => ⟨rfl, k_⟩)
  refine w_R.at (row := (.iload 4, 2, 0, 0, 0)) (c' := (1298, lw_L m, [.int (Int32.ofNat (5 * m)), .retAddr 0, .ref 1], σ, ce, sl)) (by decide +kernel) ?_ (fun m_ x_ Q_ k_ => ⟨trivial, k_⟩)
  refine w_R.at (row := (.iconst 1, 1, 0, 0, 0)) (c' := (1299, lw_L m, [.int 1, .int (Int32.ofNat (5 * m)), .retAddr 0, .ref 1], σ, ce, sl)) (by decide +kernel) ?_ (fun m_ x_ Q_ k_ => ⟨trivial, k_⟩)
  refine w_R.at (row := (.iadd, 1, 0, 0, 0)) (c' := (1300, lw_L m, [.int (Int32.ofNat (5 * m) + 1), .retAddr 0, .ref 1], σ, ce, sl)) (by decide +kernel) ?_ (fun m_ x_ Q_ k_ => ⟨trivial, k_⟩)
  refine w_R.at (row := (.iaload, 1, 0, 0, 0)) (c' := (1301, lw_L m, [.int (xs (Int32.ofNat (5 * m) + 1).toNatClampNeg), .ref 1], σ, ce, sl)) (by decide +kernel) ?_ (fun m_ x_ Q_ k_ => ⟨⟨rfl, lw_in (k := 1) hm hL (by decide)⟩, k_⟩)
  refine w_R.at (row := (.aload_n 0, 1, 0, 0, 0)) (c' := (1302, lw_L m, [.retAddr 0, .int (xs (Int32.ofNat (5 * m) + 1).toNatClampNeg), .ref 1], σ, ce, sl)) (by decide +kernel) ?_ (fun m_ x_ Q_ k_ => ⟨rfl, k_⟩)
  refine w_R.at (row := (.iload 4, 2, 0, 0, 0)) (c' := (1304, lw_L m, [.int (Int32.ofNat (5 * m)), .retAddr 0, .int (xs (Int32.ofNat (5 * m) + 1).toNatClampNeg), .ref 1], σ, ce, sl)) (by decide +kernel) ?_ (fun m_ x_ Q_ k_ => ⟨trivial, k_⟩)
  refine w_R.at (row := (.iconst 2, 1, 0, 0, 0)) (c' := (1305, lw_L m, [.int 2, .int (Int32.ofNat (5 * m)), .retAddr 0, .int (xs (Int32.ofNat (5 * m) + 1).toNatClampNeg), .ref 1], σ, ce, sl)) (by decide +kernel) ?_ (fun m_ x_ Q_ k_ => ⟨trivial, k_⟩)
  refine w_R.at (row := (.iadd, 1, 0, 0, 0)) (c' := (1306, lw_L m, [.int (Int32.ofNat (5 * m) + 2), .retAddr 0, .int (xs (Int32.ofNat (5 * m) + 1).toNatClampNeg), .ref 1], σ, ce, sl)) (by decide +kernel) ?_ (fun m_ x_ Q_ k_ => ⟨trivial, k_⟩)
  refine w_R.at (row := (.iaload, 1, 0, 0, 0)) (c' := (1307, lw_L m, [.int (xs (Int32.ofNat (5 * m) + 2).toNatClampNeg), .int (xs (Int32.ofNat (5 * m) + 1).toNatClampNeg), .ref 1], σ, ce, sl)) (by decide +kernel) ?_ (fun m_ x_ Q_ k_ => ⟨⟨rfl, lw_in (k := 2) hm hL (by decide)⟩, k_⟩)
  refine w_R.at (row := (.aload_n 0, 1, 0, 0, 0)) (c' := (1308, lw_L m, [.retAddr 0, .int (xs (Int32.ofNat (5 * m) + 2).toNatClampNeg), .int (xs (Int32.ofNat (5 * m) + 1).toNatClampNeg), .ref 1], σ, ce, sl)) (by decide +kernel) ?_ (fun m_ x_ Q_ k_ => ⟨rfl, k_⟩)
  refine w_R.at (row := (.iload 4, 2, 0, 0, 0)) (c' := (1310, lw_L m, [.int (Int32.ofNat (5 * m)), .retAddr 0, .int (xs (Int32.ofNat (5 * m) + 2).toNatClampNeg), .int (xs (Int32.ofNat (5 * m) + 1).toNatClampNeg), .ref 1], σ, ce, sl)) (by decide +kernel) ?_ (fun m_ x_ Q_ k_ => ⟨trivial, k_⟩)
  refine w_R.at (row := (.iconst 3, 1, 0, 0, 0)) (c' := (1311, lw_L m, [.int 3, .int (Int32.ofNat (5 * m)), .retAddr 0, .int (xs (Int32.ofNat (5 * m) + 2).toNatClampNeg), .int (xs (Int32.ofNat (5 * m) + 1).toNatClampNeg), .ref 1], σ, ce, sl)) (by decide +kernel) ?_ (fun m_ x_ Q_ k_ => ⟨trivial, k_⟩)
  refine w_R.at (row := (.iadd, 1, 0, 0, 0)) (c' := (1312, lw_L m, [.int (Int32.ofNat (5 * m) + 3), .retAddr 0, .int (xs (Int32.ofNat (5 * m) + 2).toNatClampNeg), .int (xs (Int32.ofNat (5 * m) + 1).toNatClampNeg), .ref 1], σ, ce, sl)) (by decide +kernel) ?_ (fun m_ x_ Q_ k_ => ⟨trivial, k_⟩)
  refine w_R.at (row := (.iaload, 1, 0, 0, 0)) (c' := (1313, lw_L m, [.int (xs (Int32.ofNat (5 * m) + 3).toNatClampNeg), .int (xs (Int32.ofNat (5 * m) + 2).toNatClampNeg), .int (xs (Int32.ofNat (5 * m) + 1).toNatClampNeg), .ref 1], σ, ce, sl)) (by decide +kernel) ?_ (fun m_ x_ Q_ k_ => ⟨⟨rfl, lw_in (k := 3) hm hL (by decide)⟩, k_⟩)
  refine w_R.callV (i := 157) (len := 3) (pl := 64) (na := 3) (ce' := ce) (sl' := sl) (v := some (.int v)) (σ' := σ1) (as := [.ref 1, .int (xs (Int32.ofNat (5 * m) + 1).toNatClampNeg), .int (xs (Int32.ofNat (5 * m) + 2).toNatClampNeg), .int (xs (Int32.ofNat (5 * m) + 3).toNatClampNeg)]) (rest := []) h1 ?_ (by decide +kernel) rfl rfl rfl rfl sh_1 rfl rfl (Nat.ble_eq_true_of_le (show ce ≤ 601024 by omega)) (Nat.ble_eq_true_of_le (show sl ≤ 7293034 by omega))
  show w_R xs Ln 169 (1316, lw_L m, [.int v], σ1, ce, sl) Q
  refine w_R.at (row := (.aload_n 2, 1, 0, 0, 0)) (c' := (1317, lw_L m, [.ref 199, .int v], σ1, ce, sl)) (by decide +kernel) ?_ (fun m_ x_ Q_ k_ => ⟨trivial, k_⟩)
  refine w_R.at (row := (.aload_n 0, 1, 0, 0, 0)) (c' := (1318, lw_L m, [.retAddr 0, .ref 199, .int v], σ1, ce, sl)) (by decide +kernel) ?_ (fun m_ x_ Q_ k_ => ⟨rfl, k_⟩)
  refine w_R.at (row := (.iload 4, 2, 0, 0, 0)) (c' := (1320, lw_L m, [.int (Int32.ofNat (5 * m)), .retAddr 0, .ref 199, .int v], σ1, ce, sl)) (by decide +kernel) ?_ (fun m_ x_ Q_ k_ => ⟨trivial, k_⟩)
  refine w_R.at (row := (.iconst 1, 1, 0, 0, 0)) (c' := (1321, lw_L m, [.int 1, .int (Int32.ofNat (5 * m)), .retAddr 0, .ref 199, .int v], σ1, ce, sl)) (by decide +kernel) ?_ (fun m_ x_ Q_ k_ => ⟨trivial, k_⟩)
  refine w_R.at (row := (.iadd, 1, 0, 0, 0)) (c' := (1322, lw_L m, [.int (Int32.ofNat (5 * m) + 1), .retAddr 0, .ref 199, .int v], σ1, ce, sl)) (by decide +kernel) ?_ (fun m_ x_ Q_ k_ => ⟨trivial, k_⟩)
  refine w_R.at (row := (.iaload, 1, 0, 0, 0)) (c' := (1323, lw_L m, [.int (xs (Int32.ofNat (5 * m) + 1).toNatClampNeg), .ref 199, .int v], σ1, ce, sl)) (by decide +kernel) ?_ (fun m_ x_ Q_ k_ => ⟨⟨rfl, lw_in (k := 1) hm hL (by decide)⟩, k_⟩)
  refine w_R.at (row := (.aload_n 0, 1, 0, 0, 0)) (c' := (1324, lw_L m, [.retAddr 0, .int (xs (Int32.ofNat (5 * m) + 1).toNatClampNeg), .ref 199, .int v], σ1, ce, sl)) (by decide +kernel) ?_ (fun m_ x_ Q_ k_ => ⟨rfl, k_⟩)
  refine w_R.at (row := (.iload 4, 2, 0, 0, 0)) (c' := (1326, lw_L m, [.int (Int32.ofNat (5 * m)), .retAddr 0, .int (xs (Int32.ofNat (5 * m) + 1).toNatClampNeg), .ref 199, .int v], σ1, ce, sl)) (by decide +kernel) ?_ (fun m_ x_ Q_ k_ => ⟨trivial, k_⟩)
  refine w_R.at (row := (.iconst 2, 1, 0, 0, 0)) (c' := (1327, lw_L m, [.int 2, .int (Int32.ofNat (5 * m)), .retAddr 0, .int (xs (Int32.ofNat (5 * m) + 1).toNatClampNeg), .ref 199, .int v], σ1, ce, sl)) (by decide +kernel) ?_ (fun m_ x_ Q_ k_ => ⟨trivial, k_⟩)
  refine w_R.at (row := (.iadd, 1, 0, 0, 0)) (c' := (1328, lw_L m, [.int (Int32.ofNat (5 * m) + 2), .retAddr 0, .int (xs (Int32.ofNat (5 * m) + 1).toNatClampNeg), .ref 199, .int v], σ1, ce, sl)) (by decide +kernel) ?_ (fun m_ x_ Q_ k_ => ⟨trivial, k_⟩)
  refine w_R.at (row := (.iaload, 1, 0, 0, 0)) (c' := (1329, lw_L m, [.int (xs (Int32.ofNat (5 * m) + 2).toNatClampNeg), .int (xs (Int32.ofNat (5 * m) + 1).toNatClampNeg), .ref 199, .int v], σ1, ce, sl)) (by decide +kernel) ?_ (fun m_ x_ Q_ k_ => ⟨⟨rfl, lw_in (k := 2) hm hL (by decide)⟩, k_⟩)
  refine w_R.at (row := (.aload_n 0, 1, 0, 0, 0)) (c' := (1330, lw_L m, [.retAddr 0, .int (xs (Int32.ofNat (5 * m) + 2).toNatClampNeg), .int (xs (Int32.ofNat (5 * m) + 1).toNatClampNeg), .ref 199, .int v], σ1, ce, sl)) (by decide +kernel) ?_ (fun m_ x_ Q_ k_ => ⟨rfl, k_⟩)
  refine w_R.at (row := (.iload 4, 2, 0, 0, 0)) (c' := (1332, lw_L m, [.int (Int32.ofNat (5 * m)), .retAddr 0, .int (xs (Int32.ofNat (5 * m) + 2).toNatClampNeg), .int (xs (Int32.ofNat (5 * m) + 1).toNatClampNeg), .ref 199, .int v], σ1, ce, sl)) (by decide +kernel) ?_ (fun m_ x_ Q_ k_ => ⟨trivial, k_⟩)
  refine w_R.at (row := (.iconst 3, 1, 0, 0, 0)) (c' := (1333, lw_L m, [.int 3, .int (Int32.ofNat (5 * m)), .retAddr 0, .int (xs (Int32.ofNat (5 * m) + 2).toNatClampNeg), .int (xs (Int32.ofNat (5 * m) + 1).toNatClampNeg), .ref 199, .int v], σ1, ce, sl)) (by decide +kernel) ?_ (fun m_ x_ Q_ k_ => ⟨trivial, k_⟩)
  refine w_R.at (row := (.iadd, 1, 0, 0, 0)) (c' := (1334, lw_L m, [.int (Int32.ofNat (5 * m) + 3), .retAddr 0, .int (xs (Int32.ofNat (5 * m) + 2).toNatClampNeg), .int (xs (Int32.ofNat (5 * m) + 1).toNatClampNeg), .ref 199, .int v], σ1, ce, sl)) (by decide +kernel) ?_ (fun m_ x_ Q_ k_ => ⟨trivial, k_⟩)
  refine w_R.at (row := (.iaload, 1, 0, 0, 0)) (c' := (1335, lw_L m, [.int (xs (Int32.ofNat (5 * m) + 3).toNatClampNeg), .int (xs (Int32.ofNat (5 * m) + 2).toNatClampNeg), .int (xs (Int32.ofNat (5 * m) + 1).toNatClampNeg), .ref 199, .int v], σ1, ce, sl)) (by decide +kernel) ?_ (fun m_ x_ Q_ k_ => ⟨⟨rfl, lw_in (k := 3) hm hL (by decide)⟩, k_⟩)
  refine w_R.callV (i := 160) (len := 3) (pl := 65) (na := 3) (ce' := ce) (sl' := sl) (v := some (.int v)) (σ' := σ2) (as := [.ref 199, .int (xs (Int32.ofNat (5 * m) + 1).toNatClampNeg), .int (xs (Int32.ofNat (5 * m) + 2).toNatClampNeg), .int (xs (Int32.ofNat (5 * m) + 3).toNatClampNeg)]) (rest := [.int v]) h2 ?_ (by decide +kernel) rfl rfl rfl rfl sh_199 rfl rfl (Nat.ble_eq_true_of_le (show ce ≤ 601024 by omega)) (Nat.ble_eq_true_of_le (show sl ≤ 7293034 by omega))
  show w_R xs Ln 169 (1338, lw_L m, [.int v, .int v], σ2, ce, sl) Q
  refine w_R.at (row := (.if_icmp .eq 5, 3, 0, 0, 0)) (c' := (i_br .eq v v 1343 1341, lw_L m, [], σ2, ce, sl)) (by decide +kernel) ?_ (fun m_ x_ Q_ k_ => ⟨trivial, k_⟩)
  exact w_R.br_eq (fun _ => hk σ2 ce sl h3 (by omega) (by omega)) (fun hne => absurd rfl hne)
end Cases
end
section
/-! What holds between the class's objects and the reference's arrays, before every step of the law. -/
def g_c (f : Nat → Int32) : Nat → Nat
  | 0 => 0
  | n + 1 => (if 0 < f n then 1 else 0) + g_c f n
section Rel
variable (m : Nat) (I : Nat → Nat → Int32) (J : Nat → Nat → Int64) (Z : Nat → Nat → Bool) (I' : Nat → Nat → Int32) (J' : Nat → Nat → Int64) (Z' : Nat → Nat → Bool)
def g_rec (a q : Nat) : Prop := Z a 0 = Z' 225 q ∧ I a 1 = I' 226 q ∧ I a 2 = I' 227 q ∧ I a 3 = I' 228 q ∧ I a 4 = I' 229 q ∧ I a 5 = I' 230 q ∧ I a 6 = I' 231 q ∧ I a 7 = I' 232 q ∧ I a 8 = I' 233 q ∧ I a 9 = I' 234 q
/-- the call c was taken -/
def g_tk (c : Int32) : Prop := l_in c 16 = true ∧ c.toNatClampNeg % 8 < (I' 224 (c.toNatClampNeg / 8)).toNatClampNeg
def g_lrec (a i : Nat) : Prop := g_tk I' (I' 245 i) ∧ Z (a + 1) 0 = true ∧ I (a + 1) 1 = I' 248 i ∧ I (a + 1) 2 = I' 249 i ∧ I (a + 1) 3 = I' 250 i ∧ I (a + 1) 4 = I' 251 i ∧ I (a + 1) 5 = I' 252 i ∧ I (a + 1) 6 = I' 253 i ∧ I (a + 1) 7 = I' 254 i ∧ I (a + 1) 8 = I' 246 i ∧ I (a + 1) 9 = I' 247 i ∧
  l_in (I' 248 i) 12 = true ∧ l_in (I' 250 i) 16 = true
/-- the letter a of the class is the reference's letter i -/
def g_let (a i : Nat) : Prop := (I a 0 = I' 242 i ∧ I a 1 = I' 243 i ∧ I a 2 = I' 244 i ∧ I a 3 = I' 245 i ∧ I a 4 = I' 246 i) ∧
  ((I' 242 i = 0 ∧ l_in (I' 243 i) 2 = true ∧ I' 244 i = 2 ∧ l_in (I' 245 i) 4 = true ∧ J a 6 = J' 255 i) ∨
   (I' 242 i = 1 ∧ I' 243 i = 2 ∧ l_in (I' 244 i) 2 = true ∧ l_in (I' 245 i) 4 = true ∧ l_in (I' 246 i) (m + 1) = true ∧ J a 6 = J' 255 i) ∨
   (I' 242 i = 2 ∧ l_in (I' 243 i) 3 = true ∧ l_in (I' 244 i) 2 = true ∧ g_lrec I Z I' a i) ∨
   (I' 242 i = 3 ∧ l_in (I' 244 i) 2 = true ∧ l_in (I' 245 i) 16 = true ∧ I a 5 = I' 247 i) ∨
   (I' 242 i = 4 ∧ l_in (I' 243 i) 2 = true ∧ I' 244 i = 2 ∧ g_lrec I Z I' a i) ∨
   (I' 242 i = 5 ∧ (∃ u, u < 6 ∧ I' 244 i = Int32.ofNat (3 + u)) ∧ l_in (I' 245 i) 16 = true ∧ I a 7 = I' 248 i ∧ l_in (I' 248 i) 12 = true) ∨
   (I' 242 i = 6 ∧ l_in (I' 244 i) 2 = true ∧ l_in (I' 245 i) 6 = true ∧ I a 8 = I' 252 i ∧ I a 7 = I' 248 i ∧ I a 9 = I' 253 i ∧ l_in (I' 252 i) 4 = true ∧ l_in (I' 248 i) 12 = true) ∨
   (I' 242 i = 7 ∧ l_in (I' 243 i) 2 = true ∧ l_in (I' 244 i) 2 = true))
def g_R : Prop := (∀ j, j < 12 → I 3 j = I' 201 j ∧ l_in (I 3 j) 4 = true) ∧
  (∀ k, k < 144 → I 5 k = I' 200 k ∧ l_in (I 5 k) 1000 = true) ∧
  (I 2 3 = I' 199 1 ∧ I 2 3 = Int32.ofNat (g_c (I 5) 144) ∧ g_c (I 5) 144 ≤ 30) ∧
  (∀ n, n < 16 → I 9 n = I' 203 n ∧ l_in (I 9 n) 6 = true ∧ (I 9 n = 0 → I 7 n = I' 204 n ∧ I 8 n = I' 205 n) ∧ l_in (I 7 n) 16 = true ∧ l_in (I 8 n) 16 = true) ∧
  (∀ u, u < 6 → I (135 + u) 0 = I' 210 u ∧ I (135 + u) 1 = I' 208 u ∧ I (135 + u) 2 = I' 209 u ∧ I (135 + u) 3 = I' 213 u ∧ I (135 + u) 4 = I' 211 u ∧ I (135 + u) 5 = I' 212 u ∧ I (135 + u) 6 = I' 214 u ∧ l_in (I' 210 u) 4 = true ∧ l_in (I' 208 u) 12 = true ∧ l_in (I' 212 u) 12 = true) ∧
  (∀ r, r < 2 → Z (141 + 29 * r) 0 = !Z' 217 r ∧ I (141 + 29 * r) 1 = I' 216 r ∧ J (141 + 29 * r) 2 = J' 215 r ∧ I (141 + 29 * r) 3 = I' 224 r ∧ l_in (I' 224 r) 9 = true) ∧
  (I' 216 2 = 50) ∧
  (∀ r d, r < 2 → d < 4 → I (142 + 29 * r) d = I' 221 (4 * r + d) ∧ J (146 + 29 * r) d = J' 223 (4 * r + d) ∧ I (147 + 29 * r) d = I' 222 (4 * r + d) ∧ l_in (I' 221 (4 * r + d)) (m + 1) = true) ∧
  (∀ r c, r < 2 → c < 16 → Z (144 + 29 * r) c = Z' 235 (16 * r + c)) ∧
  (∀ c, c < 16 → Z' 235 (32 + c) = false) ∧
  (∀ r c, r < 2 → c < 16 → g_rec I Z I' Z' (148 + 29 * r + c) (16 * r + c)) ∧
  (∀ c, c < 16 → g_rec I Z I' Z' (17 + c) (32 + c)) ∧
  (∀ q, q < 48 → l_in (I' 226 q) 12 = true ∧ l_in (I' 228 q) 16 = true ∧ (Z' 225 q = false → I' 233 q = 0 ∧ I' 234 q = 0)) ∧
  (∀ q c, q < 3 → c < 16 → Z' 225 (16 * q + c) = true → g_tk I' (Int32.ofNat c)) ∧
  (J 13 0 = J' 215 2 ∧ I 13 4 = I' 199 22 ∧ l_in (I 13 4) (m + 1) = true) ∧
  (∀ d, d < 4 → I 15 d = I' 218 d ∧ J 16 d = J' 220 d) ∧
  (∀ r u, r < 2 → u < 6 → Z (164 + 29 * r + u) 0 = Z' 236 (6 * r + u) ∧ (Z (164 + 29 * r + u) 0 = true → Z (164 + 29 * r + u) 1 = Z' 241 (6 * r + u)) ∧ I (164 + 29 * r + u) 2 = I' 238 (6 * r + u) ∧ I (164 + 29 * r + u) 3 = I' 237 (6 * r + u) ∧ I (164 + 29 * r + u) 4 = I' 239 (6 * r + u) ∧ I (164 + 29 * r + u) 5 = I' 240 (6 * r + u) ∧ l_in (I' 238 (6 * r + u)) 12 = true ∧ l_in (I' 237 (6 * r + u)) 4 = true)
end Rel
theorem g_R.dist {m : Nat} {I : Nat → Nat → Int32} {J : Nat → Nat → Int64} {Z : Nat → Nat → Bool} {I' : Nat → Nat → Int32} {J' : Nat → Nat → Int64} {Z' : Nat → Nat → Bool} (h : g_R m I J Z I' J' Z') : ∀ j, j < 12 → I 3 j = I' 201 j ∧ l_in (I 3 j) 4 = true := h.1
theorem g_R.road {m : Nat} {I : Nat → Nat → Int32} {J : Nat → Nat → Int64} {Z : Nat → Nat → Bool} {I' : Nat → Nat → Int32} {J' : Nat → Nat → Int64} {Z' : Nat → Nat → Bool} (h : g_R m I J Z I' J' Z') : ∀ k, k < 144 → I 5 k = I' 200 k ∧ l_in (I 5 k) 1000 = true := h.2.1
theorem g_R.roads {m : Nat} {I : Nat → Nat → Int32} {J : Nat → Nat → Int64} {Z : Nat → Nat → Bool} {I' : Nat → Nat → Int32} {J' : Nat → Nat → Int64} {Z' : Nat → Nat → Bool} (h : g_R m I J Z I' J' Z') : I 2 3 = I' 199 1 ∧ I 2 3 = Int32.ofNat (g_c (I 5) 144) ∧ g_c (I 5) 144 ≤ 30 := h.2.2.1
theorem g_R.card {m : Nat} {I : Nat → Nat → Int32} {J : Nat → Nat → Int64} {Z : Nat → Nat → Bool} {I' : Nat → Nat → Int32} {J' : Nat → Nat → Int64} {Z' : Nat → Nat → Bool} (h : g_R m I J Z I' J' Z') : ∀ n, n < 16 → I 9 n = I' 203 n ∧ l_in (I 9 n) 6 = true ∧ (I 9 n = 0 → I 7 n = I' 204 n ∧ I 8 n = I' 205 n) ∧ l_in (I 7 n) 16 = true ∧ l_in (I 8 n) 16 = true := h.2.2.2.1
theorem g_R.unit {m : Nat} {I : Nat → Nat → Int32} {J : Nat → Nat → Int64} {Z : Nat → Nat → Bool} {I' : Nat → Nat → Int32} {J' : Nat → Nat → Int64} {Z' : Nat → Nat → Bool} (h : g_R m I J Z I' J' Z') : ∀ u, u < 6 → I (135 + u) 0 = I' 210 u ∧ I (135 + u) 1 = I' 208 u ∧ I (135 + u) 2 = I' 209 u ∧ I (135 + u) 3 = I' 213 u ∧ I (135 + u) 4 = I' 211 u ∧ I (135 + u) 5 = I' 212 u ∧ I (135 + u) 6 = I' 214 u ∧ l_in (I' 210 u) 4 = true ∧ l_in (I' 208 u) 12 = true ∧ l_in (I' 212 u) 12 = true := h.2.2.2.2.1
theorem g_R.room {m : Nat} {I : Nat → Nat → Int32} {J : Nat → Nat → Int64} {Z : Nat → Nat → Bool} {I' : Nat → Nat → Int32} {J' : Nat → Nat → Int64} {Z' : Nat → Nat → Bool} (h : g_R m I J Z I' J' Z') : ∀ r, r < 2 → Z (141 + 29 * r) 0 = !Z' 217 r ∧ I (141 + 29 * r) 1 = I' 216 r ∧ J (141 + 29 * r) 2 = J' 215 r ∧ I (141 + 29 * r) 3 = I' 224 r ∧ l_in (I' 224 r) 9 = true := h.2.2.2.2.2.1
theorem g_R.spd {m : Nat} {I : Nat → Nat → Int32} {J : Nat → Nat → Int64} {Z : Nat → Nat → Bool} {I' : Nat → Nat → Int32} {J' : Nat → Nat → Int64} {Z' : Nat → Nat → Bool} (h : g_R m I J Z I' J' Z') : I' 216 2 = 50 := h.2.2.2.2.2.2.1
theorem g_R.grant {m : Nat} {I : Nat → Nat → Int32} {J : Nat → Nat → Int64} {Z : Nat → Nat → Bool} {I' : Nat → Nat → Int32} {J' : Nat → Nat → Int64} {Z' : Nat → Nat → Bool} (h : g_R m I J Z I' J' Z') : ∀ r d, r < 2 → d < 4 → I (142 + 29 * r) d = I' 221 (4 * r + d) ∧ J (146 + 29 * r) d = J' 223 (4 * r + d) ∧ I (147 + 29 * r) d = I' 222 (4 * r + d) ∧ l_in (I' 221 (4 * r + d)) (m + 1) = true := h.2.2.2.2.2.2.2.1
theorem g_R.sure {m : Nat} {I : Nat → Nat → Int32} {J : Nat → Nat → Int64} {Z : Nat → Nat → Bool} {I' : Nat → Nat → Int32} {J' : Nat → Nat → Int64} {Z' : Nat → Nat → Bool} (h : g_R m I J Z I' J' Z') : ∀ r c, r < 2 → c < 16 → Z (144 + 29 * r) c = Z' 235 (16 * r + c) := h.2.2.2.2.2.2.2.2.1
theorem g_R.sure2 {m : Nat} {I : Nat → Nat → Int32} {J : Nat → Nat → Int64} {Z : Nat → Nat → Bool} {I' : Nat → Nat → Int32} {J' : Nat → Nat → Int64} {Z' : Nat → Nat → Bool} (h : g_R m I J Z I' J' Z') : ∀ c, c < 16 → Z' 235 (32 + c) = false := h.2.2.2.2.2.2.2.2.2.1
theorem g_R.recs {m : Nat} {I : Nat → Nat → Int32} {J : Nat → Nat → Int64} {Z : Nat → Nat → Bool} {I' : Nat → Nat → Int32} {J' : Nat → Nat → Int64} {Z' : Nat → Nat → Bool} (h : g_R m I J Z I' J' Z') : ∀ r c, r < 2 → c < 16 → g_rec I Z I' Z' (148 + 29 * r + c) (16 * r + c) := h.2.2.2.2.2.2.2.2.2.2.1
theorem g_R.rrecs {m : Nat} {I : Nat → Nat → Int32} {J : Nat → Nat → Int64} {Z : Nat → Nat → Bool} {I' : Nat → Nat → Int32} {J' : Nat → Nat → Int64} {Z' : Nat → Nat → Bool} (h : g_R m I J Z I' J' Z') : ∀ c, c < 16 → g_rec I Z I' Z' (17 + c) (32 + c) := h.2.2.2.2.2.2.2.2.2.2.2.1
theorem g_R.recin {m : Nat} {I : Nat → Nat → Int32} {J : Nat → Nat → Int64} {Z : Nat → Nat → Bool} {I' : Nat → Nat → Int32} {J' : Nat → Nat → Int64} {Z' : Nat → Nat → Bool} (h : g_R m I J Z I' J' Z') : ∀ q, q < 48 → l_in (I' 226 q) 12 = true ∧ l_in (I' 228 q) 16 = true ∧ (Z' 225 q = false → I' 233 q = 0 ∧ I' 234 q = 0) := h.2.2.2.2.2.2.2.2.2.2.2.2.1
theorem g_R.taken {m : Nat} {I : Nat → Nat → Int32} {J : Nat → Nat → Int64} {Z : Nat → Nat → Bool} {I' : Nat → Nat → Int32} {J' : Nat → Nat → Int64} {Z' : Nat → Nat → Bool} (h : g_R m I J Z I' J' Z') : ∀ q c, q < 3 → c < 16 → Z' 225 (16 * q + c) = true → g_tk I' (Int32.ofNat c) := h.2.2.2.2.2.2.2.2.2.2.2.2.2.1
theorem g_R.ref {m : Nat} {I : Nat → Nat → Int32} {J : Nat → Nat → Int64} {Z : Nat → Nat → Bool} {I' : Nat → Nat → Int32} {J' : Nat → Nat → Int64} {Z' : Nat → Nat → Bool} (h : g_R m I J Z I' J' Z') : J 13 0 = J' 215 2 ∧ I 13 4 = I' 199 22 ∧ l_in (I 13 4) (m + 1) = true := h.2.2.2.2.2.2.2.2.2.2.2.2.2.2.1
theorem g_R.refd {m : Nat} {I : Nat → Nat → Int32} {J : Nat → Nat → Int64} {Z : Nat → Nat → Bool} {I' : Nat → Nat → Int32} {J' : Nat → Nat → Int64} {Z' : Nat → Nat → Bool} (h : g_R m I J Z I' J' Z') : ∀ d, d < 4 → I 15 d = I' 218 d ∧ J 16 d = J' 220 d := h.2.2.2.2.2.2.2.2.2.2.2.2.2.2.2.1
theorem g_R.sight {m : Nat} {I : Nat → Nat → Int32} {J : Nat → Nat → Int64} {Z : Nat → Nat → Bool} {I' : Nat → Nat → Int32} {J' : Nat → Nat → Int64} {Z' : Nat → Nat → Bool} (h : g_R m I J Z I' J' Z') : ∀ r u, r < 2 → u < 6 → Z (164 + 29 * r + u) 0 = Z' 236 (6 * r + u) ∧ (Z (164 + 29 * r + u) 0 = true → Z (164 + 29 * r + u) 1 = Z' 241 (6 * r + u)) ∧ I (164 + 29 * r + u) 2 = I' 238 (6 * r + u) ∧ I (164 + 29 * r + u) 3 = I' 237 (6 * r + u) ∧ I (164 + 29 * r + u) 4 = I' 239 (6 * r + u) ∧ I (164 + 29 * r + u) 5 = I' 240 (6 * r + u) ∧ l_in (I' 238 (6 * r + u)) 12 = true ∧ l_in (I' 237 (6 * r + u)) 4 = true := h.2.2.2.2.2.2.2.2.2.2.2.2.2.2.2.2
/-- places of the letters -/
def g_P (w : Nat → Nat) (rem : Nat) (p : Nat → Nat) (q : Nat) : Prop := (∀ k, k < 49 → w k = 35 + 2 * p k) ∧
  (∀ k, k < 49 → p k < 50) ∧
  (∀ k k', k < 49 → k' < 49 → p k = p k' → k = k') ∧
  (∀ k, k < 49 → p k ≠ q) ∧
  (rem = 35 + 2 * q) ∧
  (q < 50)
theorem g_P.at_ {w : Nat → Nat} {rem : Nat} {p : Nat → Nat} {q : Nat} (h : g_P w rem p q) : ∀ k, k < 49 → w k = 35 + 2 * p k := h.1
theorem g_P.lt {w : Nat → Nat} {rem : Nat} {p : Nat → Nat} {q : Nat} (h : g_P w rem p q) : ∀ k, k < 49 → p k < 50 := h.2.1
theorem g_P.inj {w : Nat → Nat} {rem : Nat} {p : Nat → Nat} {q : Nat} (h : g_P w rem p q) : ∀ k k', k < 49 → k' < 49 → p k = p k' → k = k' := h.2.2.1
theorem g_P.out {w : Nat → Nat} {rem : Nat} {p : Nat → Nat} {q : Nat} (h : g_P w rem p q) : ∀ k, k < 49 → p k ≠ q := h.2.2.2.1
theorem g_P.rm {w : Nat → Nat} {rem : Nat} {p : Nat → Nat} {q : Nat} (h : g_P w rem p q) : rem = 35 + 2 * q := h.2.2.2.2.1
theorem g_P.rl {w : Nat → Nat} {rem : Nat} {p : Nat → Nat} {q : Nat} (h : g_P w rem p q) : q < 50 := h.2.2.2.2.2
/-- the class's view I J Z and the reference's view I' J' Z' belong together, n letters wait at the places p -/
def g_V (m n : Nat) (p : Nat → Nat) (I : Nat → Nat → Int32) (J : Nat → Nat → Int64) (Z : Nat → Nat → Bool) (I' : Nat → Nat → Int32) (J' : Nat → Nat → Int64) (Z' : Nat → Nat → Bool) : Prop :=
  g_R m I J Z I' J' Z' ∧ n ≤ 48 ∧ I 33 1 = Int32.ofNat n ∧ I' 199 44 = Int32.ofNat n ∧ (∀ i, i < 49 → p i < 50) ∧ ∀ i, i < n → g_let m I J Z I' J' (35 + 2 * p i) i
def g_Rel (m : Nat) (σ : s_S) : Prop := ∃ I J Z w rem p q n, σ = (I, J, kR w rem, Z) ∧ g_P w rem p q ∧ g_V m n p I J Z I J Z
theorem g_in {x : Int32} {a b : Nat} (h : l_in x a = true) (hab : a ≤ b) : l_in x b = true := by
  have h := of_decide_eq_true h
  exact decide_eq_true (by omega)
theorem g_V.mono {m n : Nat} {p : Nat → Nat} {I : Nat → Nat → Int32} {J : Nat → Nat → Int64} {Z : Nat → Nat → Bool} {I' : Nat → Nat → Int32} {J' : Nat → Nat → Int64} {Z' : Nat → Nat → Bool} (h : g_V m n p I J Z I' J' Z') : g_V (m + 1) n p I J Z I' J' Z' := by
  obtain ⟨h3, h4, h5, h6, h8, h7⟩ := h
  refine ⟨?_, h4, h5, h6, h8, fun i hi => ?_⟩
  · exact ⟨h3.dist, h3.road, h3.roads, h3.card, h3.unit, h3.room, h3.spd, fun r d hr hd => (by obtain ⟨a, b, c, e⟩ := h3.grant r d hr hd; exact ⟨a, b, c, g_in e (by omega)⟩), h3.sure, h3.sure2, h3.recs, h3.rrecs, h3.recin, h3.taken, (by obtain ⟨a, b, c⟩ := h3.ref; exact ⟨a, b, g_in c (by omega)⟩), h3.refd, h3.sight⟩
  · obtain ⟨a, b⟩ := h7 i hi
    refine ⟨a, ?_⟩
    rcases b with b | b | b | b | b | b | b | b
    · exact Or.inl b
    · obtain ⟨b1, b2, b3, b4, b5, b6⟩ := b
      exact Or.inr (Or.inl ⟨b1, b2, b3, b4, g_in b5 (by omega), b6⟩)
    · exact Or.inr (Or.inr (Or.inl b))
    · exact Or.inr (Or.inr (Or.inr (Or.inl b)))
    · exact Or.inr (Or.inr (Or.inr (Or.inr (Or.inl b))))
    · exact Or.inr (Or.inr (Or.inr (Or.inr (Or.inr (Or.inl b)))))
    · exact Or.inr (Or.inr (Or.inr (Or.inr (Or.inr (Or.inr (Or.inl b))))))
    · exact Or.inr (Or.inr (Or.inr (Or.inr (Or.inr (Or.inr (Or.inr b))))))
theorem g_mono (m : Nat) (σ : s_S) (h : g_Rel m σ) : g_Rel (m + 1) σ := by
  obtain ⟨I, J, Z, w, rem, p, q, n, h1, h2, h3⟩ := h
  exact ⟨I, J, Z, w, rem, p, q, n, h1, h2, h3.mono⟩
/-! the start -/
theorem g_P0 : g_P k_w0 35 (fun k => k + 1) 0 := by
  refine ⟨?_, ?_, ?_, ?_, ?_, ?_⟩
  · exact fun k hk => by show (if k < 49 then 37 + 2 * k else 0) = 35 + 2 * (k + 1); rw [if_pos hk]; omega
  · exact fun k hk => by show k + 1 < 50; omega
  · exact fun k k' _ _ h => by have h : k + 1 = k' + 1 := h; omega
  · exact fun k _ => by show k + 1 ≠ 0; omega
  · exact rfl
  · decide
theorem g_R0 : g_R 0 k_I0 (fun _ _ => 0) k_Z0 k_I0 (fun _ _ => 0) k_Z0 := by
  refine ⟨?_, ?_, ?_, ?_, ?_, ?_, ?_, ?_, ?_, ?_, ?_, ?_, ?_, ?_, ?_, ?_, ?_⟩
  · exact fun j hj => (by decide +kernel : ∀ j : Fin 12, k_I0 3 j = k_I0 201 j ∧ l_in (k_I0 3 j) 4 = true) ⟨j, hj⟩
  · exact fun j hj => (by decide +kernel : ∀ j : Fin 144, k_I0 5 j = k_I0 200 j ∧ l_in (k_I0 5 j) 1000 = true) ⟨j, hj⟩
  · decide +kernel
  · exact fun j hj => (by decide +kernel : ∀ n : Fin 16, k_I0 9 n = k_I0 203 n ∧ l_in (k_I0 9 n) 6 = true ∧ (k_I0 9 n = 0 → k_I0 7 n = k_I0 204 n ∧ k_I0 8 n = k_I0 205 n) ∧ l_in (k_I0 7 n) 16 = true ∧ l_in (k_I0 8 n) 16 = true) ⟨j, hj⟩
  · exact fun j hj => (by decide +kernel : ∀ u : Fin 6, k_I0 (135 + u) 0 = k_I0 210 u ∧ k_I0 (135 + u) 1 = k_I0 208 u ∧ k_I0 (135 + u) 2 = k_I0 209 u ∧ k_I0 (135 + u) 3 = k_I0 213 u ∧ k_I0 (135 + u) 4 = k_I0 211 u ∧ k_I0 (135 + u) 5 = k_I0 212 u ∧ k_I0 (135 + u) 6 = k_I0 214 u ∧ l_in (k_I0 210 u) 4 = true ∧ l_in (k_I0 208 u) 12 = true ∧ l_in (k_I0 212 u) 12 = true) ⟨j, hj⟩
  · exact fun j hj => by
      have h := (by decide +kernel : ∀ r : Fin 2, k_Z0 (141 + 29 * r) 0 = !k_Z0 217 r ∧ k_I0 (141 + 29 * r) 1 = k_I0 216 r ∧ k_I0 (141 + 29 * r) 3 = k_I0 224 r ∧ l_in (k_I0 224 r) 9 = true) ⟨j, hj⟩
      exact ⟨h.1, h.2.1, rfl, h.2.2⟩
  · decide +kernel
  · exact fun r d hr hd => by
      have h := (by decide +kernel : ∀ (r : Fin 2) (d : Fin 4), k_I0 (142 + 29 * r) d = k_I0 221 (4 * r + d) ∧ k_I0 (147 + 29 * r) d = k_I0 222 (4 * r + d) ∧ l_in (k_I0 221 (4 * r + d)) (0 + 1) = true) ⟨r, hr⟩ ⟨d, hd⟩
      exact ⟨h.1, rfl, h.2⟩
  · exact fun r c hr hc => (by decide +kernel : ∀ (r : Fin 2) (c : Fin 16), k_Z0 (144 + 29 * r) c = k_Z0 235 (16 * r + c)) ⟨r, hr⟩ ⟨c, hc⟩
  · exact fun c hc => (by decide +kernel : ∀ (c : Fin 16), k_Z0 235 (32 + c) = false) ⟨c, hc⟩
  · exact fun r c hr hc => (by unfold g_rec; decide +kernel : ∀ (r : Fin 2) (c : Fin 16), g_rec k_I0 k_Z0 k_I0 k_Z0 (148 + 29 * r + c) (16 * r + c)) ⟨r, hr⟩ ⟨c, hc⟩
  · exact fun c hc => (by unfold g_rec; decide +kernel : ∀ (c : Fin 16), g_rec k_I0 k_Z0 k_I0 k_Z0 (17 + c) (32 + c)) ⟨c, hc⟩
  · exact fun q hq => (by decide +kernel : ∀ (q : Fin 48), l_in (k_I0 226 q) 12 = true ∧ l_in (k_I0 228 q) 16 = true ∧ (k_Z0 225 q = false → k_I0 233 q = 0 ∧ k_I0 234 q = 0)) ⟨q, hq⟩
  · exact fun q c hq hc h => by
      have h1 := (by decide +kernel : ∀ (q : Fin 3) (c : Fin 16), k_Z0 225 (16 * q + c) = false) ⟨q, hq⟩ ⟨c, hc⟩
      rw [h1] at h
      cases h
  · refine ⟨rfl, ?_⟩; decide +kernel
  · exact fun d hd => ⟨(by decide +kernel : ∀ (d : Fin 4), k_I0 15 d = k_I0 218 d) ⟨d, hd⟩, rfl⟩
  · exact fun r u hr hu => (by decide +kernel : ∀ (r : Fin 2) (u : Fin 6), k_Z0 (164 + 29 * r + u) 0 = k_Z0 236 (6 * r + u) ∧ (k_Z0 (164 + 29 * r + u) 0 = true → k_Z0 (164 + 29 * r + u) 1 = k_Z0 241 (6 * r + u)) ∧ k_I0 (164 + 29 * r + u) 2 = k_I0 238 (6 * r + u) ∧ k_I0 (164 + 29 * r + u) 3 = k_I0 237 (6 * r + u) ∧ k_I0 (164 + 29 * r + u) 4 = k_I0 239 (6 * r + u) ∧ k_I0 (164 + 29 * r + u) 5 = k_I0 240 (6 * r + u) ∧ l_in (k_I0 238 (6 * r + u)) 12 = true ∧ l_in (k_I0 237 (6 * r + u)) 4 = true) ⟨r, hr⟩ ⟨u, hu⟩
theorem g_0 : g_Rel 0 k_s1 := ⟨k_I0, fun _ _ => 0, k_Z0, k_w0, 35, fun k => k + 1, 0, 0, rfl, g_P0, g_R0, by decide, by decide +kernel, by decide +kernel, g_P0.lt, fun i hi => absurd hi (Nat.not_lt_zero i)⟩
end
section
/-! The two views: what does not count may change. -/
theorem s_upf {α : Type} {f : Nat → Nat → α} {a k b : Nat} {v : α} (h : b ≠ a) : s_up f a k v b = f b := funext fun _ => s_upa h
theorem g_V.R {m n : Nat} {p : Nat → Nat} {I : Nat → Nat → Int32} {J : Nat → Nat → Int64} {Z : Nat → Nat → Bool} {I' : Nat → Nat → Int32} {J' : Nat → Nat → Int64} {Z' : Nat → Nat → Bool} (h : g_V m n p I J Z I' J' Z') : g_R m I J Z I' J' Z' := h.1
theorem g_V.n {m n : Nat} {p : Nat → Nat} {I : Nat → Nat → Int32} {J : Nat → Nat → Int64} {Z : Nat → Nat → Bool} {I' : Nat → Nat → Int32} {J' : Nat → Nat → Int64} {Z' : Nat → Nat → Bool} (h : g_V m n p I J Z I' J' Z') : n ≤ 48 := h.2.1
theorem g_V.c1 {m n : Nat} {p : Nat → Nat} {I : Nat → Nat → Int32} {J : Nat → Nat → Int64} {Z : Nat → Nat → Bool} {I' : Nat → Nat → Int32} {J' : Nat → Nat → Int64} {Z' : Nat → Nat → Bool} (h : g_V m n p I J Z I' J' Z') : I 33 1 = Int32.ofNat n := h.2.2.1
theorem g_V.c2 {m n : Nat} {p : Nat → Nat} {I : Nat → Nat → Int32} {J : Nat → Nat → Int64} {Z : Nat → Nat → Bool} {I' : Nat → Nat → Int32} {J' : Nat → Nat → Int64} {Z' : Nat → Nat → Bool} (h : g_V m n p I J Z I' J' Z') : I' 199 44 = Int32.ofNat n := h.2.2.2.1
theorem g_V.pl {m n : Nat} {p : Nat → Nat} {I : Nat → Nat → Int32} {J : Nat → Nat → Int64} {Z : Nat → Nat → Bool} {I' : Nat → Nat → Int32} {J' : Nat → Nat → Int64} {Z' : Nat → Nat → Bool} (h : g_V m n p I J Z I' J' Z') : ∀ i, i < 49 → p i < 50 := h.2.2.2.2.1
theorem g_V.lets {m n : Nat} {p : Nat → Nat} {I : Nat → Nat → Int32} {J : Nat → Nat → Int64} {Z : Nat → Nat → Bool} {I' : Nat → Nat → Int32} {J' : Nat → Nat → Int64} {Z' : Nat → Nat → Bool} (h : g_V m n p I J Z I' J' Z') : ∀ i, i < n → g_let m I J Z I' J' (35 + 2 * p i) i := h.2.2.2.2.2
theorem g_V.congr {m n : Nat} {p : Nat → Nat} {I : Nat → Nat → Int32} {J : Nat → Nat → Int64} {Z : Nat → Nat → Bool} {I' : Nat → Nat → Int32} {J' : Nat → Nat → Int64} {Z' : Nat → Nat → Bool} (h : g_V m n p I J Z I' J' Z') {A : Nat → Nat → Int32} {B : Nat → Nat → Int64} {C : Nat → Nat → Bool} {A' : Nat → Nat → Int32} {B' : Nat → Nat → Int64} {C' : Nat → Nat → Bool} (ei : ∀ a k, a < 199 → a ≠ 4 → a ≠ 10 → A a k = I a k) (ej : ∀ a k, a < 199 → B a k = J a k) (ez : ∀ a k, a < 199 → C a k = Z a k) (ei' : ∀ a k, 199 ≤ a → a < 256 → a ≠ 202 → a ≠ 206 → a ≠ 207 → a ≠ 219 → ¬ (a = 199 ∧ k = 59) → A' a k = I' a k) (ej' : ∀ a k, 199 ≤ a → a < 256 → B' a k = J' a k) (ez' : ∀ a k, 199 ≤ a → a < 256 → C' a k = Z' a k) : g_V m n p A B C A' B' C' := by
  have e5 : A 5 = I 5 := funext fun k => ei 5 k (by omega) (by omega) (by omega)
  refine ⟨⟨?_, ?_, ?_, ?_, ?_, ?_, ?_, ?_, ?_, ?_, ?_, ?_, ?_, ?_, ?_, ?_, ?_⟩, h.n, ?_, ?_, h.pl, ?_⟩
  · intro j hj; try simp (disch := omega) only [ei, ej, ez, ei', ej', ez', e5]; exact h.R.dist j hj
  · intro j hj; try simp (disch := omega) only [ei, ej, ez, ei', ej', ez', e5]; exact h.R.road j hj
  · try simp (disch := omega) only [ei, ej, ez, ei', ej', ez', e5]; exact h.R.roads 
  · intro j hj; try simp (disch := omega) only [ei, ej, ez, ei', ej', ez', e5]; exact h.R.card j hj
  · intro j hj; try simp (disch := omega) only [ei, ej, ez, ei', ej', ez', e5]; exact h.R.unit j hj
  · intro j hj; try simp (disch := omega) only [ei, ej, ez, ei', ej', ez', e5]; exact h.R.room j hj
  · try simp (disch := omega) only [ei, ej, ez, ei', ej', ez', e5]; exact h.R.spd 
  · intro r d hr hd; try simp (disch := omega) only [ei, ej, ez, ei', ej', ez', e5]; exact h.R.grant r d hr hd
  · intro r c hr hc; try simp (disch := omega) only [ei, ej, ez, ei', ej', ez', e5]; exact h.R.sure r c hr hc
  · intro c hc; try simp (disch := omega) only [ei, ej, ez, ei', ej', ez', e5]; exact h.R.sure2 c hc
  · intro r c hr hc; unfold g_rec; try simp (disch := omega) only [ei, ej, ez, ei', ej', ez', e5]; exact h.R.recs r c hr hc
  · intro c hc; unfold g_rec; try simp (disch := omega) only [ei, ej, ez, ei', ej', ez', e5]; exact h.R.rrecs c hc
  · intro q hq; try simp (disch := omega) only [ei, ej, ez, ei', ej', ez', e5]; exact h.R.recin q hq
  · intro q c hq hc hz; unfold g_tk; simp (disch := omega) only [ei, ej, ez, ei', ej', ez', e5] at hz ⊢; exact h.R.taken q c hq hc hz
  · try simp (disch := omega) only [ei, ej, ez, ei', ej', ez', e5]; exact h.R.ref 
  · intro d hd; try simp (disch := omega) only [ei, ej, ez, ei', ej', ez', e5]; exact h.R.refd d hd
  · intro r u hr hu; try simp (disch := omega) only [ei, ej, ez, ei', ej', ez', e5]; exact h.R.sight r u hr hu
  · try simp (disch := omega) only [ei, ej, ez, ei', ej', ez', e5]; exact h.c1
  · try simp (disch := omega) only [ei, ej, ez, ei', ej', ez', e5]; exact h.c2
  · intro i hi; have hp := h.pl i (by have := h.n; omega); have hl := h.lets i hi; unfold g_let g_lrec g_tk at hl ⊢
    try simp (disch := omega) only [ei, ej, ez, ei', ej', ez', e5]
    exact hl
theorem lw_fin {xs : Nat → Int32} {Ln j j' m n w1rem : Nat} {as : List Value} {σ : s_S} {I1 : Nat → Nat → Int32} {J1 : Nat → Nat → Int64} {Z1 : Nat → Nat → Bool} {I2 : Nat → Nat → Int32} {J2 : Nat → Nat → Int64} {Z2 : Nat → Nat → Bool} {w p : Nat → Nat} {q : Nat} {v v' : Int32}
    (h1 : w_R xs Ln j (0, lv_args 0 (.ref 1 :: as), [], σ, 0, 0) (fun o s => o = .inl (some (.int v)) ∧ s = (I1, J1, kR w w1rem, Z1)))
    (h2 : w_R xs Ln j' (0, lv_args 0 (.ref 199 :: as), [], (I1, J1, kR w w1rem, Z1), 0, 0) (fun o s => o = .inl (some (.int v')) ∧ s = (I2, J2, kR w w1rem, Z2)))
    (hv : v' = v) (hP : g_P w w1rem p q) (hV : g_V (m + 1) n p I1 J1 Z1 I2 J2 Z2) (ki : ∀ a k, a < 199 → I2 a k = I1 a k) (kj : ∀ a k, a < 199 → J2 a k = J1 a k) (kz : ∀ a k, a < 199 → Z2 a k = Z1 a k) :
    ∃ (v : Int32) (σ1 σ2 : s_S), w_R xs Ln j (0, lv_args 0 (.ref 1 :: as), [], σ, 0, 0) (fun o s => o = .inl (some (.int v)) ∧ s = σ1) ∧ w_R xs Ln j' (0, lv_args 0 (.ref 199 :: as), [], σ1, 0, 0) (fun o s => o = .inl (some (.int v)) ∧ s = σ2) ∧ g_Rel (m + 1) σ2 := by
  subst hv
  exact ⟨_, _, _, h1, h2, I2, J2, Z2, w, w1rem, p, q, n, rfl, hP, hV.congr (fun a k h _ _ => ki a k h) kj kz (fun _ _ _ _ _ _ _ _ _ => rfl) (fun _ _ _ _ => rfl) (fun _ _ _ _ => rfl)⟩
theorem g_V.thr {m n : Nat} {p : Nat → Nat} {I : Nat → Nat → Int32} {J : Nat → Nat → Int64} {Z : Nat → Nat → Bool} {I' : Nat → Nat → Int32} {J' : Nat → Nat → Int64} {Z' : Nat → Nat → Bool} (h : g_V m n p I J Z I' J' Z') (v : Int32) : g_V m n p I J Z (s_up I' 199 59 v) J' Z' :=
  h.congr (fun _ _ _ _ _ => rfl) (fun _ _ _ => rfl) (fun _ _ _ => rfl) (fun a k _ _ _ _ _ _ h => by
    by_cases ha : a = 199
    · exact s_upk (fun hk => h ⟨ha, hk⟩)
    · exact s_upa ha) (fun _ _ _ _ => rfl) (fun _ _ _ _ => rfl)
theorem lw_bad {xs : Nat → Int32} {Ln j j' m n rem : Nat} {as : List Value} {I : Nat → Nat → Int32} {J : Nat → Nat → Int64} {Z : Nat → Nat → Bool} {w p : Nat → Nat} {q : Nat} {v v' : Int32}
    (h1 : w_R xs Ln j (0, lv_args 0 (.ref 1 :: as), [], (I, J, kR w rem, Z), 0, 0) (fun o s => o = .inl (some (.int v)) ∧ s = (I, J, kR w rem, Z)))
    (h2 : w_R xs Ln j' (0, lv_args 0 (.ref 199 :: as), [], (I, J, kR w rem, Z), 0, 0) (fun o s => o = .inl (some (.int v')) ∧ s = (s_up I 199 59 0, J, kR w rem, Z)))
    (hv : v' = v) (hP : g_P w rem p q) (hV : g_V m n p I J Z I J Z) :
    ∃ (v : Int32) (σ1 σ2 : s_S), w_R xs Ln j (0, lv_args 0 (.ref 1 :: as), [], (I, J, kR w rem, Z), 0, 0) (fun o s => o = .inl (some (.int v)) ∧ s = σ1) ∧ w_R xs Ln j' (0, lv_args 0 (.ref 199 :: as), [], σ1, 0, 0) (fun o s => o = .inl (some (.int v)) ∧ s = σ2) ∧ g_Rel (m + 1) σ2 :=
  lw_fin h1 h2 hv hP (hV.thr 0).mono (fun _ _ h => s_upa (by omega)) (fun _ _ _ => rfl) (fun _ _ _ => rfl)
end
