section
-- ===== PART A: goes FIRST, ahead of the names: the tables' words, and 'selects' of the private methods out of them =====
/-- a private method of a class that the tables say can be made, by its rows of tables_1 -/
def lw_okq (q : MethodName × Nat) : Prop := (q.1.cls ≠ "java/lang/invoke/MethodHandle" ∧ q.1.cls ≠ "java/lang/invoke/VarHandle") ∧ Cond.instantiable q.1.cls q.2 ∈ tables_1 ∧ Cond.privateMethod q.1 ∈ tables_1 ∧ Cond.instanceMethod q.1 ∈ tables_1
theorem lw_p0 : lw_okq (⟨"ControlledStation", "isFreeAddress", "(I)Z"⟩, 19) := ⟨⟨by decide +kernel, by decide +kernel⟩, List.mem_of_getElem? (i := 17) (by decide +kernel), List.mem_of_getElem? (i := 323) (by decide +kernel), List.mem_of_getElem? (i := 324) (by decide +kernel)⟩
theorem lw_p1 : lw_okq (⟨"ControlledStation", "commandWith", "(I)LControlledStation$Command;"⟩, 19) := ⟨⟨by decide +kernel, by decide +kernel⟩, List.mem_of_getElem? (i := 17) (by decide +kernel), List.mem_of_getElem? (i := 332) (by decide +kernel), List.mem_of_getElem? (i := 333) (by decide +kernel)⟩
theorem lw_p2 : lw_okq (⟨"ControlledStation", "sendWaiting", "()V"⟩, 19) := ⟨⟨by decide +kernel, by decide +kernel⟩, List.mem_of_getElem? (i := 17) (by decide +kernel), List.mem_of_getElem? (i := 450) (by decide +kernel), List.mem_of_getElem? (i := 451) (by decide +kernel)⟩
theorem lw_p3 : lw_okq (⟨"ControlledStation", "sendData", "(LControlledStation$Message;Z)Z"⟩, 19) := ⟨⟨by decide +kernel, by decide +kernel⟩, List.mem_of_getElem? (i := 17) (by decide +kernel), List.mem_of_getElem? (i := 458) (by decide +kernel), List.mem_of_getElem? (i := 459) (by decide +kernel)⟩
theorem lw_p4 : lw_okq (⟨"ControlledStation", "sendFrame", "(ILControlledStation$Message;)Z"⟩, 19) := ⟨⟨by decide +kernel, by decide +kernel⟩, List.mem_of_getElem? (i := 17) (by decide +kernel), List.mem_of_getElem? (i := 466) (by decide +kernel), List.mem_of_getElem? (i := 467) (by decide +kernel)⟩
theorem lw_p5 : lw_okq (⟨"ControlledStation", "shut", "(I)V"⟩, 19) := ⟨⟨by decide +kernel, by decide +kernel⟩, List.mem_of_getElem? (i := 17) (by decide +kernel), List.mem_of_getElem? (i := 470) (by decide +kernel), List.mem_of_getElem? (i := 471) (by decide +kernel)⟩
theorem lw_p6 : lw_okq (⟨"ControlledStation$Receiver", "isControl", "()Z"⟩, 7) := ⟨⟨by decide +kernel, by decide +kernel⟩, List.mem_of_getElem? (i := 176) (by decide +kernel), List.mem_of_getElem? (i := 569) (by decide +kernel), List.mem_of_getElem? (i := 570) (by decide +kernel)⟩
theorem lw_p7 : lw_okq (⟨"ControlledStation", "acceptFrame", "()Z"⟩, 19) := ⟨⟨by decide +kernel, by decide +kernel⟩, List.mem_of_getElem? (i := 17) (by decide +kernel), List.mem_of_getElem? (i := 573) (by decide +kernel), List.mem_of_getElem? (i := 574) (by decide +kernel)⟩
theorem lw_p8 : lw_okq (⟨"ControlledStation", "acceptData", "()Z"⟩, 19) := ⟨⟨by decide +kernel, by decide +kernel⟩, List.mem_of_getElem? (i := 17) (by decide +kernel), List.mem_of_getElem? (i := 577) (by decide +kernel), List.mem_of_getElem? (i := 578) (by decide +kernel)⟩
theorem lw_p9 : lw_okq (⟨"ControlledStation", "acknowledge", "(I)Z"⟩, 19) := ⟨⟨by decide +kernel, by decide +kernel⟩, List.mem_of_getElem? (i := 17) (by decide +kernel), List.mem_of_getElem? (i := 589) (by decide +kernel), List.mem_of_getElem? (i := 590) (by decide +kernel)⟩
theorem lw_p10 : lw_okq (⟨"ControlledStation", "controlCame", "(I)V"⟩, 19) := ⟨⟨by decide +kernel, by decide +kernel⟩, List.mem_of_getElem? (i := 17) (by decide +kernel), List.mem_of_getElem? (i := 609) (by decide +kernel), List.mem_of_getElem? (i := 610) (by decide +kernel)⟩
theorem lw_p11 : lw_okq (⟨"ControlledStation", "stopCame", "()V"⟩, 19) := ⟨⟨by decide +kernel, by decide +kernel⟩, List.mem_of_getElem? (i := 17) (by decide +kernel), List.mem_of_getElem? (i := 613) (by decide +kernel), List.mem_of_getElem? (i := 614) (by decide +kernel)⟩
theorem lw_p12 : lw_okq (⟨"ControlledStation", "sendAck", "()V"⟩, 19) := ⟨⟨by decide +kernel, by decide +kernel⟩, List.mem_of_getElem? (i := 17) (by decide +kernel), List.mem_of_getElem? (i := 617) (by decide +kernel), List.mem_of_getElem? (i := 618) (by decide +kernel)⟩
theorem lw_p13 : lw_okq (⟨"ControlledStation", "takeRest", "(LControlledStation$Message;)V"⟩, 19) := ⟨⟨by decide +kernel, by decide +kernel⟩, List.mem_of_getElem? (i := 17) (by decide +kernel), List.mem_of_getElem? (i := 621) (by decide +kernel), List.mem_of_getElem? (i := 622) (by decide +kernel)⟩
theorem lw_p14 : lw_okq (⟨"ControlledStation", "faultOf", "(LControlledStation$Message;II)I"⟩, 19) := ⟨⟨by decide +kernel, by decide +kernel⟩, List.mem_of_getElem? (i := 17) (by decide +kernel), List.mem_of_getElem? (i := 625) (by decide +kernel), List.mem_of_getElem? (i := 626) (by decide +kernel)⟩
theorem lw_p15 : lw_okq (⟨"ControlledStation", "isAddressOf", "(II)Z"⟩, 19) := ⟨⟨by decide +kernel, by decide +kernel⟩, List.mem_of_getElem? (i := 17) (by decide +kernel), List.mem_of_getElem? (i := 646) (by decide +kernel), List.mem_of_getElem? (i := 647) (by decide +kernel)⟩
def lw_privs_1 : List (MethodName × Nat) := [(⟨"ControlledStation", "isFreeAddress", "(I)Z"⟩, 19), (⟨"ControlledStation", "commandWith", "(I)LControlledStation$Command;"⟩, 19), (⟨"ControlledStation", "sendWaiting", "()V"⟩, 19), (⟨"ControlledStation", "sendData", "(LControlledStation$Message;Z)Z"⟩, 19), (⟨"ControlledStation", "sendFrame", "(ILControlledStation$Message;)Z"⟩, 19), (⟨"ControlledStation", "shut", "(I)V"⟩, 19), (⟨"ControlledStation$Receiver", "isControl", "()Z"⟩, 7), (⟨"ControlledStation", "acceptFrame", "()Z"⟩, 19), (⟨"ControlledStation", "acceptData", "()Z"⟩, 19), (⟨"ControlledStation", "acknowledge", "(I)Z"⟩, 19), (⟨"ControlledStation", "controlCame", "(I)V"⟩, 19), (⟨"ControlledStation", "stopCame", "()V"⟩, 19), (⟨"ControlledStation", "sendAck", "()V"⟩, 19), (⟨"ControlledStation", "takeRest", "(LControlledStation$Message;)V"⟩, 19), (⟨"ControlledStation", "faultOf", "(LControlledStation$Message;II)I"⟩, 19), (⟨"ControlledStation", "isAddressOf", "(II)Z"⟩, 19)]
theorem lw_r1 : ∀ q ∈ lw_privs_1, lw_okq q := List.forall_mem_cons.mpr ⟨lw_p0, List.forall_mem_cons.mpr ⟨lw_p1, List.forall_mem_cons.mpr ⟨lw_p2, List.forall_mem_cons.mpr ⟨lw_p3, List.forall_mem_cons.mpr ⟨lw_p4, List.forall_mem_cons.mpr ⟨lw_p5, List.forall_mem_cons.mpr ⟨lw_p6, List.forall_mem_cons.mpr ⟨lw_p7, List.forall_mem_cons.mpr ⟨lw_p8, List.forall_mem_cons.mpr ⟨lw_p9, List.forall_mem_cons.mpr ⟨lw_p10, List.forall_mem_cons.mpr ⟨lw_p11, List.forall_mem_cons.mpr ⟨lw_p12, List.forall_mem_cons.mpr ⟨lw_p13, List.forall_mem_cons.mpr ⟨lw_p14, List.forall_mem_cons.mpr ⟨lw_p15, fun _ h => absurd h List.not_mem_nil⟩⟩⟩⟩⟩⟩⟩⟩⟩⟩⟩⟩⟩⟩⟩⟩
theorem lw_p16 : lw_okq (⟨"ControlledStation", "answerSame", "(I)V"⟩, 19) := ⟨⟨by decide +kernel, by decide +kernel⟩, List.mem_of_getElem? (i := 17) (by decide +kernel), List.mem_of_getElem? (i := 652) (by decide +kernel), List.mem_of_getElem? (i := 653) (by decide +kernel)⟩
theorem lw_p17 : lw_okq (⟨"ControlledStation", "readCame", "(LControlledStation$Point;)V"⟩, 19) := ⟨⟨by decide +kernel, by decide +kernel⟩, List.mem_of_getElem? (i := 17) (by decide +kernel), List.mem_of_getElem? (i := 678) (by decide +kernel), List.mem_of_getElem? (i := 679) (by decide +kernel)⟩
theorem lw_p18 : lw_okq (⟨"ControlledStation", "answerObject", "(LControlledStation$Point;I)V"⟩, 19) := ⟨⟨by decide +kernel, by decide +kernel⟩, List.mem_of_getElem? (i := 17) (by decide +kernel), List.mem_of_getElem? (i := 687) (by decide +kernel), List.mem_of_getElem? (i := 688) (by decide +kernel)⟩
theorem lw_p19 : lw_okq (⟨"ControlledStation", "interrogationCame", "(II)V"⟩, 19) := ⟨⟨by decide +kernel, by decide +kernel⟩, List.mem_of_getElem? (i := 17) (by decide +kernel), List.mem_of_getElem? (i := 699) (by decide +kernel), List.mem_of_getElem? (i := 700) (by decide +kernel)⟩
theorem lw_p20 : lw_okq (⟨"ControlledStation", "answerPoints", "(I)V"⟩, 19) := ⟨⟨by decide +kernel, by decide +kernel⟩, List.mem_of_getElem? (i := 17) (by decide +kernel), List.mem_of_getElem? (i := 703) (by decide +kernel), List.mem_of_getElem? (i := 704) (by decide +kernel)⟩
theorem lw_p21 : lw_okq (⟨"ControlledStation", "countersOrderCame", "(I)V"⟩, 19) := ⟨⟨by decide +kernel, by decide +kernel⟩, List.mem_of_getElem? (i := 17) (by decide +kernel), List.mem_of_getElem? (i := 715) (by decide +kernel), List.mem_of_getElem? (i := 716) (by decide +kernel)⟩
theorem lw_p22 : lw_okq (⟨"ControlledStation", "orderCounters", "(I)V"⟩, 19) := ⟨⟨by decide +kernel, by decide +kernel⟩, List.mem_of_getElem? (i := 17) (by decide +kernel), List.mem_of_getElem? (i := 719) (by decide +kernel), List.mem_of_getElem? (i := 720) (by decide +kernel)⟩
theorem lw_p23 : lw_okq (⟨"ControlledStation", "clockOrderCame", "(J)V"⟩, 19) := ⟨⟨by decide +kernel, by decide +kernel⟩, List.mem_of_getElem? (i := 17) (by decide +kernel), List.mem_of_getElem? (i := 731) (by decide +kernel), List.mem_of_getElem? (i := 732) (by decide +kernel)⟩
theorem lw_p24 : lw_okq (⟨"ControlledStation", "commandCame", "(LControlledStation$Command;I)V"⟩, 19) := ⟨⟨by decide +kernel, by decide +kernel⟩, List.mem_of_getElem? (i := 17) (by decide +kernel), List.mem_of_getElem? (i := 754) (by decide +kernel), List.mem_of_getElem? (i := 755) (by decide +kernel)⟩
theorem lw_p25 : lw_okq (⟨"ControlledStation", "selectCame", "(LControlledStation$Command;IZ)V"⟩, 19) := ⟨⟨by decide +kernel, by decide +kernel⟩, List.mem_of_getElem? (i := 17) (by decide +kernel), List.mem_of_getElem? (i := 768) (by decide +kernel), List.mem_of_getElem? (i := 769) (by decide +kernel)⟩
theorem lw_p26 : lw_okq (⟨"ControlledStation", "endSelection", "(LControlledStation$Command;IZ)Z"⟩, 19) := ⟨⟨by decide +kernel, by decide +kernel⟩, List.mem_of_getElem? (i := 17) (by decide +kernel), List.mem_of_getElem? (i := 780) (by decide +kernel), List.mem_of_getElem? (i := 781) (by decide +kernel)⟩
theorem lw_p27 : lw_okq (⟨"ControlledStation", "carryOut", "(LControlledStation$Command;IZ)V"⟩, 19) := ⟨⟨by decide +kernel, by decide +kernel⟩, List.mem_of_getElem? (i := 17) (by decide +kernel), List.mem_of_getElem? (i := 784) (by decide +kernel), List.mem_of_getElem? (i := 785) (by decide +kernel)⟩
theorem lw_p28 : lw_okq (⟨"ControlledStation", "behindFrame", "()V"⟩, 19) := ⟨⟨by decide +kernel, by decide +kernel⟩, List.mem_of_getElem? (i := 17) (by decide +kernel), List.mem_of_getElem? (i := 792) (by decide +kernel), List.mem_of_getElem? (i := 793) (by decide +kernel)⟩
theorem lw_p29 : lw_okq (⟨"ControlledStation", "runTimers", "()V"⟩, 19) := ⟨⟨by decide +kernel, by decide +kernel⟩, List.mem_of_getElem? (i := 17) (by decide +kernel), List.mem_of_getElem? (i := 805) (by decide +kernel), List.mem_of_getElem? (i := 806) (by decide +kernel)⟩
theorem lw_p30 : lw_okq (⟨"ControlledStation", "isOver", "(II)Z"⟩, 19) := ⟨⟨by decide +kernel, by decide +kernel⟩, List.mem_of_getElem? (i := 17) (by decide +kernel), List.mem_of_getElem? (i := 813) (by decide +kernel), List.mem_of_getElem? (i := 814) (by decide +kernel)⟩
theorem lw_p31 : lw_okq (⟨"ControlledStation", "sendTest", "()V"⟩, 19) := ⟨⟨by decide +kernel, by decide +kernel⟩, List.mem_of_getElem? (i := 17) (by decide +kernel), List.mem_of_getElem? (i := 817) (by decide +kernel), List.mem_of_getElem? (i := 818) (by decide +kernel)⟩
def lw_privs_2 : List (MethodName × Nat) := [(⟨"ControlledStation", "answerSame", "(I)V"⟩, 19), (⟨"ControlledStation", "readCame", "(LControlledStation$Point;)V"⟩, 19), (⟨"ControlledStation", "answerObject", "(LControlledStation$Point;I)V"⟩, 19), (⟨"ControlledStation", "interrogationCame", "(II)V"⟩, 19), (⟨"ControlledStation", "answerPoints", "(I)V"⟩, 19), (⟨"ControlledStation", "countersOrderCame", "(I)V"⟩, 19), (⟨"ControlledStation", "orderCounters", "(I)V"⟩, 19), (⟨"ControlledStation", "clockOrderCame", "(J)V"⟩, 19), (⟨"ControlledStation", "commandCame", "(LControlledStation$Command;I)V"⟩, 19), (⟨"ControlledStation", "selectCame", "(LControlledStation$Command;IZ)V"⟩, 19), (⟨"ControlledStation", "endSelection", "(LControlledStation$Command;IZ)Z"⟩, 19), (⟨"ControlledStation", "carryOut", "(LControlledStation$Command;IZ)V"⟩, 19), (⟨"ControlledStation", "behindFrame", "()V"⟩, 19), (⟨"ControlledStation", "runTimers", "()V"⟩, 19), (⟨"ControlledStation", "isOver", "(II)Z"⟩, 19), (⟨"ControlledStation", "sendTest", "()V"⟩, 19)]
theorem lw_r2 : ∀ q ∈ lw_privs_2, lw_okq q := List.forall_mem_cons.mpr ⟨lw_p16, List.forall_mem_cons.mpr ⟨lw_p17, List.forall_mem_cons.mpr ⟨lw_p18, List.forall_mem_cons.mpr ⟨lw_p19, List.forall_mem_cons.mpr ⟨lw_p20, List.forall_mem_cons.mpr ⟨lw_p21, List.forall_mem_cons.mpr ⟨lw_p22, List.forall_mem_cons.mpr ⟨lw_p23, List.forall_mem_cons.mpr ⟨lw_p24, List.forall_mem_cons.mpr ⟨lw_p25, List.forall_mem_cons.mpr ⟨lw_p26, List.forall_mem_cons.mpr ⟨lw_p27, List.forall_mem_cons.mpr ⟨lw_p28, List.forall_mem_cons.mpr ⟨lw_p29, List.forall_mem_cons.mpr ⟨lw_p30, List.forall_mem_cons.mpr ⟨lw_p31, fun _ h => absurd h List.not_mem_nil⟩⟩⟩⟩⟩⟩⟩⟩⟩⟩⟩⟩⟩⟩⟩⟩
theorem lw_p32 : lw_okq (⟨"ControlledStationModel", "isFree", "(I)Z"⟩, 55) := ⟨⟨by decide +kernel, by decide +kernel⟩, List.mem_of_getElem? (i := 857) (by decide +kernel), List.mem_of_getElem? (i := 1046) (by decide +kernel), List.mem_of_getElem? (i := 1047) (by decide +kernel)⟩
theorem lw_p33 : lw_okq (⟨"ControlledStationModel", "isPoint", "(I)Z"⟩, 55) := ⟨⟨by decide +kernel, by decide +kernel⟩, List.mem_of_getElem? (i := 857) (by decide +kernel), List.mem_of_getElem? (i := 1056) (by decide +kernel), List.mem_of_getElem? (i := 1057) (by decide +kernel)⟩
theorem lw_p34 : lw_okq (⟨"ControlledStationModel", "timeByte", "(I)I"⟩, 55) := ⟨⟨by decide +kernel, by decide +kernel⟩, List.mem_of_getElem? (i := 857) (by decide +kernel), List.mem_of_getElem? (i := 1073) (by decide +kernel), List.mem_of_getElem? (i := 1074) (by decide +kernel)⟩
theorem lw_p35 : lw_okq (⟨"ControlledStationModel", "sends", "()V"⟩, 55) := ⟨⟨by decide +kernel, by decide +kernel⟩, List.mem_of_getElem? (i := 857) (by decide +kernel), List.mem_of_getElem? (i := 1077) (by decide +kernel), List.mem_of_getElem? (i := 1078) (by decide +kernel)⟩
theorem lw_p36 : lw_okq (⟨"ControlledStationModel", "sendsDraft", "()Z"⟩, 55) := ⟨⟨by decide +kernel, by decide +kernel⟩, List.mem_of_getElem? (i := 857) (by decide +kernel), List.mem_of_getElem? (i := 1081) (by decide +kernel), List.mem_of_getElem? (i := 1082) (by decide +kernel)⟩
theorem lw_p37 : lw_okq (⟨"ControlledStationModel", "ackLow", "()I"⟩, 55) := ⟨⟨by decide +kernel, by decide +kernel⟩, List.mem_of_getElem? (i := 857) (by decide +kernel), List.mem_of_getElem? (i := 1086) (by decide +kernel), List.mem_of_getElem? (i := 1087) (by decide +kernel)⟩
theorem lw_p38 : lw_okq (⟨"ControlledStationModel", "ackHigh", "()I"⟩, 55) := ⟨⟨by decide +kernel, by decide +kernel⟩, List.mem_of_getElem? (i := 857) (by decide +kernel), List.mem_of_getElem? (i := 1090) (by decide +kernel), List.mem_of_getElem? (i := 1091) (by decide +kernel)⟩
theorem lw_p39 : lw_okq (⟨"ControlledStationModel", "frames", "(IIIII)Z"⟩, 55) := ⟨⟨by decide +kernel, by decide +kernel⟩, List.mem_of_getElem? (i := 857) (by decide +kernel), List.mem_of_getElem? (i := 1094) (by decide +kernel), List.mem_of_getElem? (i := 1095) (by decide +kernel)⟩
theorem lw_p40 : lw_okq (⟨"ControlledStationModel", "closes", "(I)V"⟩, 55) := ⟨⟨by decide +kernel, by decide +kernel⟩, List.mem_of_getElem? (i := 857) (by decide +kernel), List.mem_of_getElem? (i := 1098) (by decide +kernel), List.mem_of_getElem? (i := 1099) (by decide +kernel)⟩
theorem lw_p41 : lw_okq (⟨"ControlledStationModel", "moveEvent", "(II)V"⟩, 55) := ⟨⟨by decide +kernel, by decide +kernel⟩, List.mem_of_getElem? (i := 857) (by decide +kernel), List.mem_of_getElem? (i := 1102) (by decide +kernel), List.mem_of_getElem? (i := 1103) (by decide +kernel)⟩
theorem lw_p42 : lw_okq (⟨"ControlledStationModel", "byteOut", "(I)V"⟩, 55) := ⟨⟨by decide +kernel, by decide +kernel⟩, List.mem_of_getElem? (i := 857) (by decide +kernel), List.mem_of_getElem? (i := 1106) (by decide +kernel), List.mem_of_getElem? (i := 1107) (by decide +kernel)⟩
theorem lw_p43 : lw_okq (⟨"ControlledStationModel", "firstAnswerGoes", "()V"⟩, 55) := ⟨⟨by decide +kernel, by decide +kernel⟩, List.mem_of_getElem? (i := 857) (by decide +kernel), List.mem_of_getElem? (i := 1110) (by decide +kernel), List.mem_of_getElem? (i := 1111) (by decide +kernel)⟩
theorem lw_p44 : lw_okq (⟨"ControlledStationModel", "sendsEvent", "()Z"⟩, 55) := ⟨⟨by decide +kernel, by decide +kernel⟩, List.mem_of_getElem? (i := 857) (by decide +kernel), List.mem_of_getElem? (i := 1114) (by decide +kernel), List.mem_of_getElem? (i := 1115) (by decide +kernel)⟩
theorem lw_p45 : lw_okq (⟨"ControlledStationModel", "head", "(IIII)V"⟩, 55) := ⟨⟨by decide +kernel, by decide +kernel⟩, List.mem_of_getElem? (i := 857) (by decide +kernel), List.mem_of_getElem? (i := 1124) (by decide +kernel), List.mem_of_getElem? (i := 1125) (by decide +kernel)⟩
theorem lw_p46 : lw_okq (⟨"ControlledStationModel", "put", "(I)V"⟩, 55) := ⟨⟨by decide +kernel, by decide +kernel⟩, List.mem_of_getElem? (i := 857) (by decide +kernel), List.mem_of_getElem? (i := 1128) (by decide +kernel), List.mem_of_getElem? (i := 1129) (by decide +kernel)⟩
theorem lw_p47 : lw_okq (⟨"ControlledStationModel", "putNumber", "(II)V"⟩, 55) := ⟨⟨by decide +kernel, by decide +kernel⟩, List.mem_of_getElem? (i := 857) (by decide +kernel), List.mem_of_getElem? (i := 1132) (by decide +kernel), List.mem_of_getElem? (i := 1133) (by decide +kernel)⟩
def lw_privs_3 : List (MethodName × Nat) := [(⟨"ControlledStationModel", "isFree", "(I)Z"⟩, 55), (⟨"ControlledStationModel", "isPoint", "(I)Z"⟩, 55), (⟨"ControlledStationModel", "timeByte", "(I)I"⟩, 55), (⟨"ControlledStationModel", "sends", "()V"⟩, 55), (⟨"ControlledStationModel", "sendsDraft", "()Z"⟩, 55), (⟨"ControlledStationModel", "ackLow", "()I"⟩, 55), (⟨"ControlledStationModel", "ackHigh", "()I"⟩, 55), (⟨"ControlledStationModel", "frames", "(IIIII)Z"⟩, 55), (⟨"ControlledStationModel", "closes", "(I)V"⟩, 55), (⟨"ControlledStationModel", "moveEvent", "(II)V"⟩, 55), (⟨"ControlledStationModel", "byteOut", "(I)V"⟩, 55), (⟨"ControlledStationModel", "firstAnswerGoes", "()V"⟩, 55), (⟨"ControlledStationModel", "sendsEvent", "()Z"⟩, 55), (⟨"ControlledStationModel", "head", "(IIII)V"⟩, 55), (⟨"ControlledStationModel", "put", "(I)V"⟩, 55), (⟨"ControlledStationModel", "putNumber", "(II)V"⟩, 55)]
theorem lw_r3 : ∀ q ∈ lw_privs_3, lw_okq q := List.forall_mem_cons.mpr ⟨lw_p32, List.forall_mem_cons.mpr ⟨lw_p33, List.forall_mem_cons.mpr ⟨lw_p34, List.forall_mem_cons.mpr ⟨lw_p35, List.forall_mem_cons.mpr ⟨lw_p36, List.forall_mem_cons.mpr ⟨lw_p37, List.forall_mem_cons.mpr ⟨lw_p38, List.forall_mem_cons.mpr ⟨lw_p39, List.forall_mem_cons.mpr ⟨lw_p40, List.forall_mem_cons.mpr ⟨lw_p41, List.forall_mem_cons.mpr ⟨lw_p42, List.forall_mem_cons.mpr ⟨lw_p43, List.forall_mem_cons.mpr ⟨lw_p44, List.forall_mem_cons.mpr ⟨lw_p45, List.forall_mem_cons.mpr ⟨lw_p46, List.forall_mem_cons.mpr ⟨lw_p47, fun _ h => absurd h List.not_mem_nil⟩⟩⟩⟩⟩⟩⟩⟩⟩⟩⟩⟩⟩⟩⟩⟩
theorem lw_p48 : lw_okq (⟨"ControlledStationModel", "object", "(III)V"⟩, 55) := ⟨⟨by decide +kernel, by decide +kernel⟩, List.mem_of_getElem? (i := 857) (by decide +kernel), List.mem_of_getElem? (i := 1136) (by decide +kernel), List.mem_of_getElem? (i := 1137) (by decide +kernel)⟩
theorem lw_p49 : lw_okq (⟨"ControlledStationModel", "canBe", "()Z"⟩, 55) := ⟨⟨by decide +kernel, by decide +kernel⟩, List.mem_of_getElem? (i := 857) (by decide +kernel), List.mem_of_getElem? (i := 1154) (by decide +kernel), List.mem_of_getElem? (i := 1155) (by decide +kernel)⟩
theorem lw_p50 : lw_okq (⟨"ControlledStationModel", "takes", "()V"⟩, 55) := ⟨⟨by decide +kernel, by decide +kernel⟩, List.mem_of_getElem? (i := 857) (by decide +kernel), List.mem_of_getElem? (i := 1160) (by decide +kernel), List.mem_of_getElem? (i := 1161) (by decide +kernel)⟩
theorem lw_p51 : lw_okq (⟨"ControlledStationModel", "takesData", "()V"⟩, 55) := ⟨⟨by decide +kernel, by decide +kernel⟩, List.mem_of_getElem? (i := 857) (by decide +kernel), List.mem_of_getElem? (i := 1164) (by decide +kernel), List.mem_of_getElem? (i := 1165) (by decide +kernel)⟩
theorem lw_p52 : lw_okq (⟨"ControlledStationModel", "acknowledges", "()Z"⟩, 55) := ⟨⟨by decide +kernel, by decide +kernel⟩, List.mem_of_getElem? (i := 857) (by decide +kernel), List.mem_of_getElem? (i := 1168) (by decide +kernel), List.mem_of_getElem? (i := 1169) (by decide +kernel)⟩
theorem lw_p53 : lw_okq (⟨"ControlledStationModel", "rest", "()V"⟩, 55) := ⟨⟨by decide +kernel, by decide +kernel⟩, List.mem_of_getElem? (i := 857) (by decide +kernel), List.mem_of_getElem? (i := 1172) (by decide +kernel), List.mem_of_getElem? (i := 1173) (by decide +kernel)⟩
theorem lw_p54 : lw_okq (⟨"ControlledStationModel", "at", "(I)I"⟩, 55) := ⟨⟨by decide +kernel, by decide +kernel⟩, List.mem_of_getElem? (i := 857) (by decide +kernel), List.mem_of_getElem? (i := 1176) (by decide +kernel), List.mem_of_getElem? (i := 1177) (by decide +kernel)⟩
theorem lw_p55 : lw_okq (⟨"ControlledStationModel", "same", "(IZ)V"⟩, 55) := ⟨⟨by decide +kernel, by decide +kernel⟩, List.mem_of_getElem? (i := 857) (by decide +kernel), List.mem_of_getElem? (i := 1186) (by decide +kernel), List.mem_of_getElem? (i := 1187) (by decide +kernel)⟩
theorem lw_p56 : lw_okq (⟨"ControlledStationModel", "waits", "()Z"⟩, 55) := ⟨⟨by decide +kernel, by decide +kernel⟩, List.mem_of_getElem? (i := 857) (by decide +kernel), List.mem_of_getElem? (i := 1190) (by decide +kernel), List.mem_of_getElem? (i := 1191) (by decide +kernel)⟩
theorem lw_p57 : lw_okq (⟨"ControlledStationModel", "commanded", "(III)V"⟩, 55) := ⟨⟨by decide +kernel, by decide +kernel⟩, List.mem_of_getElem? (i := 857) (by decide +kernel), List.mem_of_getElem? (i := 1198) (by decide +kernel), List.mem_of_getElem? (i := 1199) (by decide +kernel)⟩
theorem lw_p58 : lw_okq (⟨"ControlledStationModel", "isTest", "()Z"⟩, 55) := ⟨⟨by decide +kernel, by decide +kernel⟩, List.mem_of_getElem? (i := 857) (by decide +kernel), List.mem_of_getElem? (i := 1202) (by decide +kernel), List.mem_of_getElem? (i := 1203) (by decide +kernel)⟩
theorem lw_p59 : lw_okq (⟨"ControlledStationModel", "keepBytes", "(I)V"⟩, 55) := ⟨⟨by decide +kernel, by decide +kernel⟩, List.mem_of_getElem? (i := 857) (by decide +kernel), List.mem_of_getElem? (i := 1206) (by decide +kernel), List.mem_of_getElem? (i := 1207) (by decide +kernel)⟩
theorem lw_p60 : lw_okq (⟨"ControlledStationModel", "areBytes", "(I)Z"⟩, 55) := ⟨⟨by decide +kernel, by decide +kernel⟩, List.mem_of_getElem? (i := 857) (by decide +kernel), List.mem_of_getElem? (i := 1210) (by decide +kernel), List.mem_of_getElem? (i := 1211) (by decide +kernel)⟩
theorem lw_p61 : lw_okq (⟨"ControlledStationModel", "carriesOut", "(III)V"⟩, 55) := ⟨⟨by decide +kernel, by decide +kernel⟩, List.mem_of_getElem? (i := 857) (by decide +kernel), List.mem_of_getElem? (i := 1214) (by decide +kernel), List.mem_of_getElem? (i := 1215) (by decide +kernel)⟩
theorem lw_p62 : lw_okq (⟨"ControlledStationModel", "reads", "(I)V"⟩, 55) := ⟨⟨by decide +kernel, by decide +kernel⟩, List.mem_of_getElem? (i := 857) (by decide +kernel), List.mem_of_getElem? (i := 1218) (by decide +kernel), List.mem_of_getElem? (i := 1219) (by decide +kernel)⟩
theorem lw_p63 : lw_okq (⟨"ControlledStationModel", "asked", "(II)V"⟩, 55) := ⟨⟨by decide +kernel, by decide +kernel⟩, List.mem_of_getElem? (i := 857) (by decide +kernel), List.mem_of_getElem? (i := 1222) (by decide +kernel), List.mem_of_getElem? (i := 1223) (by decide +kernel)⟩
def lw_privs_4 : List (MethodName × Nat) := [(⟨"ControlledStationModel", "object", "(III)V"⟩, 55), (⟨"ControlledStationModel", "canBe", "()Z"⟩, 55), (⟨"ControlledStationModel", "takes", "()V"⟩, 55), (⟨"ControlledStationModel", "takesData", "()V"⟩, 55), (⟨"ControlledStationModel", "acknowledges", "()Z"⟩, 55), (⟨"ControlledStationModel", "rest", "()V"⟩, 55), (⟨"ControlledStationModel", "at", "(I)I"⟩, 55), (⟨"ControlledStationModel", "same", "(IZ)V"⟩, 55), (⟨"ControlledStationModel", "waits", "()Z"⟩, 55), (⟨"ControlledStationModel", "commanded", "(III)V"⟩, 55), (⟨"ControlledStationModel", "isTest", "()Z"⟩, 55), (⟨"ControlledStationModel", "keepBytes", "(I)V"⟩, 55), (⟨"ControlledStationModel", "areBytes", "(I)Z"⟩, 55), (⟨"ControlledStationModel", "carriesOut", "(III)V"⟩, 55), (⟨"ControlledStationModel", "reads", "(I)V"⟩, 55), (⟨"ControlledStationModel", "asked", "(II)V"⟩, 55)]
theorem lw_r4 : ∀ q ∈ lw_privs_4, lw_okq q := List.forall_mem_cons.mpr ⟨lw_p48, List.forall_mem_cons.mpr ⟨lw_p49, List.forall_mem_cons.mpr ⟨lw_p50, List.forall_mem_cons.mpr ⟨lw_p51, List.forall_mem_cons.mpr ⟨lw_p52, List.forall_mem_cons.mpr ⟨lw_p53, List.forall_mem_cons.mpr ⟨lw_p54, List.forall_mem_cons.mpr ⟨lw_p55, List.forall_mem_cons.mpr ⟨lw_p56, List.forall_mem_cons.mpr ⟨lw_p57, List.forall_mem_cons.mpr ⟨lw_p58, List.forall_mem_cons.mpr ⟨lw_p59, List.forall_mem_cons.mpr ⟨lw_p60, List.forall_mem_cons.mpr ⟨lw_p61, List.forall_mem_cons.mpr ⟨lw_p62, List.forall_mem_cons.mpr ⟨lw_p63, fun _ h => absurd h List.not_mem_nil⟩⟩⟩⟩⟩⟩⟩⟩⟩⟩⟩⟩⟩⟩⟩⟩
theorem lw_p64 : lw_okq (⟨"ControlledStationModel", "objects", "(IZI)V"⟩, 55) := ⟨⟨by decide +kernel, by decide +kernel⟩, List.mem_of_getElem? (i := 857) (by decide +kernel), List.mem_of_getElem? (i := 1228) (by decide +kernel), List.mem_of_getElem? (i := 1229) (by decide +kernel)⟩
theorem lw_p65 : lw_okq (⟨"ControlledStationModel", "freezes", "(I)V"⟩, 55) := ⟨⟨by decide +kernel, by decide +kernel⟩, List.mem_of_getElem? (i := 857) (by decide +kernel), List.mem_of_getElem? (i := 1232) (by decide +kernel), List.mem_of_getElem? (i := 1233) (by decide +kernel)⟩
theorem lw_p66 : lw_okq (⟨"ControlledStationModel", "isTime", "()Z"⟩, 55) := ⟨⟨by decide +kernel, by decide +kernel⟩, List.mem_of_getElem? (i := 857) (by decide +kernel), List.mem_of_getElem? (i := 1236) (by decide +kernel), List.mem_of_getElem? (i := 1237) (by decide +kernel)⟩
theorem lw_p67 : lw_okq (⟨"ControlledStationModel", "takesOrder", "(I)V"⟩, 55) := ⟨⟨by decide +kernel, by decide +kernel⟩, List.mem_of_getElem? (i := 857) (by decide +kernel), List.mem_of_getElem? (i := 1244) (by decide +kernel), List.mem_of_getElem? (i := 1245) (by decide +kernel)⟩
theorem lw_p68 : lw_okq (⟨"ControlledStationModel", "tells", "()V"⟩, 55) := ⟨⟨by decide +kernel, by decide +kernel⟩, List.mem_of_getElem? (i := 857) (by decide +kernel), List.mem_of_getElem? (i := 1248) (by decide +kernel), List.mem_of_getElem? (i := 1249) (by decide +kernel)⟩
theorem lw_p69 : lw_okq (⟨"ControlledStationModel", "tickGoes", "()V"⟩, 55) := ⟨⟨by decide +kernel, by decide +kernel⟩, List.mem_of_getElem? (i := 857) (by decide +kernel), List.mem_of_getElem? (i := 1256) (by decide +kernel), List.mem_of_getElem? (i := 1257) (by decide +kernel)⟩
theorem lw_p70 : lw_okq (⟨"ControlledStationModel", "clockGoes", "()V"⟩, 55) := ⟨⟨by decide +kernel, by decide +kernel⟩, List.mem_of_getElem? (i := 857) (by decide +kernel), List.mem_of_getElem? (i := 1260) (by decide +kernel), List.mem_of_getElem? (i := 1261) (by decide +kernel)⟩
def lw_privs_5 : List (MethodName × Nat) := [(⟨"ControlledStationModel", "objects", "(IZI)V"⟩, 55), (⟨"ControlledStationModel", "freezes", "(I)V"⟩, 55), (⟨"ControlledStationModel", "isTime", "()Z"⟩, 55), (⟨"ControlledStationModel", "takesOrder", "(I)V"⟩, 55), (⟨"ControlledStationModel", "tells", "()V"⟩, 55), (⟨"ControlledStationModel", "tickGoes", "()V"⟩, 55), (⟨"ControlledStationModel", "clockGoes", "()V"⟩, 55)]
theorem lw_r5 : ∀ q ∈ lw_privs_5, lw_okq q := List.forall_mem_cons.mpr ⟨lw_p64, List.forall_mem_cons.mpr ⟨lw_p65, List.forall_mem_cons.mpr ⟨lw_p66, List.forall_mem_cons.mpr ⟨lw_p67, List.forall_mem_cons.mpr ⟨lw_p68, List.forall_mem_cons.mpr ⟨lw_p69, List.forall_mem_cons.mpr ⟨lw_p70, fun _ h => absurd h List.not_mem_nil⟩⟩⟩⟩⟩⟩⟩
def lw_privs : List (MethodName × Nat) := lw_privs_1 ++ (lw_privs_2 ++ (lw_privs_3 ++ (lw_privs_4 ++ (lw_privs_5))))
def lw_tbl : List Cond := k2_sels lw_privs ++ tables_1
theorem lw_privs_ok : ∀ q ∈ lw_privs, lw_okq q := by
  show ∀ q ∈ lw_privs_1 ++ (lw_privs_2 ++ (lw_privs_3 ++ (lw_privs_4 ++ (lw_privs_5)))), lw_okq q
  exact List.forall_mem_append.mpr ⟨lw_r1, List.forall_mem_append.mpr ⟨lw_r2, List.forall_mem_append.mpr ⟨lw_r3, List.forall_mem_append.mpr ⟨lw_r4, lw_r5⟩⟩⟩⟩
end
section
def RX0 : String := "ControlledStation$AnswerQueue"
def TX0 : u_T := fun k => match k with
  | 0 => ("ControlledStation$AnswerQueue", "rows", "[LControlledStation$Message;", true)
  | 1 => ("ControlledStation$AnswerQueue", "spare", "LControlledStation$Message;", true)
  | 2 => ("ControlledStation$AnswerQueue", "start", "I", false)
  | 3 => ("ControlledStation$AnswerQueue", "size", "I", false)
  | _ => ("ControlledStation$AnswerQueue", "overflown", "Z", false)
def tyX0 : Nat → FieldType := fun k => match k with
  | 0 => .array (.object "ControlledStation$Message")
  | 1 => .object "ControlledStation$Message"
  | 2 => .int
  | 3 => .int
  | _ => .boolean
theorem nmX0 : ∀ a, a < 5 → ∀ b, b < 5 → a ≠ b → (TX0 a).2.1 ≠ (TX0 b).2.1 := by decide +kernel
theorem tyX0_ok : ∀ k, k < 5 → parseFieldDescriptor (TX0 k).2.2.1 = some (tyX0 k) := by decide +kernel
abbrev cX0_init : ByteArray := prog_2_method_1_code
def yX0_init : MethodName := ⟨RX0, "<init>", "()V"⟩
abbrev cX0_clear : ByteArray := prog_2_method_2_code
def yX0_clear : MethodName := ⟨RX0, "clear", "()V"⟩
abbrev cX0_next : ByteArray := prog_2_method_3_code
def yX0_next : MethodName := ⟨RX0, "next", "()LControlledStation$Message;"⟩
abbrev cX0_first : ByteArray := prog_2_method_4_code
def yX0_first : MethodName := ⟨RX0, "first", "()LControlledStation$Message;"⟩
abbrev cX0_dropFirst : ByteArray := prog_2_method_5_code
def yX0_dropFirst : MethodName := ⟨RX0, "dropFirst", "()V"⟩
def RX1 : String := "ControlledStation$Calendar"
def TX1 : u_T := fun k => match k with
  | 0 => ("ControlledStation$Calendar", "millisecond", "I", false)
  | 1 => ("ControlledStation$Calendar", "minute", "I", false)
  | 2 => ("ControlledStation$Calendar", "hour", "I", false)
  | 3 => ("ControlledStation$Calendar", "day", "I", false)
  | 4 => ("ControlledStation$Calendar", "month", "I", false)
  | 5 => ("ControlledStation$Calendar", "year", "I", false)
  | _ => ("ControlledStation$Calendar", "wasSet", "Z", false)
def tyX1 : Nat → FieldType := fun k => match k with
  | 0 => .int
  | 1 => .int
  | 2 => .int
  | 3 => .int
  | 4 => .int
  | 5 => .int
  | _ => .boolean
theorem nmX1 : ∀ a, a < 7 → ∀ b, b < 7 → a ≠ b → (TX1 a).2.1 ≠ (TX1 b).2.1 := by decide +kernel
theorem tyX1_ok : ∀ k, k < 7 → parseFieldDescriptor (TX1 k).2.2.1 = some (tyX1 k) := by decide +kernel
abbrev cX1_init : ByteArray := prog_3_method_1_code
def yX1_init : MethodName := ⟨RX1, "<init>", "()V"⟩
abbrev cX1_goOn : ByteArray := prog_3_method_2_code
def yX1_goOn : MethodName := ⟨RX1, "goOn", "()V"⟩
abbrev cX1_time : ByteArray := prog_3_method_3_code
def yX1_time : MethodName := ⟨RX1, "time", "()J"⟩
abbrev cX1_become : ByteArray := prog_3_method_4_code
def yX1_become : MethodName := ⟨RX1, "become", "(J)V"⟩
abbrev cX1_isTime : ByteArray := prog_3_method_5_code
def yX1_isTime : MethodName := ⟨RX1, "isTime", "(J)Z"⟩
abbrev cX1_daysOf : ByteArray := prog_3_method_6_code
def yX1_daysOf : MethodName := ⟨RX1, "daysOf", "(II)I"⟩
def RX2 : String := "ControlledStation$Command"
def TX2 : u_T := fun k => match k with
  | 0 => ("ControlledStation$Command", "sort", "I", true)
  | 1 => ("ControlledStation$Command", "address", "I", true)
  | 2 => ("ControlledStation$Command", "target", "LControlledStation$Point;", true)
  | 3 => ("ControlledStation$Command", "mustBeSelected", "Z", true)
  | _ => ("ControlledStation$Command", "carriedOut", "I", false)
def tyX2 : Nat → FieldType := fun k => match k with
  | 0 => .int
  | 1 => .int
  | 2 => .object "ControlledStation$Point"
  | 3 => .boolean
  | _ => .int
theorem nmX2 : ∀ a, a < 5 → ∀ b, b < 5 → a ≠ b → (TX2 a).2.1 ≠ (TX2 b).2.1 := by decide +kernel
theorem tyX2_ok : ∀ k, k < 5 → parseFieldDescriptor (TX2 k).2.2.1 = some (tyX2 k) := by decide +kernel
abbrev cX2_init : ByteArray := prog_4_method_1_code
def yX2_init : MethodName := ⟨RX2, "<init>", "(IILControlledStation$Point;Z)V"⟩
abbrev cX2_isOrder : ByteArray := prog_4_method_2_code
def yX2_isOrder : MethodName := ⟨RX2, "isOrder", "(I)Z"⟩
abbrev cX2_valueOf : ByteArray := prog_4_method_3_code
def yX2_valueOf : MethodName := ⟨RX2, "valueOf", "(I)I"⟩
def RX3 : String := "ControlledStation$EventQueue"
def TX3 : u_T := fun k => match k with
  | 0 => ("ControlledStation$EventQueue", "changed", "[LControlledStation$Point;", true)
  | 1 => ("ControlledStation$EventQueue", "objects", "[J", true)
  | 2 => ("ControlledStation$EventQueue", "times", "[J", true)
  | 3 => ("ControlledStation$EventQueue", "message", "LControlledStation$Message;", true)
  | 4 => ("ControlledStation$EventQueue", "start", "I", false)
  | 5 => ("ControlledStation$EventQueue", "size", "I", false)
  | _ => ("ControlledStation$EventQueue", "sentOfThem", "I", false)
def tyX3 : Nat → FieldType := fun k => match k with
  | 0 => .array (.object "ControlledStation$Point")
  | 1 => .array .long
  | 2 => .array .long
  | 3 => .object "ControlledStation$Message"
  | 4 => .int
  | 5 => .int
  | _ => .int
theorem nmX3 : ∀ a, a < 7 → ∀ b, b < 7 → a ≠ b → (TX3 a).2.1 ≠ (TX3 b).2.1 := by decide +kernel
theorem tyX3_ok : ∀ k, k < 7 → parseFieldDescriptor (TX3 k).2.2.1 = some (tyX3 k) := by decide +kernel
abbrev cX3_init : ByteArray := prog_5_method_1_code
def yX3_init : MethodName := ⟨RX3, "<init>", "()V"⟩
abbrev cX3_waiting : ByteArray := prog_5_method_2_code
def yX3_waiting : MethodName := ⟨RX3, "waiting", "()I"⟩
abbrev cX3_add : ByteArray := prog_5_method_3_code
def yX3_add : MethodName := ⟨RX3, "add", "(LControlledStation$Point;JJ)V"⟩
abbrev cX3_next : ByteArray := prog_5_method_4_code
def yX3_next : MethodName := ⟨RX3, "next", "(I)LControlledStation$Message;"⟩
abbrev cX3_nextWasSent : ByteArray := prog_5_method_5_code
def yX3_nextWasSent : MethodName := ⟨RX3, "nextWasSent", "()V"⟩
abbrev cX3_dropEldest : ByteArray := prog_5_method_6_code
def yX3_dropEldest : MethodName := ⟨RX3, "dropEldest", "()V"⟩
abbrev cX3_waitAgain : ByteArray := prog_5_method_7_code
def yX3_waitAgain : MethodName := ⟨RX3, "waitAgain", "()V"⟩
def RX4 : String := "ControlledStation$Message"
def TX4 : u_T := fun k => match k with
  | 0 => ("ControlledStation$Message", "row", "[B", true)
  | _ => ("ControlledStation$Message", "length", "I", false)
def tyX4 : Nat → FieldType := fun k => match k with
  | 0 => .array .byte
  | _ => .int
theorem nmX4 : ∀ a, a < 2 → ∀ b, b < 2 → a ≠ b → (TX4 a).2.1 ≠ (TX4 b).2.1 := by decide +kernel
theorem tyX4_ok : ∀ k, k < 2 → parseFieldDescriptor (TX4 k).2.2.1 = some (tyX4 k) := by decide +kernel
abbrev cX4_init : ByteArray := prog_6_method_1_code
def yX4_init : MethodName := ⟨RX4, "<init>", "()V"⟩
abbrev cX4_clear : ByteArray := prog_6_method_2_code
def yX4_clear : MethodName := ⟨RX4, "clear", "()V"⟩
abbrev cX4_add : ByteArray := prog_6_method_3_code
def yX4_add : MethodName := ⟨RX4, "add", "(JI)V"⟩
abbrev cX4_copy : ByteArray := prog_6_method_4_code
def yX4_copy : MethodName := ⟨RX4, "copy", "(LControlledStation$Message;)V"⟩
abbrev cX4_replace : ByteArray := prog_6_method_5_code
def yX4_replace : MethodName := ⟨RX4, "replace", "(II)V"⟩
abbrev cX4_at : ByteArray := prog_6_method_6_code
def yX4_at : MethodName := ⟨RX4, "at", "(I)I"⟩
abbrev cX4_number : ByteArray := prog_6_method_7_code
def yX4_number : MethodName := ⟨RX4, "number", "(II)J"⟩
abbrev cX4_address : ByteArray := prog_6_method_8_code
def yX4_address : MethodName := ⟨RX4, "address", "()I"⟩
def RX5 : String := "ControlledStation$OutBytes"
def TX5 : u_T := fun k => match k with
  | 0 => ("ControlledStation$OutBytes", "row", "[B", true)
  | 1 => ("ControlledStation$OutBytes", "start", "I", false)
  | _ => ("ControlledStation$OutBytes", "length", "I", false)
def tyX5 : Nat → FieldType := fun k => match k with
  | 0 => .array .byte
  | 1 => .int
  | _ => .int
theorem nmX5 : ∀ a, a < 3 → ∀ b, b < 3 → a ≠ b → (TX5 a).2.1 ≠ (TX5 b).2.1 := by decide +kernel
theorem tyX5_ok : ∀ k, k < 3 → parseFieldDescriptor (TX5 k).2.2.1 = some (tyX5 k) := by decide +kernel
abbrev cX5_init : ByteArray := prog_7_method_1_code
def yX5_init : MethodName := ⟨RX5, "<init>", "()V"⟩
abbrev cX5_clear : ByteArray := prog_7_method_2_code
def yX5_clear : MethodName := ⟨RX5, "clear", "()V"⟩
abbrev cX5_add : ByteArray := prog_7_method_3_code
def yX5_add : MethodName := ⟨RX5, "add", "(I)V"⟩
abbrev cX5_at : ByteArray := prog_7_method_4_code
def yX5_at : MethodName := ⟨RX5, "at", "(I)I"⟩
abbrev cX5_dropFirst : ByteArray := prog_7_method_5_code
def yX5_dropFirst : MethodName := ⟨RX5, "dropFirst", "(I)V"⟩
def RX6 : String := "ControlledStation$Point"
def TX6 : u_T := fun k => match k with
  | 0 => ("ControlledStation$Point", "sort", "I", true)
  | 1 => ("ControlledStation$Point", "address", "I", true)
  | 2 => ("ControlledStation$Point", "group", "I", true)
  | 3 => ("ControlledStation$Point", "timed", "Z", true)
  | 4 => ("ControlledStation$Point", "value", "I", false)
  | 5 => ("ControlledStation$Point", "quality", "I", false)
  | _ => ("ControlledStation$Point", "frozen", "I", false)
def tyX6 : Nat → FieldType := fun k => match k with
  | 0 => .int
  | 1 => .int
  | 2 => .int
  | 3 => .boolean
  | 4 => .int
  | 5 => .int
  | _ => .int
theorem nmX6 : ∀ a, a < 7 → ∀ b, b < 7 → a ≠ b → (TX6 a).2.1 ≠ (TX6 b).2.1 := by decide +kernel
theorem tyX6_ok : ∀ k, k < 7 → parseFieldDescriptor (TX6 k).2.2.1 = some (tyX6 k) := by decide +kernel
abbrev cX6_init : ByteArray := prog_8_method_1_code
def yX6_init : MethodName := ⟨RX6, "<init>", "(IIIZ)V"⟩
abbrev cX6_fits : ByteArray := prog_8_method_2_code
def yX6_fits : MethodName := ⟨RX6, "fits", "(II)Z"⟩
abbrev cX6_isAskedBy : ByteArray := prog_8_method_3_code
def yX6_isAskedBy : MethodName := ⟨RX6, "isAskedBy", "(I)Z"⟩
abbrev cX6_objectBytes : ByteArray := prog_8_method_4_code
def yX6_objectBytes : MethodName := ⟨RX6, "objectBytes", "()I"⟩
abbrev cX6_object : ByteArray := prog_8_method_5_code
def yX6_object : MethodName := ⟨RX6, "object", "(II)J"⟩
def RX7 : String := "ControlledStation$PointTable"
def TX7 : u_T := fun k => match k with
  | 0 => ("ControlledStation$PointTable", "byNumber", "[LControlledStation$Point;", true)
  | 1 => ("ControlledStation$PointTable", "byAddress", "[LControlledStation$Point;", true)
  | _ => ("ControlledStation$PointTable", "size", "I", false)
def tyX7 : Nat → FieldType := fun k => match k with
  | 0 => .array (.object "ControlledStation$Point")
  | 1 => .array (.object "ControlledStation$Point")
  | _ => .int
theorem nmX7 : ∀ a, a < 3 → ∀ b, b < 3 → a ≠ b → (TX7 a).2.1 ≠ (TX7 b).2.1 := by decide +kernel
theorem tyX7_ok : ∀ k, k < 3 → parseFieldDescriptor (TX7 k).2.2.1 = some (tyX7 k) := by decide +kernel
abbrev cX7_init : ByteArray := prog_9_method_1_code
def yX7_init : MethodName := ⟨RX7, "<init>", "()V"⟩
abbrev cX7_add : ByteArray := prog_9_method_2_code
def yX7_add : MethodName := ⟨RX7, "add", "(LControlledStation$Point;)V"⟩
abbrev cX7_at : ByteArray := prog_9_method_3_code
def yX7_at : MethodName := ⟨RX7, "at", "(I)LControlledStation$Point;"⟩
abbrev cX7_atPlace : ByteArray := prog_9_method_4_code
def yX7_atPlace : MethodName := ⟨RX7, "atPlace", "(I)LControlledStation$Point;"⟩
abbrev cX7_withAddress : ByteArray := prog_9_method_5_code
def yX7_withAddress : MethodName := ⟨RX7, "withAddress", "(I)LControlledStation$Point;"⟩
abbrev cX7_freezeCounters : ByteArray := prog_9_method_6_code
def yX7_freezeCounters : MethodName := ⟨RX7, "freezeCounters", "()V"⟩
abbrev cX7_resetCounters : ByteArray := prog_9_method_7_code
def yX7_resetCounters : MethodName := ⟨RX7, "resetCounters", "()V"⟩
def RX8 : String := "ControlledStation$Receiver"
def TX8 : u_T := fun k => match k with
  | 0 => ("ControlledStation$Receiver", "rest", "LControlledStation$Message;", true)
  | 1 => ("ControlledStation$Receiver", "control", "I", false)
  | 2 => ("ControlledStation$Receiver", "came", "I", false)
  | 3 => ("ControlledStation$Receiver", "untold", "I", false)
  | 4 => ("ControlledStation$Receiver", "firstUntoldAt", "I", false)
  | 5 => ("ControlledStation$Receiver", "bytes", "I", false)
  | _ => ("ControlledStation$Receiver", "length", "I", false)
def tyX8 : Nat → FieldType := fun k => match k with
  | 0 => .object "ControlledStation$Message"
  | 1 => .int
  | 2 => .int
  | 3 => .int
  | 4 => .int
  | 5 => .int
  | _ => .int
theorem nmX8 : ∀ a, a < 7 → ∀ b, b < 7 → a ≠ b → (TX8 a).2.1 ≠ (TX8 b).2.1 := by decide +kernel
theorem tyX8_ok : ∀ k, k < 7 → parseFieldDescriptor (TX8 k).2.2.1 = some (tyX8 k) := by decide +kernel
abbrev cX8_init : ByteArray := prog_10_method_1_code
def yX8_init : MethodName := ⟨RX8, "<init>", "()V"⟩
abbrev cX8_restart : ByteArray := prog_10_method_2_code
def yX8_restart : MethodName := ⟨RX8, "restart", "()V"⟩
abbrev cX8_forget : ByteArray := prog_10_method_3_code
def yX8_forget : MethodName := ⟨RX8, "forget", "()V"⟩
abbrev cX8_accept : ByteArray := prog_10_method_4_code
def yX8_accept : MethodName := ⟨RX8, "accept", "(I)I"⟩
abbrev cX8_isControl : ByteArray := prog_10_method_5_code
def yX8_isControl : MethodName := ⟨RX8, "isControl", "()Z"⟩
abbrev cX8_number : ByteArray := prog_10_method_6_code
def yX8_number : MethodName := ⟨RX8, "number", "()I"⟩
abbrev cX8_ack : ByteArray := prog_10_method_7_code
def yX8_ack : MethodName := ⟨RX8, "ack", "()I"⟩
abbrev cX8_ackToTell : ByteArray := prog_10_method_8_code
def yX8_ackToTell : MethodName := ⟨RX8, "ackToTell", "()I"⟩
abbrev cX8_countData : ByteArray := prog_10_method_9_code
def yX8_countData : MethodName := ⟨RX8, "countData", "(I)V"⟩
abbrev cX8_originator : ByteArray := prog_10_method_10_code
def yX8_originator : MethodName := ⟨RX8, "originator", "()I"⟩
abbrev cX8_isTrial : ByteArray := prog_10_method_11_code
def yX8_isTrial : MethodName := ⟨RX8, "isTrial", "()Z"⟩
def RX9 : String := "ControlledStation$Selection"
def TX9 : u_T := fun k => match k with
  | 0 => ("ControlledStation$Selection", "command", "LControlledStation$Command;", false)
  | 1 => ("ControlledStation$Selection", "data", "I", false)
  | 2 => ("ControlledStation$Selection", "originator", "I", false)
  | _ => ("ControlledStation$Selection", "ticksLeft", "I", false)
def tyX9 : Nat → FieldType := fun k => match k with
  | 0 => .object "ControlledStation$Command"
  | 1 => .int
  | 2 => .int
  | _ => .int
theorem nmX9 : ∀ a, a < 4 → ∀ b, b < 4 → a ≠ b → (TX9 a).2.1 ≠ (TX9 b).2.1 := by decide +kernel
theorem tyX9_ok : ∀ k, k < 4 → parseFieldDescriptor (TX9 k).2.2.1 = some (tyX9 k) := by decide +kernel
abbrev cX9_init : ByteArray := prog_11_method_1_code
def yX9_init : MethodName := ⟨RX9, "<init>", "()V"⟩
abbrev cX9_begin : ByteArray := prog_11_method_2_code
def yX9_begin : MethodName := ⟨RX9, "begin", "(LControlledStation$Command;III)V"⟩
abbrev cX9_end : ByteArray := prog_11_method_3_code
def yX9_end : MethodName := ⟨RX9, "end", "()V"⟩
abbrev cX9_isOfSome : ByteArray := prog_11_method_4_code
def yX9_isOfSome : MethodName := ⟨RX9, "isOfSome", "()Z"⟩
abbrev cX9_isOf : ByteArray := prog_11_method_5_code
def yX9_isOf : MethodName := ⟨RX9, "isOf", "(LControlledStation$Command;)Z"⟩
abbrev cX9_goOn : ByteArray := prog_11_method_6_code
def yX9_goOn : MethodName := ⟨RX9, "goOn", "()V"⟩
def RX10 : String := "ControlledStation$SentFrames"
def TX10 : u_T := fun k => match k with
  | 0 => ("ControlledStation$SentFrames", "at", "[I", true)
  | 1 => ("ControlledStation$SentFrames", "ofEvent", "[Z", true)
  | 2 => ("ControlledStation$SentFrames", "start", "I", false)
  | 3 => ("ControlledStation$SentFrames", "unacknowledged", "I", false)
  | _ => ("ControlledStation$SentFrames", "number", "I", false)
def tyX10 : Nat → FieldType := fun k => match k with
  | 0 => .array .int
  | 1 => .array .boolean
  | 2 => .int
  | 3 => .int
  | _ => .int
theorem nmX10 : ∀ a, a < 5 → ∀ b, b < 5 → a ≠ b → (TX10 a).2.1 ≠ (TX10 b).2.1 := by decide +kernel
theorem tyX10_ok : ∀ k, k < 5 → parseFieldDescriptor (TX10 k).2.2.1 = some (tyX10 k) := by decide +kernel
abbrev cX10_init : ByteArray := prog_12_method_1_code
def yX10_init : MethodName := ⟨RX10, "<init>", "()V"⟩
abbrev cX10_restart : ByteArray := prog_12_method_2_code
def yX10_restart : MethodName := ⟨RX10, "restart", "()V"⟩
abbrev cX10_forget : ByteArray := prog_12_method_3_code
def yX10_forget : MethodName := ⟨RX10, "forget", "()V"⟩
abbrev cX10_add : ByteArray := prog_12_method_4_code
def yX10_add : MethodName := ⟨RX10, "add", "(IZ)V"⟩
abbrev cX10_eldestAt : ByteArray := prog_12_method_5_code
def yX10_eldestAt : MethodName := ⟨RX10, "eldestAt", "()I"⟩
abbrev cX10_newlyAcknowledged : ByteArray := prog_12_method_6_code
def yX10_newlyAcknowledged : MethodName := ⟨RX10, "newlyAcknowledged", "(I)I"⟩
abbrev cX10_dropEldest : ByteArray := prog_12_method_7_code
def yX10_dropEldest : MethodName := ⟨RX10, "dropEldest", "()Z"⟩
def RX11 : String := "ControlledStation"
def TX11 : u_T := fun k => match k with
  | 0 => ("ControlledStation", "settings", "[I", true)
  | 1 => ("ControlledStation", "points", "LControlledStation$PointTable;", true)
  | 2 => ("ControlledStation", "commands", "[LControlledStation$Command;", true)
  | 3 => ("ControlledStation", "commandsMade", "I", false)
  | 4 => ("ControlledStation", "selection", "LControlledStation$Selection;", true)
  | 5 => ("ControlledStation", "calendar", "LControlledStation$Calendar;", true)
  | 6 => ("ControlledStation", "events", "LControlledStation$EventQueue;", true)
  | 7 => ("ControlledStation", "answers", "LControlledStation$AnswerQueue;", true)
  | 8 => ("ControlledStation", "receiver", "LControlledStation$Receiver;", true)
  | 9 => ("ControlledStation", "sent", "LControlledStation$SentFrames;", true)
  | 10 => ("ControlledStation", "sending", "LControlledStation$OutBytes;", true)
  | 11 => ("ControlledStation", "link", "I", false)
  | 12 => ("ControlledStation", "reason", "I", false)
  | 13 => ("ControlledStation", "now", "I", false)
  | 14 => ("ControlledStation", "latestAt", "I", false)
  | 15 => ("ControlledStation", "testAt", "I", false)
  | 16 => ("ControlledStation", "testWaits", "Z", false)
  | 17 => ("ControlledStation", "passedBy", "I", false)
  | _ => ("ControlledStation", "freezes", "I", false)
def tyX11 : Nat → FieldType := fun k => match k with
  | 0 => .array .int
  | 1 => .object "ControlledStation$PointTable"
  | 2 => .array (.object "ControlledStation$Command")
  | 3 => .int
  | 4 => .object "ControlledStation$Selection"
  | 5 => .object "ControlledStation$Calendar"
  | 6 => .object "ControlledStation$EventQueue"
  | 7 => .object "ControlledStation$AnswerQueue"
  | 8 => .object "ControlledStation$Receiver"
  | 9 => .object "ControlledStation$SentFrames"
  | 10 => .object "ControlledStation$OutBytes"
  | 11 => .int
  | 12 => .int
  | 13 => .int
  | 14 => .int
  | 15 => .int
  | 16 => .boolean
  | 17 => .int
  | _ => .int
theorem nmX11 : ∀ a, a < 19 → ∀ b, b < 19 → a ≠ b → (TX11 a).2.1 ≠ (TX11 b).2.1 := by decide +kernel
theorem tyX11_ok : ∀ k, k < 19 → parseFieldDescriptor (TX11 k).2.2.1 = some (tyX11 k) := by decide +kernel
abbrev cX11_init : ByteArray := prog_1_method_1_code
def yX11_init : MethodName := ⟨RX11, "<init>", "()V"⟩
abbrev cX11_set : ByteArray := prog_1_method_2_code
def yX11_set : MethodName := ⟨RX11, "set", "(II)I"⟩
abbrev cX11_point : ByteArray := prog_1_method_3_code
def yX11_point : MethodName := ⟨RX11, "point", "(IIIZ)I"⟩
abbrev cX11_command : ByteArray := prog_1_method_4_code
def yX11_command : MethodName := ⟨RX11, "command", "(IIIZ)I"⟩
abbrev cX11_change : ByteArray := prog_1_method_5_code
def yX11_change : MethodName := ⟨RX11, "change", "(III)I"⟩
abbrev cX11_open : ByteArray := prog_1_method_6_code
def yX11_open : MethodName := ⟨RX11, "open", "()I"⟩
abbrev cX11_close : ByteArray := prog_1_method_7_code
def yX11_close : MethodName := ⟨RX11, "close", "()I"⟩
abbrev cX11_come : ByteArray := prog_1_method_8_code
def yX11_come : MethodName := ⟨RX11, "come", "(IJ)I"⟩
abbrev cX11_tick : ByteArray := prog_1_method_9_code
def yX11_tick : MethodName := ⟨RX11, "tick", "(I)I"⟩
abbrev cX11_out : ByteArray := prog_1_method_10_code
def yX11_out : MethodName := ⟨RX11, "out", "(I)I"⟩
abbrev cX11_take : ByteArray := prog_1_method_11_code
def yX11_take : MethodName := ⟨RX11, "take", "(I)I"⟩
abbrev cX11_told : ByteArray := prog_1_method_12_code
def yX11_told : MethodName := ⟨RX11, "told", "(II)I"⟩
abbrev cX11_ordered : ByteArray := prog_1_method_13_code
def yX11_ordered : MethodName := ⟨RX11, "ordered", "(II)I"⟩
abbrev cX11_clock : ByteArray := prog_1_method_14_code
def yX11_clock : MethodName := ⟨RX11, "clock", "(I)I"⟩
abbrev cX11_count : ByteArray := prog_1_method_15_code
def yX11_count : MethodName := ⟨RX11, "count", "(I)I"⟩
abbrev cX11_isFreeAddress : ByteArray := prog_1_method_16_code
def yX11_isFreeAddress : MethodName := ⟨RX11, "isFreeAddress", "(I)Z"⟩
abbrev cX11_commandWith : ByteArray := prog_1_method_17_code
def yX11_commandWith : MethodName := ⟨RX11, "commandWith", "(I)LControlledStation$Command;"⟩
abbrev cX11_shut : ByteArray := prog_1_method_18_code
def yX11_shut : MethodName := ⟨RX11, "shut", "(I)V"⟩
abbrev cX11_runTimers : ByteArray := prog_1_method_19_code
def yX11_runTimers : MethodName := ⟨RX11, "runTimers", "()V"⟩
abbrev cX11_isOver : ByteArray := prog_1_method_20_code
def yX11_isOver : MethodName := ⟨RX11, "isOver", "(II)Z"⟩
abbrev cX11_sendTest : ByteArray := prog_1_method_21_code
def yX11_sendTest : MethodName := ⟨RX11, "sendTest", "()V"⟩
abbrev cX11_sendAck : ByteArray := prog_1_method_22_code
def yX11_sendAck : MethodName := ⟨RX11, "sendAck", "()V"⟩
abbrev cX11_sendData : ByteArray := prog_1_method_23_code
def yX11_sendData : MethodName := ⟨RX11, "sendData", "(LControlledStation$Message;Z)Z"⟩
abbrev cX11_sendFrame : ByteArray := prog_1_method_24_code
def yX11_sendFrame : MethodName := ⟨RX11, "sendFrame", "(ILControlledStation$Message;)Z"⟩
abbrev cX11_sendWaiting : ByteArray := prog_1_method_25_code
def yX11_sendWaiting : MethodName := ⟨RX11, "sendWaiting", "()V"⟩
abbrev cX11_acceptFrame : ByteArray := prog_1_method_26_code
def yX11_acceptFrame : MethodName := ⟨RX11, "acceptFrame", "()Z"⟩
abbrev cX11_behindFrame : ByteArray := prog_1_method_27_code
def yX11_behindFrame : MethodName := ⟨RX11, "behindFrame", "()V"⟩
abbrev cX11_acknowledge : ByteArray := prog_1_method_28_code
def yX11_acknowledge : MethodName := ⟨RX11, "acknowledge", "(I)Z"⟩
abbrev cX11_controlCame : ByteArray := prog_1_method_29_code
def yX11_controlCame : MethodName := ⟨RX11, "controlCame", "(I)V"⟩
abbrev cX11_stopCame : ByteArray := prog_1_method_30_code
def yX11_stopCame : MethodName := ⟨RX11, "stopCame", "()V"⟩
abbrev cX11_acceptData : ByteArray := prog_1_method_31_code
def yX11_acceptData : MethodName := ⟨RX11, "acceptData", "()Z"⟩
abbrev cX11_takeRest : ByteArray := prog_1_method_32_code
def yX11_takeRest : MethodName := ⟨RX11, "takeRest", "(LControlledStation$Message;)V"⟩
abbrev cX11_faultOf : ByteArray := prog_1_method_33_code
def yX11_faultOf : MethodName := ⟨RX11, "faultOf", "(LControlledStation$Message;II)I"⟩
abbrev cX11_restLength : ByteArray := prog_1_method_34_code
def yX11_restLength : MethodName := ⟨RX11, "restLength", "(I)I"⟩
abbrev cX11_isCauseOf : ByteArray := prog_1_method_35_code
def yX11_isCauseOf : MethodName := ⟨RX11, "isCauseOf", "(II)Z"⟩
abbrev cX11_isAddressOf : ByteArray := prog_1_method_36_code
def yX11_isAddressOf : MethodName := ⟨RX11, "isAddressOf", "(II)Z"⟩
abbrev cX11_commandCame : ByteArray := prog_1_method_37_code
def yX11_commandCame : MethodName := ⟨RX11, "commandCame", "(LControlledStation$Command;I)V"⟩
abbrev cX11_selectCame : ByteArray := prog_1_method_38_code
def yX11_selectCame : MethodName := ⟨RX11, "selectCame", "(LControlledStation$Command;IZ)V"⟩
abbrev cX11_endSelection : ByteArray := prog_1_method_39_code
def yX11_endSelection : MethodName := ⟨RX11, "endSelection", "(LControlledStation$Command;IZ)Z"⟩
abbrev cX11_carryOut : ByteArray := prog_1_method_40_code
def yX11_carryOut : MethodName := ⟨RX11, "carryOut", "(LControlledStation$Command;IZ)V"⟩
abbrev cX11_readCame : ByteArray := prog_1_method_41_code
def yX11_readCame : MethodName := ⟨RX11, "readCame", "(LControlledStation$Point;)V"⟩
abbrev cX11_interrogationCame : ByteArray := prog_1_method_42_code
def yX11_interrogationCame : MethodName := ⟨RX11, "interrogationCame", "(II)V"⟩
abbrev cX11_countersOrderCame : ByteArray := prog_1_method_43_code
def yX11_countersOrderCame : MethodName := ⟨RX11, "countersOrderCame", "(I)V"⟩
abbrev cX11_orderCounters : ByteArray := prog_1_method_44_code
def yX11_orderCounters : MethodName := ⟨RX11, "orderCounters", "(I)V"⟩
abbrev cX11_clockOrderCame : ByteArray := prog_1_method_45_code
def yX11_clockOrderCame : MethodName := ⟨RX11, "clockOrderCame", "(J)V"⟩
abbrev cX11_answerSame : ByteArray := prog_1_method_46_code
def yX11_answerSame : MethodName := ⟨RX11, "answerSame", "(I)V"⟩
abbrev cX11_answerObject : ByteArray := prog_1_method_47_code
def yX11_answerObject : MethodName := ⟨RX11, "answerObject", "(LControlledStation$Point;I)V"⟩
abbrev cX11_objectHead : ByteArray := prog_1_method_48_code
def yX11_objectHead : MethodName := ⟨RX11, "objectHead", "(IIII)J"⟩
abbrev cX11_answerPoints : ByteArray := prog_1_method_49_code
def yX11_answerPoints : MethodName := ⟨RX11, "answerPoints", "(I)V"⟩
def RX12 : String := "ControlledStationModel"
def TX12 : u_T := fun k => match k with
  | 0 => ("ControlledStationModel", "setting", "[I", true)
  | 1 => ("ControlledStationModel", "points", "I", false)
  | 2 => ("ControlledStationModel", "sort", "[I", true)
  | 3 => ("ControlledStationModel", "address", "[I", true)
  | 4 => ("ControlledStationModel", "group", "[I", true)
  | 5 => ("ControlledStationModel", "timed", "[Z", true)
  | 6 => ("ControlledStationModel", "value", "[I", true)
  | 7 => ("ControlledStationModel", "quality", "[I", true)
  | 8 => ("ControlledStationModel", "frozen", "[I", true)
  | 9 => ("ControlledStationModel", "commands", "I", false)
  | 10 => ("ControlledStationModel", "order", "[I", true)
  | 11 => ("ControlledStationModel", "orderAddress", "[I", true)
  | 12 => ("ControlledStationModel", "orderPoint", "[I", true)
  | 13 => ("ControlledStationModel", "mustSelect", "[Z", true)
  | 14 => ("ControlledStationModel", "carried", "[I", true)
  | 15 => ("ControlledStationModel", "selected", "I", false)
  | 16 => ("ControlledStationModel", "selectedAt", "I", false)
  | 17 => ("ControlledStationModel", "selectedBy", "I", false)
  | 18 => ("ControlledStationModel", "selectedBytes", "[I", true)
  | 19 => ("ControlledStationModel", "freezes", "I", false)
  | 20 => ("ControlledStationModel", "ticks", "I", false)
  | 21 => ("ControlledStationModel", "clock", "[I", true)
  | 22 => ("ControlledStationModel", "isSet", "Z", false)
  | 23 => ("ControlledStationModel", "events", "I", false)
  | 24 => ("ControlledStationModel", "eventPoint", "[I", true)
  | 25 => ("ControlledStationModel", "eventValue", "[I", true)
  | 26 => ("ControlledStationModel", "eventQuality", "[I", true)
  | 27 => ("ControlledStationModel", "eventTime", "[I", true)
  | 28 => ("ControlledStationModel", "sentMany", "I", false)
  | 29 => ("ControlledStationModel", "sentAt", "[I", true)
  | 30 => ("ControlledStationModel", "sentEvent", "[Z", true)
  | 31 => ("ControlledStationModel", "sentPoint", "[I", true)
  | 32 => ("ControlledStationModel", "sentValue", "[I", true)
  | 33 => ("ControlledStationModel", "sentQuality", "[I", true)
  | 34 => ("ControlledStationModel", "sentTime", "[I", true)
  | 35 => ("ControlledStationModel", "link", "I", false)
  | 36 => ("ControlledStationModel", "reason", "I", false)
  | 37 => ("ControlledStationModel", "sent", "I", false)
  | 38 => ("ControlledStationModel", "came", "I", false)
  | 39 => ("ControlledStationModel", "told", "I", false)
  | 40 => ("ControlledStationModel", "firstAt", "I", false)
  | 41 => ("ControlledStationModel", "frameAt", "I", false)
  | 42 => ("ControlledStationModel", "tests", "Z", false)
  | 43 => ("ControlledStationModel", "testAt", "I", false)
  | 44 => ("ControlledStationModel", "passed", "I", false)
  | 45 => ("ControlledStationModel", "answers", "I", false)
  | 46 => ("ControlledStationModel", "answerSize", "[I", true)
  | 47 => ("ControlledStationModel", "answer", "[I", true)
  | 48 => ("ControlledStationModel", "out", "[I", true)
  | 49 => ("ControlledStationModel", "outSize", "I", false)
  | 50 => ("ControlledStationModel", "frame", "[I", true)
  | 51 => ("ControlledStationModel", "framed", "I", false)
  | 52 => ("ControlledStationModel", "draft", "[I", true)
  | 53 => ("ControlledStationModel", "drafted", "I", false)
  | _ => ("ControlledStationModel", "row", "[I", true)
def tyX12 : Nat → FieldType := fun k => match k with
  | 0 => .array .int
  | 1 => .int
  | 2 => .array .int
  | 3 => .array .int
  | 4 => .array .int
  | 5 => .array .boolean
  | 6 => .array .int
  | 7 => .array .int
  | 8 => .array .int
  | 9 => .int
  | 10 => .array .int
  | 11 => .array .int
  | 12 => .array .int
  | 13 => .array .boolean
  | 14 => .array .int
  | 15 => .int
  | 16 => .int
  | 17 => .int
  | 18 => .array .int
  | 19 => .int
  | 20 => .int
  | 21 => .array .int
  | 22 => .boolean
  | 23 => .int
  | 24 => .array .int
  | 25 => .array .int
  | 26 => .array .int
  | 27 => .array .int
  | 28 => .int
  | 29 => .array .int
  | 30 => .array .boolean
  | 31 => .array .int
  | 32 => .array .int
  | 33 => .array .int
  | 34 => .array .int
  | 35 => .int
  | 36 => .int
  | 37 => .int
  | 38 => .int
  | 39 => .int
  | 40 => .int
  | 41 => .int
  | 42 => .boolean
  | 43 => .int
  | 44 => .int
  | 45 => .int
  | 46 => .array .int
  | 47 => .array .int
  | 48 => .array .int
  | 49 => .int
  | 50 => .array .int
  | 51 => .int
  | 52 => .array .int
  | 53 => .int
  | _ => .array .int
theorem nmX12 : ∀ a, a < 55 → ∀ b, b < 55 → a ≠ b → (TX12 a).2.1 ≠ (TX12 b).2.1 := by decide +kernel
theorem tyX12_ok : ∀ k, k < 55 → parseFieldDescriptor (TX12 k).2.2.1 = some (tyX12 k) := by decide +kernel
abbrev cX12_init : ByteArray := prog_14_method_1_code
def yX12_init : MethodName := ⟨RX12, "<init>", "()V"⟩
abbrev cX12_in : ByteArray := prog_14_method_3_code
def yX12_in : MethodName := ⟨RX12, "in", "(JJJ)Z"⟩
abbrev cX12_isPoint : ByteArray := prog_14_method_4_code
def yX12_isPoint : MethodName := ⟨RX12, "isPoint", "(I)Z"⟩
abbrev cX12_set : ByteArray := prog_14_method_5_code
def yX12_set : MethodName := ⟨RX12, "set", "(II)I"⟩
abbrev cX12_isFree : ByteArray := prog_14_method_6_code
def yX12_isFree : MethodName := ⟨RX12, "isFree", "(I)Z"⟩
abbrev cX12_point : ByteArray := prog_14_method_7_code
def yX12_point : MethodName := ⟨RX12, "point", "(IIIZ)I"⟩
abbrev cX12_command : ByteArray := prog_14_method_8_code
def yX12_command : MethodName := ⟨RX12, "command", "(IIIZ)I"⟩
abbrev cX12_isValue : ByteArray := prog_14_method_9_code
def yX12_isValue : MethodName := ⟨RX12, "isValue", "(II)Z"⟩
abbrev cX12_change : ByteArray := prog_14_method_10_code
def yX12_change : MethodName := ⟨RX12, "change", "(III)I"⟩
abbrev cX12_timeByte : ByteArray := prog_14_method_11_code
def yX12_timeByte : MethodName := ⟨RX12, "timeByte", "(I)I"⟩
abbrev cX12_byteOut : ByteArray := prog_14_method_12_code
def yX12_byteOut : MethodName := ⟨RX12, "byteOut", "(I)V"⟩
abbrev cX12_frames : ByteArray := prog_14_method_13_code
def yX12_frames : MethodName := ⟨RX12, "frames", "(IIIII)Z"⟩
abbrev cX12_ackLow : ByteArray := prog_14_method_14_code
def yX12_ackLow : MethodName := ⟨RX12, "ackLow", "()I"⟩
abbrev cX12_ackHigh : ByteArray := prog_14_method_15_code
def yX12_ackHigh : MethodName := ⟨RX12, "ackHigh", "()I"⟩
abbrev cX12_tells : ByteArray := prog_14_method_16_code
def yX12_tells : MethodName := ⟨RX12, "tells", "()V"⟩
abbrev cX12_sendsDraft : ByteArray := prog_14_method_17_code
def yX12_sendsDraft : MethodName := ⟨RX12, "sendsDraft", "()Z"⟩
abbrev cX12_put : ByteArray := prog_14_method_18_code
def yX12_put : MethodName := ⟨RX12, "put", "(I)V"⟩
abbrev cX12_putNumber : ByteArray := prog_14_method_19_code
def yX12_putNumber : MethodName := ⟨RX12, "putNumber", "(II)V"⟩
abbrev cX12_typeOf : ByteArray := prog_14_method_20_code
def yX12_typeOf : MethodName := ⟨RX12, "typeOf", "(I)I"⟩
abbrev cX12_timedTypeOf : ByteArray := prog_14_method_21_code
def yX12_timedTypeOf : MethodName := ⟨RX12, "timedTypeOf", "(I)I"⟩
abbrev cX12_head : ByteArray := prog_14_method_22_code
def yX12_head : MethodName := ⟨RX12, "head", "(IIII)V"⟩
abbrev cX12_object : ByteArray := prog_14_method_23_code
def yX12_object : MethodName := ⟨RX12, "object", "(III)V"⟩
abbrev cX12_sends : ByteArray := prog_14_method_24_code
def yX12_sends : MethodName := ⟨RX12, "sends", "()V"⟩
abbrev cX12_firstAnswerGoes : ByteArray := prog_14_method_25_code
def yX12_firstAnswerGoes : MethodName := ⟨RX12, "firstAnswerGoes", "()V"⟩
abbrev cX12_sendsEvent : ByteArray := prog_14_method_26_code
def yX12_sendsEvent : MethodName := ⟨RX12, "sendsEvent", "()Z"⟩
abbrev cX12_moveEvent : ByteArray := prog_14_method_27_code
def yX12_moveEvent : MethodName := ⟨RX12, "moveEvent", "(II)V"⟩
abbrev cX12_closes : ByteArray := prog_14_method_28_code
def yX12_closes : MethodName := ⟨RX12, "closes", "(I)V"⟩
abbrev cX12_open : ByteArray := prog_14_method_29_code
def yX12_open : MethodName := ⟨RX12, "open", "()I"⟩
abbrev cX12_close : ByteArray := prog_14_method_30_code
def yX12_close : MethodName := ⟨RX12, "close", "()I"⟩
abbrev cX12_come : ByteArray := prog_14_method_31_code
def yX12_come : MethodName := ⟨RX12, "come", "(IJ)I"⟩
abbrev cX12_canBe : ByteArray := prog_14_method_32_code
def yX12_canBe : MethodName := ⟨RX12, "canBe", "()Z"⟩
abbrev cX12_acknowledges : ByteArray := prog_14_method_33_code
def yX12_acknowledges : MethodName := ⟨RX12, "acknowledges", "()Z"⟩
abbrev cX12_takes : ByteArray := prog_14_method_34_code
def yX12_takes : MethodName := ⟨RX12, "takes", "()V"⟩
abbrev cX12_takesData : ByteArray := prog_14_method_35_code
def yX12_takesData : MethodName := ⟨RX12, "takesData", "()V"⟩
abbrev cX12_takesOrder : ByteArray := prog_14_method_36_code
def yX12_takesOrder : MethodName := ⟨RX12, "takesOrder", "(I)V"⟩
abbrev cX12_at : ByteArray := prog_14_method_37_code
def yX12_at : MethodName := ⟨RX12, "at", "(I)I"⟩
abbrev cX12_waits : ByteArray := prog_14_method_38_code
def yX12_waits : MethodName := ⟨RX12, "waits", "()Z"⟩
abbrev cX12_same : ByteArray := prog_14_method_39_code
def yX12_same : MethodName := ⟨RX12, "same", "(IZ)V"⟩
abbrev cX12_lengthOf : ByteArray := prog_14_method_40_code
def yX12_lengthOf : MethodName := ⟨RX12, "lengthOf", "(I)I"⟩
abbrev cX12_isOrder : ByteArray := prog_14_method_41_code
def yX12_isOrder : MethodName := ⟨RX12, "isOrder", "(I)Z"⟩
abbrev cX12_rest : ByteArray := prog_14_method_42_code
def yX12_rest : MethodName := ⟨RX12, "rest", "()V"⟩
abbrev cX12_isTest : ByteArray := prog_14_method_43_code
def yX12_isTest : MethodName := ⟨RX12, "isTest", "()Z"⟩
abbrev cX12_commanded : ByteArray := prog_14_method_44_code
def yX12_commanded : MethodName := ⟨RX12, "commanded", "(III)V"⟩
abbrev cX12_keepBytes : ByteArray := prog_14_method_45_code
def yX12_keepBytes : MethodName := ⟨RX12, "keepBytes", "(I)V"⟩
abbrev cX12_areBytes : ByteArray := prog_14_method_46_code
def yX12_areBytes : MethodName := ⟨RX12, "areBytes", "(I)Z"⟩
abbrev cX12_carriesOut : ByteArray := prog_14_method_47_code
def yX12_carriesOut : MethodName := ⟨RX12, "carriesOut", "(III)V"⟩
abbrev cX12_reads : ByteArray := prog_14_method_48_code
def yX12_reads : MethodName := ⟨RX12, "reads", "(I)V"⟩
abbrev cX12_objects : ByteArray := prog_14_method_49_code
def yX12_objects : MethodName := ⟨RX12, "objects", "(IZI)V"⟩
abbrev cX12_freezes : ByteArray := prog_14_method_50_code
def yX12_freezes : MethodName := ⟨RX12, "freezes", "(I)V"⟩
abbrev cX12_asked : ByteArray := prog_14_method_51_code
def yX12_asked : MethodName := ⟨RX12, "asked", "(II)V"⟩
abbrev cX12_daysOf : ByteArray := prog_14_method_52_code
def yX12_daysOf : MethodName := ⟨RX12, "daysOf", "(II)I"⟩
abbrev cX12_isTime : ByteArray := prog_14_method_53_code
def yX12_isTime : MethodName := ⟨RX12, "isTime", "()Z"⟩
abbrev cX12_clockGoes : ByteArray := prog_14_method_54_code
def yX12_clockGoes : MethodName := ⟨RX12, "clockGoes", "()V"⟩
abbrev cX12_tickGoes : ByteArray := prog_14_method_55_code
def yX12_tickGoes : MethodName := ⟨RX12, "tickGoes", "()V"⟩
abbrev cX12_tick : ByteArray := prog_14_method_56_code
def yX12_tick : MethodName := ⟨RX12, "tick", "(I)I"⟩
abbrev cX12_out : ByteArray := prog_14_method_57_code
def yX12_out : MethodName := ⟨RX12, "out", "(I)I"⟩
abbrev cX12_take : ByteArray := prog_14_method_58_code
def yX12_take : MethodName := ⟨RX12, "take", "(I)I"⟩
abbrev cX12_told : ByteArray := prog_14_method_59_code
def yX12_told : MethodName := ⟨RX12, "told", "(II)I"⟩
abbrev cX12_ordered : ByteArray := prog_14_method_60_code
def yX12_ordered : MethodName := ⟨RX12, "ordered", "(II)I"⟩
abbrev cX12_clock : ByteArray := prog_14_method_61_code
def yX12_clock : MethodName := ⟨RX12, "clock", "(I)I"⟩
abbrev cX12_count : ByteArray := prog_14_method_62_code
def yX12_count : MethodName := ⟨RX12, "count", "(I)I"⟩
def RJ9 : String := "java/lang/Math"
abbrev cJ9_max_7cf53 : ByteArray := prog_15_method_65_code
def yJ9_max_7cf53 : MethodName := ⟨RJ9, "max", "(II)I"⟩
abbrev cJ9_min_7cf53 : ByteArray := prog_15_method_69_code
def yJ9_min_7cf53 : MethodName := ⟨RJ9, "min", "(II)I"⟩
def RJ10 : String := "java/lang/System"
def RL : String := "ControlledStationLaw"
abbrev cL_law : ByteArray := code
def yL_law : MethodName := ⟨RL, "law", "([I)Z"⟩
abbrev vwCl : List vw_C := [(RX0, TX0, 5), (RX1, TX1, 7), (RX2, TX2, 5), (RX3, TX3, 7), (RX4, TX4, 2), (RX5, TX5, 3), (RX6, TX6, 7), (RX7, TX7, 3), (RX8, TX8, 7), (RX9, TX9, 4), (RX10, TX10, 5), (RX11, TX11, 19), (RX12, TX12, 55)]
end
section
def aT : List FieldType := [.int, .byte, .boolean, .long, .object "ControlledStation$Point", .object "ControlledStation$Command", .object "ControlledStation$Message"]
def tyC : Nat → Nat → FieldType := fun ci => match ci with
  | 0 => tyX0
  | 1 => tyX1
  | 2 => tyX2
  | 3 => tyX3
  | 4 => tyX4
  | 5 => tyX5
  | 6 => tyX6
  | 7 => tyX7
  | 8 => tyX8
  | 9 => tyX9
  | 10 => tyX10
  | 11 => tyX11
  | _ => tyX12
abbrev eTab : Type := String × String × String × (List Int32 ⊕ List Int64)
def sT : List eTab := [
  ("ControlledStation", "LEAST", "[I", .inl [0, 1, 1, 1, 1, 1, 1]),
  ("ControlledStation", "MOST", "[I", .inl [65534, 12, 12, 1000, 1000, 1000, 1000]),
  ("ControlledStation", "COMMAND_POINTS", "[I", .inl [0, 1, 4]),
  ("ControlledStation", "LEAST_VALUES", "[I", .inl [0, 0, -64, -32768, -32768, -2147483648, -2147483648]),
  ("ControlledStation", "MOST_VALUES", "[I", .inl [1, 3, 63, 32767, 32767, 2147483647, 2147483647]),
  ("ControlledStation", "QUALITIES", "[I", .inl [30, 30, 31, 31, 31, 31, 16]),
  ("ControlledStation", "VALUE_MASKS", "[J", .inr [0, 0, 127, 65535, 65535, 4294967295, 4294967295]),
  ("ControlledStation", "VALUE_BYTES", "[I", .inl [0, 0, 1, 2, 2, 4, 4]),
  ("ControlledStation", "TIMED_TYPES", "[I", .inl [30, 31, 32, 34, 35, 36, 37]),
  ("ControlledStation", "TYPES", "[I", .inl [1, 3, 5, 9, 11, 13, 15]),
  ("ControlledStation", "COMMAND_TYPES", "[I", .inl [45, 46, 49]),
  ("ControlledStation", "DAYS", "[I", .inl [31, 28, 31, 30, 31, 30, 31, 31, 30, 31, 30, 31]),
  ("ControlledStation", "COMMAND_BYTES", "[I", .inl [1, 1, 3])]
/-! ===== the store: what lies in the cells that came since the law's entry ===== -/
abbrev eS : Type := (Nat → Nat) × (Nat → Nat) × (Nat → Nat → Int32) × (Nat → Nat → Int64) × (Nat → Nat → Option Nat) × Nat × Nat
def sK (σ : eS) : Nat → Nat := σ.1
def sN (σ : eS) : Nat → Nat := σ.2.1
def sI (σ : eS) : Nat → Nat → Int32 := σ.2.2.1
def sL (σ : eS) : Nat → Nat → Int64 := σ.2.2.2.1
def sP (σ : eS) : Nat → Nat → Option Nat := σ.2.2.2.2.1
def sn (σ : eS) : Nat := σ.2.2.2.2.2.1
def ss (σ : eS) : Nat := σ.2.2.2.2.2.2
def e_u {α : Type} (f : Nat → Nat → α) (a k : Nat) (x : α) : Nat → Nat → α := fun b j => if b = a then (if j = k then x else f b j) else f b j
def e_row {α : Type} (f : Nat → Nat → α) (a : Nat) (g : Nat → α) : Nat → Nat → α := fun b j => if b = a then g j else f b j
def e_I (σ : eS) (a k : Nat) (x : Int32) : eS := (sK σ, sN σ, e_u (sI σ) a k x, sL σ, sP σ, sn σ, ss σ)
def e_L (σ : eS) (a k : Nat) (x : Int64) : eS := (sK σ, sN σ, sI σ, e_u (sL σ) a k x, sP σ, sn σ, ss σ)
def e_P (σ : eS) (a k : Nat) (x : Option Nat) : eS := (sK σ, sN σ, sI σ, sL σ, e_u (sP σ) a k x, sn σ, ss σ)
def e_IR (σ : eS) (a : Nat) (g : Nat → Int32) : eS := (sK σ, sN σ, e_row (sI σ) a g, sL σ, sP σ, sn σ, ss σ)
def e_new (σ : eS) (t n w : Nat) : eS := (fun b => if b = sn σ then t else sK σ b, fun b => if b = sn σ then n else sN σ b, e_row (sI σ) (sn σ) (fun _ => 0), e_row (sL σ) (sn σ) (fun _ => 0), e_row (sP σ) (sn σ) (fun _ => none), sn σ + 1, ss σ + w)
/-! values -/
abbrev eW : Type := Int32 ⊕ Int64 ⊕ Option Nat
abbrev VI (x : Int32) : eW := .inl x
abbrev VL (x : Int64) : eW := .inr (.inl x)
abbrev VR (r : Option Nat) : eW := .inr (.inr r)
def e_cat : eW → Nat
  | .inr (.inl _) => 2
  | _ => 1
/-! the surroundings: launch, classes' numbers, slots, array classes, addresses of the static tables, heap at the law's entry -/
abbrev eE : Type := Launch × (Nat → ClassId) × (Nat → Nat → Nat) × (Nat → ClassId) × (Nat → Nat) × Heap
def e_dC (E : eE) : Nat → ClassId := E.2.1
def e_dI (E : eE) : Nat → Nat → Nat := E.2.2.1
def e_cA (E : eE) : Nat → ClassId := E.2.2.2.1
def e_ta (E : eE) : Nat → Nat := E.2.2.2.2.1
def e_HB (E : eE) : Heap := E.2.2.2.2.2
def e_b (E : eE) : Nat := (e_HB E).size
def e_f (E : eE) (a : Nat) : Nat := if a < 1000000000 then e_b E + a else e_ta E (a - 1000000000)
def e_r (E : eE) (r : Option Nat) : Value := va_rf (r.map (e_f E))
def e_w (E : eE) (w : eW) : Value := match w with
  | .inl x => .int x
  | .inr (.inl x) => .long x
  | .inr (.inr r) => e_r E r
def e_v (E : eE) (ty : FieldType) (σ : eS) (a k : Nat) : Value := match ty with
  | .long => .long (sL σ a k)
  | .object _ => e_r E (sP σ a k)
  | .array _ => e_r E (sP σ a k)
  | _ => .int (sI σ a k)
theorem e_w_cat (E : eE) (w : eW) : (e_w E w).category = e_cat w := by
  rcases w with x | x | r
  · rfl
  · rfl
  · cases r <;> rfl
/-- the cell a as the heap has it -/
def e_c (E : eE) (σ : eS) (a : Nat) (H : Heap) : Prop :=
  (∃ ty, aT[sK σ a]? = some ty ∧ sK σ a < 100 ∧ H[e_b E + a]? = some (arrV (e_cA E (sK σ a)) (sN σ a) (fun j => e_v E ty σ a j)) ∧ ∀ j, fits ty (e_v E ty σ a j) = true) ∨
  (∃ r, vwCl[sK σ a - 100]? = some r ∧ 100 ≤ sK σ a ∧ t_OB (e_b E + a) (e_dC E (sK σ a - 100)) r.2.2 (e_dI E (sK σ a - 100)) H (fun k => e_v E (tyC (sK σ a - 100) k) σ a k))
def eH (E : eE) (σ : eS) (H : Heap) : Prop := H.size = e_b E + sn σ ∧ sn σ ≤ 500000000 ∧ (∀ a, a < sn σ → e_c E σ a H) ∧ ∀ q, q < e_b E → H[q]? = (e_HB E)[q]?
/-! the static tables -/
def e_tf : (List Int32 ⊕ List Int64) → Nat → Value
  | .inl l, j => .int (l.getD j 0)
  | .inr l, j => .long (l.getD j 0)
def e_tn : (List Int32 ⊕ List Int64) → Nat
  | .inl l => l.length
  | .inr l => l.length
def e_tt : (List Int32 ⊕ List Int64) → FieldType
  | .inl _ => .int
  | .inr _ => .long
def e_nest : Cond → Bool
  | .fieldLinkNest .. => true
  | .methodLinkNest .. => true
  | _ => false
def eT : List Cond := lw_tbl.filter goodWord
def eN : List Cond := lw_tbl.filter e_nest
theorem eT_of {w : Cond} (h : w ∈ lw_tbl) (g : goodWord w = true) : w ∈ eT := List.mem_filter.mpr ⟨h, g⟩
theorem eN_of {w : Cond} (h : w ∈ lw_tbl) (g : e_nest w = true) : w ∈ eN := List.mem_filter.mpr ⟨h, g⟩
theorem eT_good : GoodIn eT eT := fun w h => ⟨h, good_of_word (List.mem_filter.mp h).2⟩
abbrev e_A (E : eE) : Nat → Prop := fun q => e_b E ≤ q
def eK (E : eE) (U : State) : Prop :=
  (∀ (c : Nat) (q : vw_C), vwCl[c]? = some q → u_Kn U q.1 q.2.1 q.2.2 (e_dC E c) (e_dI E c)) ∧
  (∀ (t : Nat) (ty : FieldType), aT[t]? = some ty → ArrOfT U (e_cA E t) ty ∧ va_RA U (e_cA E t) ty) ∧
  (∀ (j : Nat) (r : eTab), sT[j]? = some r → va_Z r.1 r.2.1 r.2.2.1 (.ref (e_ta E j)) (e_A E) U (e_HB E) ∧ va_T (e_tt r.2.2.2) (e_ta E j) (e_tn r.2.2.2) (e_tf r.2.2.2) (e_A E) U (e_HB E)) ∧
  (∀ w ∈ eN, va_Nw w U)
theorem eK_warm {E : eE} {s U : State} (hW : s.WarmedH U.vm) (h : eK E s) : eK E U := by
  have ha := hW.alike
  refine ⟨fun c q hq => u_Kn_moved ha (h.1 c q hq), fun t ty ht => ⟨arrOfT_moved ha (h.2.1 t ty ht).1, (h.2.1 t ty ht).2.moved ha⟩, fun j r hj => ⟨(h.2.2.1 j r hj).1.moved ha, (h.2.2.1 j r hj).2.moved ha⟩, fun w hw => ?_⟩
  have h1 := h.2.2.2 w hw
  have h2 := (List.mem_filter.mp hw).2
  cases w with
  | fieldLinkNest a i b n d x => exact va_Nw.warmF hW h1
  | methodLinkNest a i x y => exact va_Nw.warmM hW h1
  | _ => cases h2
theorem eK_vm {E : eE} {u U : State} (hvm : u.vm = U.vm) (h : eK E u) : eK E U := by
  have ha : u.vm.Alike U.vm := hvm ▸ Vm.Alike.refl u.vm
  refine ⟨fun c q hq => u_Kn_moved ha (h.1 c q hq), fun t ty ht => ⟨arrOfT_moved ha (h.2.1 t ty ht).1, (h.2.1 t ty ht).2.moved ha⟩, fun j r hj => ⟨(h.2.2.1 j r hj).1.moved ha, (h.2.2.1 j r hj).2.moved ha⟩, fun w hw => ?_⟩
  have h1 := h.2.2.2 w hw
  have h2 := (List.mem_filter.mp hw).2
  cases w with
  | fieldLinkNest a i b n d x => exact va_tabs rfl hvm h1
  | methodLinkNest a i x y => exact va_tabs rfl hvm h1
  | _ => cases h2
/-! a method: its bytes, its class, its locals, whether it is a constructor, frames and locals below it -/
abbrev eM : Type := ByteArray × String × Nat × Bool × Nat × Nat
def eC (E : eE) (M : eM) (p : Program) (s : State) (m : MethodId) (args : Array Value) (meth : Method) (c : Code) : Prop :=
  p.tables.exec = Jvm.exec ∧ c.code = M.1 ∧ c.maxLocals = M.2.2.1 ∧ s.vm.findClass M.2.1 = some m.cls ∧ (∀ w ∈ eT, w.before args s = true) ∧ eK E s ∧ (M.2.2.2.1 = true → meth.name = "<init>")
abbrev e_lv (E : eE) (lv : List (Nat × eW)) : List (Nat × Value) := lv.map (fun q => (q.1, e_w E q.2))
def eR (cc : ByteArray) (pc : Nat) (v : Option eW) : Prop := match v with
  | none => decode cc pc = .ok (.return_, 1)
  | some (.inl _) => decode cc pc = .ok (.ireturn, 1)
  | some (.inr (.inl _)) => decode cc pc = .ok (.lreturn, 1)
  | some (.inr (.inr _)) => decode cc pc = .ok (.areturn, 1)
/-- from (pc, locals, stack) over the store σ the method comes to its return, with v, over the store σ' -/
def EV (E : eE) (M : eM) (pc : Nat) (lv : List (Nat × eW)) (st : List eW) (σ : eS) (v : Option eW) (σ' : eS) : Prop :=
  (sn σ ≤ sn σ' ∧ ss σ ≤ ss σ') ∧ ∀ (p : Program) (e : Env) (R : Room) (s : State) (m : MethodId) (args : Array Value) (below : List Frame) (meth : Method) (c : Code) (H : Heap) (locs : List Loc) (cells slots : Nat) (Q : State → Prop) (ls : Array Slot),
    eC E M p s m args meth c → (M.2.2.2.2.1 ≤ R.frames ∧ M.2.2.2.2.2 ≤ R.locals) → (cells + (sn σ' - sn σ) ≤ R.cells ∧ slots + (ss σ' - ss σ) ≤ R.slots) → eH E σ H → (∀ q ∈ locs, e_b E ≤ q.base) → lv_has ls M.2.2.1 (e_lv E lv) →
    (∀ (H' : Heap) (locs' : List Loc) (ls' : Array Slot) (pc' : Nat), eH E σ' H' → (∀ q ∈ locs', e_b E ≤ q.base) → eR M.1 pc' v → W p E.1 e R s m args below meth c H' locs' (cells + (sn σ' - sn σ)) (slots + (ss σ' - ss σ)) Q (F0 m pc' ls' (v.toList.map (e_w E)))) →
    W p E.1 e R s m args below meth c H locs cells slots Q (F0 m pc ls (st.map (e_w E)))
section EVR
variable {E : eE} {M : eM} {pc : Nat} {lv lv2 : List (Nat × eW)} {st st2 : List eW} {σ σ' : eS} {v : Option eW}
/-- a step that leaves the store -/
theorem EV_step {pc2 : Nat} (h : EV E M pc2 lv2 st2 σ v σ') (go : ∀ {p : Program} {e : Env} {R : Room} {s : State} {m : MethodId} {args : Array Value} {below : List Frame} {meth : Method} {c : Code} {H : Heap} {locs : List Loc} {cells slots : Nat} {Q : State → Prop} {ls : Array Slot}, eC E M p s m args meth c → (M.2.2.2.2.1 ≤ R.frames ∧ M.2.2.2.2.2 ≤ R.locals) → (cells ≤ R.cells ∧ slots ≤ R.slots) → eH E σ H → lv_has ls M.2.2.1 (e_lv E lv) →
    (∀ ls2 : Array Slot, lv_has ls2 M.2.2.1 (e_lv E lv2) → W p E.1 e R s m args below meth c H locs cells slots Q (F0 m pc2 ls2 (st2.map (e_w E)))) → W p E.1 e R s m args below meth c H locs cells slots Q (F0 m pc ls (st.map (e_w E)))) : EV E M pc lv st σ v σ' :=
  ⟨h.1, fun p e R s m args below meth c H locs cells slots Q ls hC hR hc hH hL hl k => go hC hR ⟨Nat.le_trans (Nat.le_add_right _ _) hc.1, Nat.le_trans (Nat.le_add_right _ _) hc.2⟩ hH hl (fun ls2 hl2 => h.2 p e R s m args below meth c H locs cells slots Q ls2 hC hR hc hH hL hl2 k)⟩
/-- a branch -/
theorem EV_two {c0 : Prop} {p1 p2 : Nat} {st1 : List eW} (h1 : c0 → EV E M p1 lv st1 σ v σ') (h2 : ¬ c0 → EV E M p2 lv st1 σ v σ') (go : ∀ {p : Program} {e : Env} {R : Room} {s : State} {m : MethodId} {args : Array Value} {below : List Frame} {meth : Method} {c : Code} {H : Heap} {locs : List Loc} {cells slots : Nat} {Q : State → Prop} {ls : Array Slot}, eC E M p s m args meth c → eH E σ H → lv_has ls M.2.2.1 (e_lv E lv) →
    (c0 → W p E.1 e R s m args below meth c H locs cells slots Q (F0 m p1 ls (st1.map (e_w E)))) → (¬ c0 → W p E.1 e R s m args below meth c H locs cells slots Q (F0 m p2 ls (st1.map (e_w E)))) → W p E.1 e R s m args below meth c H locs cells slots Q (F0 m pc ls (st.map (e_w E)))) : EV E M pc lv st σ v σ' := by
  refine ⟨?_, fun p e R s m args below meth c H locs cells slots Q ls hC hR hc hH hL hl k => go hC hH hl (fun z => (h1 z).2 p e R s m args below meth c H locs cells slots Q ls hC hR hc hH hL hl k) (fun z => (h2 z).2 p e R s m args below meth c H locs cells slots Q ls hC hR hc hH hL hl k)⟩
  by_cases z : c0
  · exact (h1 z).1
  · exact (h2 z).1
theorem EV_lv (h : EV E M pc lv2 st σ v σ') (hs : ∀ q ∈ lv2, q ∈ lv) : EV E M pc lv st σ v σ' :=
  EV_step h fun hC hR hc hH hl k => k _ ⟨hl.1, hl.2.1, fun q hq => by
    obtain ⟨q0, h1, h2⟩ := List.mem_map.mp hq
    exact hl.2.2 q (List.mem_map.mpr ⟨q0, hs q0 h1, h2⟩)⟩
def e_lk (lv : List (Nat × eW)) (i : Nat) : Option eW := match lv with
  | [] => none
  | q :: r => if q.1 = i then some q.2 else e_lk r i
theorem e_lk_mem : ∀ {lv : List (Nat × eW)} {i : Nat} {w : eW}, e_lk lv i = some w → (i, w) ∈ lv
  | q :: r, i, w, h => by
    unfold e_lk at h
    by_cases hq : q.1 = i
    · rw [if_pos hq] at h
      cases h
      rw [← hq]
      exact List.mem_cons_self
    · rw [if_neg hq] at h
      exact List.mem_cons_of_mem _ (e_lk_mem h)
theorem e_lk_at {ls : Array Slot} {nL : Nat} {i : Nat} {w : eW} (hl : lv_has ls nL (e_lv E lv)) (h : e_lk lv i = some w) : ls[i]? = some (.val (e_w E w)) := hl.2.2 (i, e_w E w) (List.mem_map.mpr ⟨(i, w), e_lk_mem h, rfl⟩)
def e_s1 (lv : List (Nat × eW)) (i : Nat) : List (Nat × eW) := lv.filter (fun q => !(q.1 == i) && !(q.1 + 1 == i && e_cat q.2 == 2))
def e_s2 (lv : List (Nat × eW)) (i : Nat) : List (Nat × eW) := lv.filter (fun q => !(q.1 == i) && (!(q.1 == i + 1) && !(q.1 + 1 == i && e_cat q.2 == 2)))
theorem e_s1_map (i : Nat) : (e_lv E lv).filter (fun q => !(q.1 == i) && !(q.1 + 1 == i && q.2.category == 2)) = e_lv E (e_s1 lv i) := by
  unfold e_lv e_s1
  rw [List.filter_map]
  congr 1
  apply List.filter_congr
  intro q _
  simp only [Function.comp, e_w_cat]
theorem e_s2_map (i : Nat) : (e_lv E lv).filter (fun q => !(q.1 == i) && (!(q.1 == i + 1) && !(q.1 + 1 == i && q.2.category == 2))) = e_lv E (e_s2 lv i) := by
  unfold e_lv e_s2
  rw [List.filter_map]
  congr 1
  apply List.filter_congr
  intro q _
  simp only [Function.comp, e_w_cat]
theorem EV_iconst {n : Int} {x : Int32} (hd : decode M.1 pc = .ok (.iconst n, 1)) (hv : Int32.ofInt n = x) (h : EV E M (pc + 1) lv (VI x :: st) σ v σ') : EV E M pc lv st σ v σ' := EV_step h fun hC hR hc hH hl k => lv_iconst hC.1 hC.2.1 hd hv (k _ hl)
theorem EV_bipush {n : Int} {x : Int32} (hd : decode M.1 pc = .ok (.bipush n, 2)) (hv : (Int8.ofInt n).toInt32 = x) (h : EV E M (pc + 2) lv (VI x :: st) σ v σ') : EV E M pc lv st σ v σ' := EV_step h fun hC hR hc hH hl k => lv_bipush hC.1 hC.2.1 hd hv (k _ hl)
theorem EV_sipush {n : Int} {x : Int32} (hd : decode M.1 pc = .ok (.sipush n, 3)) (hv : (Int16.ofInt n).toInt32 = x) (h : EV E M (pc + 3) lv (VI x :: st) σ v σ') : EV E M pc lv st σ v σ' := EV_step h fun hC hR hc hH hl k => lv_sipush hC.1 hC.2.1 hd hv (k _ hl)
theorem EV_lconst {n : Fin 2} {x : Int64} (hd : decode M.1 pc = .ok (.lconst n, 1)) (hv : Int64.ofNat (n : Nat) = x) (h : EV E M (pc + 1) lv (VL x :: st) σ v σ') : EV E M pc lv st σ v σ' := EV_step h fun hC hR hc hH hl k => lv_lconst hC.1 hC.2.1 hd hv (k _ hl)
theorem EV_iload_n {k0 : Fin 4} {x : Int32} (hd : decode M.1 pc = .ok (.iload_n k0, 1)) (hv : e_lk lv k0 = some (VI x)) (h : EV E M (pc + 1) lv (VI x :: st) σ v σ') : EV E M pc lv st σ v σ' := EV_step h fun hC hR hc hH hl k => lv_iload_n hC.1 hC.2.1 hd rfl (e_lk_at hl hv) (k _ hl)
theorem EV_iload {i : Nat} {x : Int32} (hd : decode M.1 pc = .ok (.iload i, 2)) (hv : e_lk lv i = some (VI x)) (h : EV E M (pc + 2) lv (VI x :: st) σ v σ') : EV E M pc lv st σ v σ' := EV_step h fun hC hR hc hH hl k => lv_iload hC.1 hC.2.1 hd (e_lk_at hl hv) (k _ hl)
theorem EV_lload_n {k0 : Fin 4} {x : Int64} (hd : decode M.1 pc = .ok (.lload_n k0, 1)) (hv : e_lk lv k0 = some (VL x)) (h : EV E M (pc + 1) lv (VL x :: st) σ v σ') : EV E M pc lv st σ v σ' := EV_step h fun hC hR hc hH hl k => lv_lload_n hC.1 hC.2.1 hd rfl (e_lk_at hl hv) (k _ hl)
theorem EV_lload {i : Nat} {x : Int64} (hd : decode M.1 pc = .ok (.lload i, 2)) (hv : e_lk lv i = some (VL x)) (h : EV E M (pc + 2) lv (VL x :: st) σ v σ') : EV E M pc lv st σ v σ' := EV_step h fun hC hR hc hH hl k => lv_lload hC.1 hC.2.1 hd (e_lk_at hl hv) (k _ hl)
theorem EV_aload_n {k0 : Fin 4} {r : Option Nat} (hd : decode M.1 pc = .ok (.aload_n k0, 1)) (hv : e_lk lv k0 = some (VR r)) (h : EV E M (pc + 1) lv (VR r :: st) σ v σ') : EV E M pc lv st σ v σ' := EV_step h fun hC hR hc hH hl k => by
  have hz := e_lk_at hl hv
  cases r with
  | none => exact lv_aload_nN hC.1 hC.2.1 hd rfl hz (k _ hl)
  | some a => exact lv_aload_n hC.1 hC.2.1 hd rfl hz (k _ hl)
theorem EV_aload {k0 : Nat} {r : Option Nat} (hd : decode M.1 pc = .ok (.aload k0, 2)) (hv : e_lk lv k0 = some (VR r)) (h : EV E M (pc + 2) lv (VR r :: st) σ v σ') : EV E M pc lv st σ v σ' := EV_step h fun hC hR hc hH hl k => by
  have hz := e_lk_at hl hv
  cases r with
  | none => exact lv_aloadN hC.1 hC.2.1 hd  hz (k _ hl)
  | some a => exact lv_aload hC.1 hC.2.1 hd  hz (k _ hl)
theorem EV_istore_n {k0 : Fin 4} {x : Int32} (hd : decode M.1 pc = .ok (.istore_n k0, 1)) (hn : (k0 : Nat) < M.2.2.1) (hv : (↑k0, VI x) :: e_s1 lv k0 = lv2) (h : EV E M (pc + 1) lv2 st σ v σ') : EV E M pc lv (VI x :: st) σ v σ' := EV_step h fun hC hR hc hH hl k => lv_istore_n hC.1 hC.2.1 hd rfl hl hn (by rw [← hv]; exact congrArg _ (e_s1_map _)) (fun ls2 h2 => k ls2 h2)
theorem EV_istore {k0 : Nat} {x : Int32} (hd : decode M.1 pc = .ok (.istore k0, 2)) (hn : k0 < M.2.2.1) (hv : (k0, VI x) :: e_s1 lv k0 = lv2) (h : EV E M (pc + 2) lv2 st σ v σ') : EV E M pc lv (VI x :: st) σ v σ' := EV_step h fun hC hR hc hH hl k => lv_istore hC.1 hC.2.1 hd hl hn (by rw [← hv]; exact congrArg _ (e_s1_map _)) (fun ls2 h2 => k ls2 h2)
theorem EV_lstore_n {k0 : Fin 4} {x : Int64} (hd : decode M.1 pc = .ok (.lstore_n k0, 1)) (hn : (k0 : Nat) + 1 < M.2.2.1) (hv : (↑k0, VL x) :: e_s2 lv k0 = lv2) (h : EV E M (pc + 1) lv2 st σ v σ') : EV E M pc lv (VL x :: st) σ v σ' := EV_step h fun hC hR hc hH hl k => lv_lstore_n hC.1 hC.2.1 hd rfl hl hn (by rw [← hv]; exact congrArg _ (e_s2_map _)) (fun ls2 h2 => k ls2 h2)
theorem EV_lstore {k0 : Nat} {x : Int64} (hd : decode M.1 pc = .ok (.lstore k0, 2)) (hn : k0 + 1 < M.2.2.1) (hv : (k0, VL x) :: e_s2 lv k0 = lv2) (h : EV E M (pc + 2) lv2 st σ v σ') : EV E M pc lv (VL x :: st) σ v σ' := EV_step h fun hC hR hc hH hl k => lv_lstore hC.1 hC.2.1 hd hl hn (by rw [← hv]; exact congrArg _ (e_s2_map _)) (fun ls2 h2 => k ls2 h2)
theorem EV_astore_n {k0 : Fin 4} {r : Option Nat} (hd : decode M.1 pc = .ok (.astore_n k0, 1)) (hn : (k0 : Nat) < M.2.2.1) (hv : (↑k0, VR r) :: e_s1 lv k0 = lv2) (h : EV E M (pc + 1) lv2 st σ v σ') : EV E M pc lv (VR r :: st) σ v σ' := EV_step h fun hC hR hc hH hl k => by
  cases r with
  | none => exact lv_astore_nN hC.1 hC.2.1 hd rfl hl hn (by rw [← hv]; exact congrArg _ (e_s1_map _)) (fun ls2 h2 => k ls2 h2)
  | some a => exact lv_astore_n hC.1 hC.2.1 hd rfl hl hn (by rw [← hv]; exact congrArg _ (e_s1_map _)) (fun ls2 h2 => k ls2 h2)
theorem EV_astore {k0 : Nat} {r : Option Nat} (hd : decode M.1 pc = .ok (.astore k0, 2)) (hn : (k0 : Nat) < M.2.2.1) (hv : (k0, VR r) :: e_s1 lv k0 = lv2) (h : EV E M (pc + 2) lv2 st σ v σ') : EV E M pc lv (VR r :: st) σ v σ' := EV_step h fun hC hR hc hH hl k => by
  cases r with
  | none => exact lv_astoreN hC.1 hC.2.1 hd  hl hn (by rw [← hv]; exact congrArg _ (e_s1_map _)) (fun ls2 h2 => k ls2 h2)
  | some a => exact lv_astore hC.1 hC.2.1 hd  hl hn (by rw [← hv]; exact congrArg _ (e_s1_map _)) (fun ls2 h2 => k ls2 h2)
theorem EV_iinc {i : Nat} {n : Int} {x y : Int32} (hd : decode M.1 pc = .ok (.iinc i n, 3)) (hx : e_lk lv i = some (VI x)) (hy : Int32.ofInt n = y) (hn : i < M.2.2.1) (hv : (i, VI (x + y)) :: e_s1 lv i = lv2) (h : EV E M (pc + 3) lv2 st σ v σ') : EV E M pc lv st σ v σ' := EV_step h fun hC hR hc hH hl k => by
  obtain ⟨j, hj⟩ := List.getElem?_of_mem (List.mem_map.mpr ⟨(i, VI x), e_lk_mem hx, rfl⟩ : (i, e_w _ (VI x)) ∈ e_lv _ lv)
  exact lv_iinc (v := x + y) hC.1 hC.2.1 hd hl hj (by rw [hy]) hn (by rw [← hv]; exact congrArg _ (e_s1_map _)) (fun ls2 h2 => k ls2 h2)
theorem EV_iadd {x y : Int32} (hd : decode M.1 pc = .ok (.iadd, 1)) (h : EV E M (pc + 1) lv (VI (x + y) :: st) σ v σ') : EV E M pc lv (VI y :: VI x :: st) σ v σ' := EV_step h fun hC hR hc hH hl k => lv_iadd hC.1 hC.2.1 hd (k _ hl)
theorem EV_isub {x y : Int32} (hd : decode M.1 pc = .ok (.isub, 1)) (h : EV E M (pc + 1) lv (VI (x - y) :: st) σ v σ') : EV E M pc lv (VI y :: VI x :: st) σ v σ' := EV_step h fun hC hR hc hH hl k => lv_isub hC.1 hC.2.1 hd (k _ hl)
theorem EV_imul {x y : Int32} (hd : decode M.1 pc = .ok (.imul, 1)) (h : EV E M (pc + 1) lv (VI (x * y) :: st) σ v σ') : EV E M pc lv (VI y :: VI x :: st) σ v σ' := EV_step h fun hC hR hc hH hl k => lv_imul hC.1 hC.2.1 hd (k _ hl)
theorem EV_iand {x y : Int32} (hd : decode M.1 pc = .ok (.iand, 1)) (h : EV E M (pc + 1) lv (VI (x &&& y) :: st) σ v σ') : EV E M pc lv (VI y :: VI x :: st) σ v σ' := EV_step h fun hC hR hc hH hl k => lv_iand hC.1 hC.2.1 hd (k _ hl)
theorem EV_ior {x y : Int32} (hd : decode M.1 pc = .ok (.ior, 1)) (h : EV E M (pc + 1) lv (VI (x ||| y) :: st) σ v σ') : EV E M pc lv (VI y :: VI x :: st) σ v σ' := EV_step h fun hC hR hc hH hl k => lv_ior hC.1 hC.2.1 hd (k _ hl)
theorem EV_ixor {x y : Int32} (hd : decode M.1 pc = .ok (.ixor, 1)) (h : EV E M (pc + 1) lv (VI (x ^^^ y) :: st) σ v σ') : EV E M pc lv (VI y :: VI x :: st) σ v σ' := EV_step h fun hC hR hc hH hl k => lv_ixor hC.1 hC.2.1 hd (k _ hl)
theorem EV_ishl {x y : Int32} (hd : decode M.1 pc = .ok (.ishl, 1)) (h : EV E M (pc + 1) lv (VI (x <<< (y &&& 31)) :: st) σ v σ') : EV E M pc lv (VI y :: VI x :: st) σ v σ' := EV_step h fun hC hR hc hH hl k => lv_ishl hC.1 hC.2.1 hd (k _ hl)
theorem EV_ishr {x y : Int32} (hd : decode M.1 pc = .ok (.ishr, 1)) (h : EV E M (pc + 1) lv (VI (x >>> (y &&& 31)) :: st) σ v σ') : EV E M pc lv (VI y :: VI x :: st) σ v σ' := EV_step h fun hC hR hc hH hl k => lv_ishr hC.1 hC.2.1 hd (k _ hl)
theorem EV_ladd {x y : Int64} (hd : decode M.1 pc = .ok (.ladd, 1)) (h : EV E M (pc + 1) lv (VL (x + y) :: st) σ v σ') : EV E M pc lv (VL y :: VL x :: st) σ v σ' := EV_step h fun hC hR hc hH hl k => lv_ladd hC.1 hC.2.1 hd (k _ hl)
theorem EV_lsub {x y : Int64} (hd : decode M.1 pc = .ok (.lsub, 1)) (h : EV E M (pc + 1) lv (VL (x - y) :: st) σ v σ') : EV E M pc lv (VL y :: VL x :: st) σ v σ' := EV_step h fun hC hR hc hH hl k => lv_lsub hC.1 hC.2.1 hd (k _ hl)
theorem EV_land {x y : Int64} (hd : decode M.1 pc = .ok (.land, 1)) (h : EV E M (pc + 1) lv (VL (x &&& y) :: st) σ v σ') : EV E M pc lv (VL y :: VL x :: st) σ v σ' := EV_step h fun hC hR hc hH hl k => lv_land hC.1 hC.2.1 hd (k _ hl)
theorem EV_lor {x y : Int64} (hd : decode M.1 pc = .ok (.lor, 1)) (h : EV E M (pc + 1) lv (VL (x ||| y) :: st) σ v σ') : EV E M pc lv (VL y :: VL x :: st) σ v σ' := EV_step h fun hC hR hc hH hl k => lv_lor hC.1 hC.2.1 hd (k _ hl)
theorem EV_lxor {x y : Int64} (hd : decode M.1 pc = .ok (.lxor, 1)) (h : EV E M (pc + 1) lv (VL (x ^^^ y) :: st) σ v σ') : EV E M pc lv (VL y :: VL x :: st) σ v σ' := EV_step h fun hC hR hc hH hl k => lv_lxor hC.1 hC.2.1 hd (k _ hl)
theorem EV_lshl {x : Int64} {y : Int32} (hd : decode M.1 pc = .ok (.lshl, 1)) (h : EV E M (pc + 1) lv (VL (x <<< (y.toInt64 &&& 63)) :: st) σ v σ') : EV E M pc lv (VI y :: VL x :: st) σ v σ' := EV_step h fun hC hR hc hH hl k => lv_lshl hC.1 hC.2.1 hd rfl (k _ hl)
theorem EV_lshr {x : Int64} {y : Int32} (hd : decode M.1 pc = .ok (.lshr, 1)) (h : EV E M (pc + 1) lv (VL (x >>> (y.toInt64 &&& 63)) :: st) σ v σ') : EV E M pc lv (VI y :: VL x :: st) σ v σ' := EV_step h fun hC hR hc hH hl k => lv_lshr hC.1 hC.2.1 hd rfl (k _ hl)
theorem EV_idiv {x y : Int32} (hd : decode M.1 pc = .ok (.idiv, 1)) (hne : ¬ y = 0) (h : EV E M (pc + 1) lv (VI (x / y) :: st) σ v σ') : EV E M pc lv (VI y :: VI x :: st) σ v σ' := EV_step h fun hC hR hc hH hl k => lv_idiv hC.1 hC.2.1 hd hne (k _ hl)
theorem EV_irem {x y : Int32} (hd : decode M.1 pc = .ok (.irem, 1)) (hne : ¬ y = 0) (h : EV E M (pc + 1) lv (VI (x - x / y * y) :: st) σ v σ') : EV E M pc lv (VI y :: VI x :: st) σ v σ' := EV_step h fun hC hR hc hH hl k => lv_irem hC.1 hC.2.1 hd hne (k _ hl)
theorem EV_ineg {x : Int32} (hd : decode M.1 pc = .ok (.ineg, 1)) (h : EV E M (pc + 1) lv (VI (-x) :: st) σ v σ') : EV E M pc lv (VI x :: st) σ v σ' := EV_step h fun hC hR hc hH hl k => lv_ineg hC.1 hC.2.1 hd (k _ hl)
theorem EV_i2l {x : Int32} (hd : decode M.1 pc = .ok (.i2l, 1)) (h : EV E M (pc + 1) lv (VL (x.toInt64) :: st) σ v σ') : EV E M pc lv (VI x :: st) σ v σ' := EV_step h fun hC hR hc hH hl k => lv_i2l hC.1 hC.2.1 hd rfl (k _ hl)
theorem EV_l2i {x : Int64} (hd : decode M.1 pc = .ok (.l2i, 1)) (h : EV E M (pc + 1) lv (VI (x.toInt32) :: st) σ v σ') : EV E M pc lv (VL x :: st) σ v σ' := EV_step h fun hC hR hc hH hl k => lv_l2i hC.1 hC.2.1 hd rfl (k _ hl)
theorem EV_i2b {x : Int32} (hd : decode M.1 pc = .ok (.i2b, 1)) (h : EV E M (pc + 1) lv (VI (x.toInt8.toInt32) :: st) σ v σ') : EV E M pc lv (VI x :: st) σ v σ' := EV_step h fun hC hR hc hH hl k => lv_i2b hC.1 hC.2.1 hd rfl (k _ hl)
theorem EV_i2s {x : Int32} (hd : decode M.1 pc = .ok (.i2s, 1)) (h : EV E M (pc + 1) lv (VI (x.toInt16.toInt32) :: st) σ v σ') : EV E M pc lv (VI x :: st) σ v σ' := EV_step h fun hC hR hc hH hl k => lv_i2s hC.1 hC.2.1 hd rfl (k _ hl)
theorem EV_lcmp {x y : Int64} (hd : decode M.1 pc = .ok (.lcmp, 1)) (h : EV E M (pc + 1) lv (VI (lg_cmp x y) :: st) σ v σ') : EV E M pc lv (VL y :: VL x :: st) σ v σ' := EV_step h fun hC hR hc hH hl k => W.lcmp hC.1 hC.2.1 hd (k _ hl)
theorem EV_dup {w : eW} (hd : decode M.1 pc = .ok (.dup, 1)) (hw : e_cat w = 1) (h : EV E M (pc + 1) lv (w :: w :: st) σ v σ') : EV E M pc lv (w :: st) σ v σ' := EV_step h fun hC hR hc hH hl k => lv_dup hC.1 hC.2.1 hd ((e_w_cat _ w).trans hw) (k _ hl)
theorem EV_pop {w : eW} (hd : decode M.1 pc = .ok (.pop, 1)) (hw : e_cat w = 1) (h : EV E M (pc + 1) lv st σ v σ') : EV E M pc lv (w :: st) σ v σ' := EV_step h fun hC hR hc hH hl k => lv_pop hC.1 hC.2.1 hd ((e_w_cat _ w).trans hw) (k _ hl)
theorem EV_dup_x1 {w u : eW} (hd : decode M.1 pc = .ok (.dup_x1, 1)) (hw : e_cat w = 1) (hu : e_cat u = 1) (h : EV E M (pc + 1) lv (w :: u :: w :: st) σ v σ') : EV E M pc lv (w :: u :: st) σ v σ' := EV_step h fun hC hR hc hH hl k => lv_dup_x1 hC.1 hC.2.1 hd ((e_w_cat _ w).trans hw) ((e_w_cat _ u).trans hu) (k _ hl)
theorem EV_dup2 {w u : eW} (hd : decode M.1 pc = .ok (.dup2, 1)) (hw : e_cat w = 1) (hu : e_cat u = 1) (h : EV E M (pc + 1) lv (w :: u :: w :: u :: st) σ v σ') : EV E M pc lv (w :: u :: st) σ v σ' := EV_step h fun hC hR hc hH hl k => lv_dup2_11 hC.1 hC.2.1 hd ((e_w_cat _ w).trans hw) ((e_w_cat _ u).trans hu) (k _ hl)
theorem EV_goto {off : Int} {tgt : Nat} (hd : decode M.1 pc = .ok (.goto off, 3)) (ht : (pc : Int) + off = (tgt : Int)) (h : EV E M tgt lv st σ v σ') : EV E M pc lv st σ v σ' := EV_step h fun hC hR hc hH hl k => lv_goto hC.1 hC.2.1 hd ht (k _ hl)
theorem EV_null (hd : decode M.1 pc = .ok (.aconst_null, 1)) (h : EV E M (pc + 1) lv (VR none :: st) σ v σ') : EV E M pc lv st σ v σ' := EV_step h fun hC hR hc hH hl k => lv_null hC.1 hC.2.1 hd (k _ hl)
theorem EV_if_eq {x : Int32} {off : Int} {tgt : Nat} (hd : decode M.1 pc = .ok (.ifCond .eq off, 3)) (ht : (pc : Int) + off = (tgt : Int)) (h1 : x = 0 → EV E M tgt lv st σ v σ') (h2 : ¬ (x = 0) → EV E M (pc + 3) lv st σ v σ') : EV E M pc lv (VI x :: st) σ v σ' := EV_two h1 h2 fun hC hH hl k1 k2 => lv_if_eq hC.1 hC.2.1 hd ht k1 k2
theorem EV_icmp_eq {x y : Int32} {off : Int} {tgt : Nat} (hd : decode M.1 pc = .ok (.if_icmp .eq off, 3)) (ht : (pc : Int) + off = (tgt : Int)) (h1 : x = y → EV E M tgt lv st σ v σ') (h2 : ¬ (x = y) → EV E M (pc + 3) lv st σ v σ') : EV E M pc lv (VI y :: VI x :: st) σ v σ' := EV_two h1 h2 fun hC hH hl k1 k2 => lv_icmp_eq hC.1 hC.2.1 hd ht k1 k2
theorem EV_if_lt {x : Int32} {off : Int} {tgt : Nat} (hd : decode M.1 pc = .ok (.ifCond .lt off, 3)) (ht : (pc : Int) + off = (tgt : Int)) (h1 : x < 0 → EV E M tgt lv st σ v σ') (h2 : ¬ (x < 0) → EV E M (pc + 3) lv st σ v σ') : EV E M pc lv (VI x :: st) σ v σ' := EV_two h1 h2 fun hC hH hl k1 k2 => lv_if_lt hC.1 hC.2.1 hd ht k1 k2
theorem EV_icmp_lt {x y : Int32} {off : Int} {tgt : Nat} (hd : decode M.1 pc = .ok (.if_icmp .lt off, 3)) (ht : (pc : Int) + off = (tgt : Int)) (h1 : x < y → EV E M tgt lv st σ v σ') (h2 : ¬ (x < y) → EV E M (pc + 3) lv st σ v σ') : EV E M pc lv (VI y :: VI x :: st) σ v σ' := EV_two h1 h2 fun hC hH hl k1 k2 => lv_icmp_lt hC.1 hC.2.1 hd ht k1 k2
theorem EV_if_ge {x : Int32} {off : Int} {tgt : Nat} (hd : decode M.1 pc = .ok (.ifCond .ge off, 3)) (ht : (pc : Int) + off = (tgt : Int)) (h1 : 0 ≤ x → EV E M tgt lv st σ v σ') (h2 : ¬ (0 ≤ x) → EV E M (pc + 3) lv st σ v σ') : EV E M pc lv (VI x :: st) σ v σ' := EV_two h1 h2 fun hC hH hl k1 k2 => lv_if_ge hC.1 hC.2.1 hd ht k1 k2
theorem EV_icmp_ge {x y : Int32} {off : Int} {tgt : Nat} (hd : decode M.1 pc = .ok (.if_icmp .ge off, 3)) (ht : (pc : Int) + off = (tgt : Int)) (h1 : y ≤ x → EV E M tgt lv st σ v σ') (h2 : ¬ (y ≤ x) → EV E M (pc + 3) lv st σ v σ') : EV E M pc lv (VI y :: VI x :: st) σ v σ' := EV_two h1 h2 fun hC hH hl k1 k2 => lv_icmp_ge hC.1 hC.2.1 hd ht k1 k2
theorem EV_if_gt {x : Int32} {off : Int} {tgt : Nat} (hd : decode M.1 pc = .ok (.ifCond .gt off, 3)) (ht : (pc : Int) + off = (tgt : Int)) (h1 : 0 < x → EV E M tgt lv st σ v σ') (h2 : ¬ (0 < x) → EV E M (pc + 3) lv st σ v σ') : EV E M pc lv (VI x :: st) σ v σ' := EV_two h1 h2 fun hC hH hl k1 k2 => lv_if_gt hC.1 hC.2.1 hd ht k1 k2
theorem EV_icmp_gt {x y : Int32} {off : Int} {tgt : Nat} (hd : decode M.1 pc = .ok (.if_icmp .gt off, 3)) (ht : (pc : Int) + off = (tgt : Int)) (h1 : y < x → EV E M tgt lv st σ v σ') (h2 : ¬ (y < x) → EV E M (pc + 3) lv st σ v σ') : EV E M pc lv (VI y :: VI x :: st) σ v σ' := EV_two h1 h2 fun hC hH hl k1 k2 => lv_icmp_gt hC.1 hC.2.1 hd ht k1 k2
theorem EV_if_le {x : Int32} {off : Int} {tgt : Nat} (hd : decode M.1 pc = .ok (.ifCond .le off, 3)) (ht : (pc : Int) + off = (tgt : Int)) (h1 : x ≤ 0 → EV E M tgt lv st σ v σ') (h2 : ¬ (x ≤ 0) → EV E M (pc + 3) lv st σ v σ') : EV E M pc lv (VI x :: st) σ v σ' := EV_two h1 h2 fun hC hH hl k1 k2 => lv_if_le hC.1 hC.2.1 hd ht k1 k2
theorem EV_icmp_le {x y : Int32} {off : Int} {tgt : Nat} (hd : decode M.1 pc = .ok (.if_icmp .le off, 3)) (ht : (pc : Int) + off = (tgt : Int)) (h1 : x ≤ y → EV E M tgt lv st σ v σ') (h2 : ¬ (x ≤ y) → EV E M (pc + 3) lv st σ v σ') : EV E M pc lv (VI y :: VI x :: st) σ v σ' := EV_two h1 h2 fun hC hH hl k1 k2 => lv_icmp_le hC.1 hC.2.1 hd ht k1 k2
theorem EV_if_ne {x : Int32} {off : Int} {tgt : Nat} (hd : decode M.1 pc = .ok (.ifCond .ne off, 3)) (ht : (pc : Int) + off = (tgt : Int)) (h1 : x = 0 → EV E M (pc + 3) lv st σ v σ') (h2 : ¬ (x = 0) → EV E M tgt lv st σ v σ') : EV E M pc lv (VI x :: st) σ v σ' := EV_two h1 h2 fun hC hH hl k1 k2 => lv_if_ne hC.1 hC.2.1 hd ht k2 k1
theorem EV_icmp_ne {x y : Int32} {off : Int} {tgt : Nat} (hd : decode M.1 pc = .ok (.if_icmp .ne off, 3)) (ht : (pc : Int) + off = (tgt : Int)) (h1 : x = y → EV E M (pc + 3) lv st σ v σ') (h2 : ¬ (x = y) → EV E M tgt lv st σ v σ') : EV E M pc lv (VI y :: VI x :: st) σ v σ' := EV_two h1 h2 fun hC hH hl k1 k2 => lv_icmp_ne hC.1 hC.2.1 hd ht k2 k1
theorem EV_ifnull {r : Option Nat} {off : Int} {tgt : Nat} (hd : decode M.1 pc = .ok (.ifnull off, 3)) (ht : (pc : Int) + off = (tgt : Int)) (h1 : r = none → EV E M tgt lv st σ v σ') (h2 : ¬ r = none → EV E M (pc + 3) lv st σ v σ') : EV E M pc lv (VR r :: st) σ v σ' := EV_two h1 h2 fun hC hH hl k1 k2 => by
  cases r with
  | none => exact lv_ifnullN hC.1 hC.2.1 hd ht (k1 rfl)
  | some a => exact lv_ifnull hC.1 hC.2.1 hd (k2 (fun z => by cases z))
theorem EV_ifnonnull {r : Option Nat} {off : Int} {tgt : Nat} (hd : decode M.1 pc = .ok (.ifnonnull off, 3)) (ht : (pc : Int) + off = (tgt : Int)) (h1 : r = none → EV E M (pc + 3) lv st σ v σ') (h2 : ¬ r = none → EV E M tgt lv st σ v σ') : EV E M pc lv (VR r :: st) σ v σ' := EV_two h1 h2 fun hC hH hl k1 k2 => by
  cases r with
  | none => exact lv_ifnonnullN hC.1 hC.2.1 hd (k1 rfl)
  | some a => exact lv_ifnonnull hC.1 hC.2.1 hd ht (k2 (fun z => by cases z))
theorem EV_ldc {i : Nat} {x : Int32} (hd : decode M.1 pc = .ok (.ldc i, 2)) (hw : Jvm.Cond.constant M.2.1 i x ∈ eT) (h : EV E M (pc + 2) lv (VI x :: st) σ v σ') : EV E M pc lv st σ v σ' := EV_step h fun hC hR hc hH hl k => lv_ldc hC.1 hC.2.1 hC.2.2.2.1 (hC.2.2.2.2.1 _ hw) hd (k _ hl)
theorem EV_ldcw {i : Nat} {x : Int32} (hd : decode M.1 pc = .ok (.ldc_w i, 3)) (hw : Jvm.Cond.constant M.2.1 i x ∈ eT) (h : EV E M (pc + 3) lv (VI x :: st) σ v σ') : EV E M pc lv st σ v σ' := EV_step h fun hC hR hc hH hl k => lv_ldcw hC.1 hC.2.1 hC.2.2.2.1 (hC.2.2.2.2.1 _ hw) hd (k _ hl)
theorem EV_ldc2 {i : Nat} {x : Int64} (hd : decode M.1 pc = .ok (.ldc2_w i, 3)) (hw : Jvm.Cond.constantLong M.2.1 i x ∈ eT) (h : EV E M (pc + 3) lv (VL x :: st) σ v σ') : EV E M pc lv st σ v σ' := EV_step h fun hC hR hc hH hl k => lv_ldc2 hC.1 hC.2.1 hC.2.2.2.1 (hC.2.2.2.2.1 _ hw) hd (k _ hl)
end EVR
end
section
section EVH
variable {E : eE} {M : eM} {pc : Nat} {lv lv2 : List (Nat × eW)} {st st2 : List eW} {σ σ2 σ' : eS} {v : Option eW}
/-- a step that changes the store, c0 cells of d0 slots come -/
theorem EV_heap {pc2 c0 d0 : Nat} (h : EV E M pc2 lv st2 σ2 v σ') (hc0 : sn σ2 = sn σ + c0) (hd0 : ss σ2 = ss σ + d0) (go : ∀ {p : Program} {e : Env} {R : Room} {s : State} {m : MethodId} {args : Array Value} {below : List Frame} {meth : Method} {c : Code} {H : Heap} {locs : List Loc} {cells slots : Nat} {Q : State → Prop} {ls : Array Slot}, eC E M p s m args meth c → (M.2.2.2.2.1 ≤ R.frames ∧ M.2.2.2.2.2 ≤ R.locals) → (cells + c0 ≤ R.cells ∧ slots + d0 ≤ R.slots) → eH E σ H → (∀ q ∈ locs, e_b E ≤ q.base) → lv_has ls M.2.2.1 (e_lv E lv) →
    (∀ (H' : Heap) (locs' : List Loc), eH E σ2 H' → (∀ q ∈ locs', e_b E ≤ q.base) → W p E.1 e R s m args below meth c H' locs' (cells + c0) (slots + d0) Q (F0 m pc2 ls (st2.map (e_w E)))) → W p E.1 e R s m args below meth c H locs cells slots Q (F0 m pc ls (st.map (e_w E)))) : EV E M pc lv st σ v σ' := by
  obtain ⟨⟨h1, h2⟩, h3⟩ := h
  refine ⟨⟨by omega, by omega⟩, fun p e R s m args below meth c H locs cells slots Q ls hC hR hc hH hL hl k => go hC hR ⟨by omega, by omega⟩ hH hL hl (fun H' locs' hH' hL' => ?_)⟩
  have e1 : cells + c0 + (sn σ' - sn σ2) = cells + (sn σ' - sn σ) := by omega
  have e2 : slots + d0 + (ss σ' - ss σ2) = slots + (ss σ' - ss σ) := by omega
  refine h3 p e R s m args below meth c H' locs' (cells + c0) (slots + d0) Q ls hC hR ⟨by omega, by omega⟩ hH' hL' hl (fun H2 locs2 ls2 pc3 a1 a2 a3 => ?_)
  rw [e1, e2]
  exact k H2 locs2 ls2 pc3 a1 a2 a3
def e_same (σ σ2 : eS) (a : Nat) : Prop := sK σ2 = sK σ ∧ sN σ2 = sN σ ∧ sn σ2 = sn σ ∧ ss σ2 = ss σ ∧ ∀ b, b ≠ a → sI σ2 b = sI σ b ∧ sL σ2 b = sL σ b ∧ sP σ2 b = sP σ b
theorem e_same_I (σ : eS) (a k : Nat) (x : Int32) : e_same σ (e_I σ a k x) a := ⟨rfl, rfl, rfl, rfl, fun b hb => ⟨by funext j; show e_u _ _ _ _ b j = _; unfold e_u; rw [if_neg hb], rfl, rfl⟩⟩
theorem e_same_L (σ : eS) (a k : Nat) (x : Int64) : e_same σ (e_L σ a k x) a := ⟨rfl, rfl, rfl, rfl, fun b hb => ⟨rfl, by funext j; show e_u _ _ _ _ b j = _; unfold e_u; rw [if_neg hb], rfl⟩⟩
theorem e_same_P (σ : eS) (a k : Nat) (x : Option Nat) : e_same σ (e_P σ a k x) a := ⟨rfl, rfl, rfl, rfl, fun b hb => ⟨rfl, rfl, by funext j; show e_u _ _ _ _ b j = _; unfold e_u; rw [if_neg hb]⟩⟩
theorem e_same_IR (σ : eS) (a : Nat) (g : Nat → Int32) : e_same σ (e_IR σ a g) a := ⟨rfl, rfl, rfl, rfl, fun b hb => ⟨by funext j; show e_row _ _ _ b j = _; unfold e_row; rw [if_neg hb], rfl, rfl⟩⟩
theorem e_v_same {a : Nat} (hs : e_same σ σ2 a) (ty : FieldType) {b : Nat} (hb : b ≠ a) (k : Nat) : e_v E ty σ2 b k = e_v E ty σ b k := by
  obtain ⟨-, -, -, -, h⟩ := hs
  obtain ⟨h1, h2, h3⟩ := h b hb
  unfold e_v
  split <;> simp only [h1, h2, h3]
theorem e_c_kept {a : Nat} (hs : e_same σ σ2 a) {b : Nat} (hb : b ≠ a) {H H' : Heap} (h : e_c E σ b H) (hq : H'[e_b E + b]? = H[e_b E + b]?) : e_c E σ2 b H' := by
  have hv : ∀ ty : FieldType, (fun j => e_v E ty σ2 b j) = (fun j => e_v E ty σ b j) := fun ty => funext (fun j => e_v_same hs ty hb j)
  unfold e_c
  rw [hs.1, hs.2.1]
  rcases h with ⟨ty, h1, h2, h3, h4⟩ | ⟨r, h1, h2, h3⟩
  · refine Or.inl ⟨ty, h1, h2, ?_, fun j => by rw [e_v_same hs ty hb j]; exact h4 j⟩
    rw [hv ty, hq]
    exact h3
  · refine Or.inr ⟨r, h1, h2, ?_⟩
    exact (h3.kept hq).to (fun k _ => (e_v_same hs _ hb k).symm)
theorem eH_put {a : Nat} {H H' : Heap} (hH : eH E σ H) (hs : e_same σ σ2 a) (hz : H'.size = H.size) (ho : ∀ q, q ≠ e_b E + a → H'[q]? = H[q]?) (hc : e_c E σ2 a H') : eH E σ2 H' := by
  obtain ⟨h1, h2, h3, h4⟩ := hH
  refine ⟨by rw [hz, h1, hs.2.2.1], by rw [hs.2.2.1]; exact h2, fun b hb => ?_, fun q hq => (ho q (by omega)).trans (h4 q hq)⟩
  rw [hs.2.2.1] at hb
  by_cases hba : b = a
  · rw [hba]; exact hc
  · exact e_c_kept hs hba (h3 b hb) (ho _ (by omega))
theorem e_f_lt {a : Nat} (h : a < 1000000000) : e_f E a = e_b E + a := by unfold e_f; rw [if_pos h]
theorem e_f_in {a : Nat} {H : Heap} (hH : eH E σ H) (h : a < sn σ) : e_f E a = e_b E + a := e_f_lt (by have := hH.2.1; omega)
/-! objects -/
def eX (ci : Nat) (r : vw_C) : Prop := vwCl[ci]? = some r ∧ (∀ w ∈ u_ws r.1 r.2.1 r.2.2, w ∈ eT) ∧ (∀ k, k < r.2.2 → parseFieldDescriptor (r.2.1 k).2.2.1 = some (tyC ci k)) ∧ ∀ a, a < r.2.2 → ∀ b, b < r.2.2 → a ≠ b → (r.2.1 a).2.1 ≠ (r.2.1 b).2.1
def eF (own : String) (i ci k : Nat) : Prop := ∃ r, eX ci r ∧ k < r.2.2 ∧ Cond.fieldLink own i r.1 (r.2.1 k).2.1 (r.2.1 k).2.2.1 ∈ eT ∧ (r.2.1 k).1 = r.1
def eFp (own : String) (ini : Bool) (i ci k : Nat) : Prop := ∃ r, eX ci r ∧ k < r.2.2 ∧ Cond.fieldLink own i r.1 (r.2.1 k).2.1 (r.2.1 k).2.2.1 ∈ eT ∧ (r.2.1 k).1 = r.1 ∧ ((r.2.1 k).2.2.2 = false ∨ ((r.2.1 k).2.2.2 = true ∧ ini = true ∧ r.1 = own))
theorem e_obj {a ci : Nat} {r : vw_C} {H : Heap} (hH : eH E σ H) (ha : a < sn σ) (hk : sK σ a = 100 + ci) (hX : vwCl[ci]? = some r) : t_OB (e_b E + a) (e_dC E ci) r.2.2 (e_dI E ci) H (fun k => e_v E (tyC ci k) σ a k) := by
  rcases hH.2.2.1 a ha with ⟨ty, h1, h2, h3⟩ | ⟨r', h1, h2, h3⟩
  · omega
  · have e : sK σ a - 100 = ci := by omega
    rw [e] at h1 h3
    cases h1.symm.trans hX
    exact h3
theorem e_arr {a t : Nat} {ty : FieldType} {H : Heap} (hH : eH E σ H) (ha : a < sn σ) (hk : sK σ a = t) (ht : aT[t]? = some ty) : H[e_b E + a]? = some (arrV (e_cA E t) (sN σ a) (fun j => e_v E ty σ a j)) ∧ ∀ j, fits ty (e_v E ty σ a j) = true := by
  have hlt : t < 100 := by
    have := (List.getElem?_eq_some_iff.mp ht).1
    have e : aT.length < 100 := by decide
    omega
  rcases hH.2.2.1 a ha with ⟨ty', h1, h2, h3, h4⟩ | ⟨r', h1, h2, h3⟩
  · rw [hk] at h1 h3
    cases h1.symm.trans ht
    exact ⟨h3, h4⟩
  · omega
/-- a field's value is read -/
theorem EV_getf {i ci k a : Nat} {w : eW} (hd : decode M.1 pc = .ok (.getfield i, 3)) (hf : eF M.2.1 i ci k) (ha : a < sn σ) (hk : sK σ a = 100 + ci) (hw : e_v E (tyC ci k) σ a k = e_w E w) (h : EV E M (pc + 3) lv (w :: st) σ v σ') : EV E M pc lv (VR (some a) :: st) σ v σ' := EV_step h fun {p e R s m args below meth c H locs cells slots Q ls} hC hR hc hH hl kk => by
  obtain ⟨r, ⟨hX, hin, -, -⟩, hkN, hlk, hdec⟩ := hf
  obtain ⟨cell, q1, q2, q3, q4⟩ := e_obj hH ha hk hX
  obtain ⟨hS, hfc, kC, hkC, hkind⟩ := hC.2.2.2.2.2.1.1 ci _ hX
  obtain ⟨cf, kf, fi, f, hi, hsl⟩ := hS k hkN
  rw [hdec] at hi
  have hl2 := u_lays hC.2.2.2.2.1 hin hkN
  rw [hdec] at hl2
  show W p E.1 e R s m args below meth c H locs cells slots Q (F0 m pc ls (.ref (e_f E a) :: st.map (e_w E)))
  rw [e_f_in hH ha]
  refine W.getf hC.1 hC.2.1 hC.2.2.2.1 (hC.2.2.2.2.1 _ hlk) hi (u_facts hfc hkC hl2 hi).1 q1 (by rw [q3]; exact fun h => by cases h) (v := e_w E w) ?_ rfl rfl hd (kk ls hl)
  rw [hsl, q4 k hkN]
  exact congrArg some hw
/-- a field's value is written -/
theorem EV_putf {i ci k a : Nat} {w : eW} (hd : decode M.1 pc = .ok (.putfield i, 3)) (hf : eFp M.2.1 M.2.2.2.1 i ci k) (ha : a < sn σ) (hk : sK σ a = 100 + ci) (hs : e_same σ σ2 a) (hw : ∀ j, e_v E (tyC ci j) σ2 a j = if j = k then e_w E w else e_v E (tyC ci j) σ a j) (hn : narrow (tyC ci k) (e_w E w) = e_w E w) (hfit : fits (tyC ci k) (e_w E w) = true) (h : EV E M (pc + 3) lv st σ2 v σ') : EV E M pc lv (w :: VR (some a) :: st) σ v σ' := EV_heap (c0 := 0) (d0 := 0) h hs.2.2.1 hs.2.2.2.1 fun {p e R s m args below meth c H locs cells slots Q ls} hC hR hc hH hL hl kk => by
  obtain ⟨r, ⟨hX, hin, hty, hnm⟩, hkN, hlk, hdec, hfin⟩ := hf
  obtain ⟨cell, q1, q2, q3, q4⟩ := e_obj hH ha hk hX
  have hK : va_K (e_dC E, e_dI E) vwCl [] s := ⟨hC.2.2.2.2.2.1.1, fun k q h => by simp at h⟩
  have hap := va_apart (own := M.2.1) hC.2.2.2.2.1 hin (tyC ci) hty hnm hK hX
  obtain ⟨hS, hfc, kC, hkC, hkind⟩ := hC.2.2.2.2.2.1.1 ci _ hX
  obtain ⟨cf, kf, fi, f, hi, hsl⟩ := hS k hkN
  have hi0 := hi
  rw [hdec] at hi
  have hl2 := u_lays hC.2.2.2.2.1 hin hkN
  have hst := (u_facts hfc hkC hl2 hi0).1
  have hlay := hC.2.2.2.2.1 _ (hin _ (u_in_lay hkN))
  have fin : ∀ H' : Heap, H'[e_b E + a]? = some (cell.setSlot f.slot (e_w E w)) → H'.size = H.size → (∀ q, q ≠ e_b E + a → H'[q]? = H[q]?) → eH E σ2 H' := by
    intro H' e1 e2 e3
    refine eH_put hH hs e2 e3 (Or.inr ?_)
    rw [hs.1, hk, show 100 + ci - 100 = ci by omega]
    refine ⟨r, hX, by omega, ?_⟩
    rw [hsl] at e1
    refine t_OB.to (V := updV (fun k => e_v E (tyC ci k) σ a k) k (e_w E w)) ⟨_, e1, q2, q3, t_set q4 hap hkN (e_w E w)⟩ (fun j _ => ?_)
    rw [hw j]
    rfl
  have hlocs : ∀ q ∈ locs ++ [⟨e_b E + a, f.slot⟩], e_b E ≤ q.base := by
    intro q hq
    rcases List.mem_append.mp hq with z | z
    · exact hL q z
    · rw [List.mem_singleton.mp z]
      exact Nat.le_add_right _ _
  show W p E.1 e R s m args below meth c H locs cells slots Q (F0 m pc ls (e_w E w :: .ref (e_f E a) :: st.map (e_w E)))
  rw [e_f_in hH ha]
  rcases hfin with hfin | ⟨hfin, hini, hro⟩
  · unfold u_lay at hlay
    rw [if_neg (by rw [hfin]; decide)] at hlay
    have h6 := u_store hfc hkC hkind hlay hi0 (hty k hkN) hn hfit
    refine W.putK hC.1 hC.2.1 (f := f) ⟨hC.2.2.2.1, hC.2.2.2.2.1 _ hlk, ⟨_, _, _, hi⟩, hst⟩ (by rw [q2]; exact h6) q1 q3 (by rw [hsl]; exact k2_hasslot (q4 k hkN)) rfl rfl hd fun H' e1 e2 e3 => ?_
    exact kk H' _ (fin H' e1 e2 e3) hlocs
  · unfold u_lay at hlay
    rw [if_pos hfin] at hlay
    have hcf : m.cls = cf := by
      obtain ⟨_, _, c', _, _, _, -, -, hf', -, -, -, hown2, -⟩ := Cond.laysFinal_spec hlay
      have e1 : c' = cf := by have := hi0.symm.trans hf'; simp at this; exact this.1.symm
      rw [hdec, hro] at hown2
      rw [← e1]; exact Option.some.inj (hC.2.2.2.1.symm.trans hown2)
    have h6 := u_fits hfc hkC hkind (Or.inr hlay) hi0 (hty k hkN) hn hfit
    refine W.putFinK hC.1 hC.2.1 hC.2.2.2.1 (hC.2.2.2.2.1 _ hlk) hi hst hcf (hC.2.2.2.2.2.2 hini) (by rw [q2]; exact h6) q1 q3 (by rw [hsl]; exact k2_hasslot (q4 k hkN)) rfl rfl hd fun H' e1 e2 e3 => ?_
    exact kk H' _ (fin H' e1 e2 e3) hlocs
end EVH
end
section
section EVA
variable {E : eE} {M : eM} {pc : Nat} {lv lv2 : List (Nat × eW)} {st st2 : List eW} {σ σ2 σ' : eS} {v : Option eW}
/-- which instruction reads and writes rows of a type -/
def e_ldi (ty : FieldType) : Instr := match ty with
  | .byte => .baload
  | .boolean => .baload
  | .long => .laload
  | .object _ => .aaload
  | _ => .iaload
def e_sti (ty : FieldType) : Instr := match ty with
  | .byte => .bastore
  | .boolean => .bastore
  | .long => .lastore
  | .object _ => .aastore
  | _ => .iastore
def e_at (t : Nat) (ty : FieldType) : Prop := aT[t]? = some ty ∧ (ty = .int ∨ ty = .byte ∨ ty = .boolean ∨ ty = .long ∨ ∃ C, ty = .object C)
theorem EV_ald {t a : Nat} {ty : FieldType} {i : Int32} {w : eW} (ht : e_at t ty) (hd : decode M.1 pc = .ok (e_ldi ty, 1)) (ha : a < sn σ) (hk : sK σ a = t) (hi : vp_in i (sN σ a)) (hw : e_v E ty σ a i.toNatClampNeg = e_w E w) (h : EV E M (pc + 1) lv (w :: st) σ v σ') : EV E M pc lv (VI i :: VR (some a) :: st) σ v σ' := EV_step h fun {p e R s m args below meth c H locs cells slots Q ls} hC hR hc hH hl kk => by
  obtain ⟨ht, hty⟩ := ht
  obtain ⟨q1, -⟩ := e_arr hH ha hk ht
  have hA := (hC.2.2.2.2.2.1.2.1 t ty ht).1 (sN σ a) (fun j => e_v E ty σ a j)
  have hlt : i.toNatClampNeg < sN σ a := Nat.not_le.mp fun q => hi (Or.inr q)
  have hin : ¬ (i < 0 ∨ (arrV (e_cA E t) (sN σ a) (fun j => e_v E ty σ a j)).slots.size ≤ i.toNatClampNeg) := by rw [arrV_size]; exact hi
  have hv : (arrV (e_cA E t) (sN σ a) (fun j => e_v E ty σ a j)).slots[i.toNatClampNeg]? = some (e_w E w) := by
    rw [arrV_read _ _ hlt]
    exact congrArg some hw
  have hkn : (arrV (e_cA E t) (sN σ a) (fun j => e_v E ty σ a j)).vm ≠ .unknown := fun q => by cases q
  show W p E.1 e R s m args below meth c H locs cells slots Q (F0 m pc ls (.int i :: .ref (e_f E a) :: st.map (e_w E)))
  rw [e_f_in hH ha]
  rcases hty with rfl | rfl | rfl | rfl | ⟨C, rfl⟩
  · exact W.iald hC.1 hC.2.1 q1 hA hkn hin hv rfl rfl hd (kk ls hl)
  · exact W.bald hC.1 hC.2.1 q1 hA hkn hin hv rfl rfl hd (kk ls hl)
  · exact W.zald hC.1 hC.2.1 q1 hA hkn hin hv rfl rfl hd (kk ls hl)
  · exact W.lald hC.1 hC.2.1 q1 hA hkn hin hv rfl rfl hd (kk ls hl)
  · exact W.aald hC.1 hC.2.1 q1 hA rfl hkn hin hv rfl rfl hd (kk ls hl)
theorem EV_alen {t a : Nat} {ty : FieldType} {x : Int32} (ht : aT[t]? = some ty) (hd : decode M.1 pc = .ok (.arraylength, 1)) (ha : a < sn σ) (hk : sK σ a = t) (hx : Nat.toInt32 (sN σ a) = x) (h : EV E M (pc + 1) lv (VI x :: st) σ v σ') : EV E M pc lv (VR (some a) :: st) σ v σ' := EV_step h fun {p e R s m args below meth c H locs cells slots Q ls} hC hR hc hH hl kk => by
  obtain ⟨q1, -⟩ := e_arr hH ha hk ht
  have hA := (hC.2.2.2.2.2.1.2.1 t ty ht).1 (sN σ a) (fun j => e_v E ty σ a j)
  show W p E.1 e R s m args below meth c H locs cells slots Q (F0 m pc ls (.ref (e_f E a) :: st.map (e_w E)))
  rw [e_f_in hH ha]
  exact W.alen hC.1 hC.2.1 q1 hA (by rw [arrV_size]; exact hx) rfl rfl hd (kk ls hl)
/-- a row's cell is written: what all kinds share -/
theorem e_ast {t a j : Nat} {ty : FieldType} {x : Value} {H H' : Heap} (hH : eH E σ H) (ha : a < sn σ) (hk : sK σ a = t) (ht : aT[t]? = some ty) (hs : e_same σ σ2 a) (hw : ∀ j', e_v E ty σ2 a j' = if j' = j then x else e_v E ty σ a j') (hfit : fits ty x = true) (e1 : H'[e_b E + a]? = some ((arrV (e_cA E t) (sN σ a) (fun j => e_v E ty σ a j)).setSlot j x)) (e2 : H'.size = H.size) (e3 : ∀ q, q ≠ e_b E + a → H'[q]? = H[q]?) : eH E σ2 H' := by
  obtain ⟨q1, q2⟩ := e_arr hH ha hk ht
  refine eH_put hH hs e2 e3 (Or.inl ⟨ty, ?_, ?_, ?_, fun j' => ?_⟩)
  · rw [hs.1, hk]; exact ht
  · rw [hs.1, hk]
    have := (List.getElem?_eq_some_iff.mp ht).1
    have e : aT.length < 100 := by decide
    omega
  · rw [hs.1, hs.2.1, hk, e1, arrV_store]
    congr 2
    funext j'
    rw [hw j']
    rfl
  · rw [hw j']
    split
    · exact hfit
    · exact q2 j'
theorem EV_astI {t a : Nat} {ty : FieldType} {i x y : Int32} (ht : aT[t]? = some ty) (hty : ty = .int ∨ ty = .byte ∨ ty = .boolean) (hd : decode M.1 pc = .ok (e_sti ty, 1)) (ha : a < sn σ) (hk : sK σ a = t) (hi : vp_in i (sN σ a)) (hx : narrow ty (.int x) = .int y) (h : EV E M (pc + 1) lv st (e_I σ a i.toNatClampNeg y) v σ') : EV E M pc lv (VI x :: VI i :: VR (some a) :: st) σ v σ' := EV_heap (c0 := 0) (d0 := 0) h rfl rfl fun {p e R s m args below meth c H locs cells slots Q ls} hC hR hc hH hL hl kk => by
  obtain ⟨q1, -⟩ := e_arr hH ha hk ht
  have hA := (hC.2.2.2.2.2.1.2.1 t ty ht).1 (sN σ a) (fun j => e_v E ty σ a j)
  have hin : ¬ (i < 0 ∨ (arrV (e_cA E t) (sN σ a) (fun j => e_v E ty σ a j)).slots.size ≤ i.toNatClampNeg) := by rw [arrV_size]; exact hi
  have hkn : (arrV (e_cA E t) (sN σ a) (fun j => e_v E ty σ a j)).vm ≠ .unknown := fun q => by cases q
  have hlocs : ∀ q ∈ locs ++ [⟨e_b E + a, i.toNatClampNeg⟩], e_b E ≤ q.base := by
    intro q hq
    rcases List.mem_append.mp hq with z | z
    · exact hL q z
    · rw [List.mem_singleton.mp z]
      exact Nat.le_add_right _ _
  have hfit : fits ty (.int y) = true := by
    rcases hty with rfl | rfl | rfl
    · rfl
    · rw [← hx]; exact pk_fb x
    · rw [← hx]
      show ((x &&& 1) == 0 || (x &&& 1) == 1) = true
      obtain ⟨j, hj, e⟩ := pk_andE x (m := 1) 1 (by decide)
      rw [e]
      rcases (show j = 0 ∨ j = 1 by omega) with rfl | rfl <;> decide
  have hw : ∀ j', e_v E ty (e_I σ a i.toNatClampNeg y) a j' = if j' = i.toNatClampNeg then .int y else e_v E ty σ a j' := by
    intro j'
    have e : sI (e_I σ a i.toNatClampNeg y) a j' = if j' = i.toNatClampNeg then y else sI σ a j' := by
      show e_u _ _ _ _ a j' = _
      unfold e_u
      rw [if_pos rfl]
    rcases hty with rfl | rfl | rfl <;> (show Value.int (sI _ a j') = _; rw [e]; split <;> rfl)
  show W p E.1 e R s m args below meth c H locs cells slots Q (F0 m pc ls (.int x :: .int i :: .ref (e_f E a) :: st.map (e_w E)))
  rw [e_f_in hH ha]
  rcases hty with rfl | rfl | rfl
  · cases hx
    exact W.iast hC.1 hC.2.1 q1 hA hkn hin rfl rfl hd fun H' e1 e2 e3 => kk H' _ (e_ast hH ha hk ht (e_same_I _ _ _ _) hw hfit e1 e2 e3) hlocs
  · exact W.bast hC.1 hC.2.1 q1 hA hkn hin rfl rfl hd fun H' e1 e2 e3 => kk H' _ (e_ast hH ha hk ht (e_same_I _ _ _ _) hw hfit (by rw [← hx]; exact e1) e2 e3) hlocs
  · exact W.zast hC.1 hC.2.1 q1 hA hkn hin rfl rfl hd fun H' e1 e2 e3 => kk H' _ (e_ast hH ha hk ht (e_same_I _ _ _ _) hw hfit (by rw [← hx]; exact e1) e2 e3) hlocs
theorem EV_astL {t a : Nat} {i : Int32} {x : Int64} (ht : aT[t]? = some .long) (hd : decode M.1 pc = .ok (.lastore, 1)) (ha : a < sn σ) (hk : sK σ a = t) (hi : vp_in i (sN σ a)) (h : EV E M (pc + 1) lv st (e_L σ a i.toNatClampNeg x) v σ') : EV E M pc lv (VL x :: VI i :: VR (some a) :: st) σ v σ' := EV_heap (c0 := 0) (d0 := 0) h rfl rfl fun {p e R s m args below meth c H locs cells slots Q ls} hC hR hc hH hL hl kk => by
  obtain ⟨q1, -⟩ := e_arr hH ha hk ht
  have hA := (hC.2.2.2.2.2.1.2.1 t _ ht).1 (sN σ a) (fun j => e_v E .long σ a j)
  have hin : ¬ (i < 0 ∨ (arrV (e_cA E t) (sN σ a) (fun j => e_v E .long σ a j)).slots.size ≤ i.toNatClampNeg) := by rw [arrV_size]; exact hi
  have hkn : (arrV (e_cA E t) (sN σ a) (fun j => e_v E .long σ a j)).vm ≠ .unknown := fun q => by cases q
  have hlocs : ∀ q ∈ locs ++ [⟨e_b E + a, i.toNatClampNeg⟩], e_b E ≤ q.base := by
    intro q hq
    rcases List.mem_append.mp hq with z | z
    · exact hL q z
    · rw [List.mem_singleton.mp z]
      exact Nat.le_add_right _ _
  have hw : ∀ j', e_v E .long (e_L σ a i.toNatClampNeg x) a j' = if j' = i.toNatClampNeg then .long x else e_v E .long σ a j' := by
    intro j'
    have e : sL (e_L σ a i.toNatClampNeg x) a j' = if j' = i.toNatClampNeg then x else sL σ a j' := by
      show e_u _ _ _ _ a j' = _
      unfold e_u
      rw [if_pos rfl]
    show Value.long (sL _ a j') = _
    rw [e]
    split <;> rfl
  show W p E.1 e R s m args below meth c H locs cells slots Q (F0 m pc ls (.long x :: .int i :: .ref (e_f E a) :: st.map (e_w E)))
  rw [e_f_in hH ha]
  exact W.last hC.1 hC.2.1 q1 hA hkn hin rfl rfl hd fun H' e1 e2 e3 => kk H' _ (e_ast hH ha hk ht (e_same_L _ _ _ _) hw rfl e1 e2 e3) hlocs
theorem EV_astP {t a b ci : Nat} {r : vw_C} {i : Int32} (hX : vwCl[ci]? = some r) (ht : aT[t]? = some (.object r.1)) (hd : decode M.1 pc = .ok (.aastore, 1)) (ha : a < sn σ) (hk : sK σ a = t) (hb : b < sn σ) (hkb : sK σ b = 100 + ci) (hi : vp_in i (sN σ a)) (h : EV E M (pc + 1) lv st (e_P σ a i.toNatClampNeg (some b)) v σ') : EV E M pc lv (VR (some b) :: VI i :: VR (some a) :: st) σ v σ' := EV_heap (c0 := 0) (d0 := 0) h rfl rfl fun {p e R s m args below meth c H locs cells slots Q ls} hC hR hc hH hL hl kk => by
  obtain ⟨q1, -⟩ := e_arr hH ha hk ht
  obtain ⟨cellV, g1, g2, g3, -⟩ := e_obj hH hb hkb hX
  have hlt : i.toNatClampNeg < sN σ a := Nat.not_le.mp fun q => hi (Or.inr q)
  have h0 : ¬ i < 0 := fun q => hi (Or.inl q)
  have hcls := (hC.2.2.2.2.2.1.1 ci r hX).2
  obtain ⟨kA, comp, k1, k2, k3, -⟩ := (hC.2.2.2.2.2.1.2.1 t _ ht).2
  have hcomp : comp = e_dC E ci := Option.some.inj (k3.symm.trans hcls.1)
  subst hcomp
  obtain ⟨kC, hkC, -⟩ := hcls.2
  have hlocs : ∀ q ∈ locs ++ [⟨e_b E + a, i.toNatClampNeg⟩], e_b E ≤ q.base := by
    intro q hq
    rcases List.mem_append.mp hq with z | z
    · exact hL q z
    · rw [List.mem_singleton.mp z]
      exact Nat.le_add_right _ _
  have hw : ∀ j', e_v E (.object r.1) (e_P σ a i.toNatClampNeg (some b)) a j' = if j' = i.toNatClampNeg then .ref (e_b E + b) else e_v E (.object r.1) σ a j' := by
    intro j'
    have e : sP (e_P σ a i.toNatClampNeg (some b)) a j' = if j' = i.toNatClampNeg then some b else sP σ a j' := by
      show e_u _ _ _ _ a j' = _
      unfold e_u
      rw [if_pos rfl]
    show e_r E (sP _ a j') = _
    rw [e]
    split
    · show Value.ref (e_f E b) = _
      rw [e_f_in hH hb]
    · rfl
  show W p E.1 e R s m args below meth c H locs cells slots Q (F0 m pc ls (.ref (e_f E b) :: .int i :: .ref (e_f E a) :: st.map (e_w E)))
  rw [e_f_in hH ha, e_f_in hH hb]
  exact W.aast hC.1 hC.2.1 q1 (fun q h => by cases h) (fun h => by cases h) k1 k2 rfl hkC ⟨h0, by rw [arrV_size]; exact hlt⟩ g1 (fun q h => by rw [g3] at h; cases h) (by rw [g2]; exact hkC) (by rw [g2]; exact va_assign hcls) rfl rfl hd fun H' e1 e2 e3 => kk H' _ (e_ast hH ha hk ht (e_same_P _ _ _ _) hw rfl e1 e2 e3) hlocs
/-! new cells -/
theorem e_new_old {σ : eS} {t n w b : Nat} (hb : b ≠ sn σ) : sK (e_new σ t n w) b = sK σ b ∧ sN (e_new σ t n w) b = sN σ b ∧ ∀ (ty : FieldType) (k : Nat), e_v E ty (e_new σ t n w) b k = e_v E ty σ b k := by
  refine ⟨if_neg hb, if_neg hb, fun ty k => ?_⟩
  have h1 : sI (e_new σ t n w) b k = sI σ b k := if_neg hb
  have h2 : sL (e_new σ t n w) b k = sL σ b k := if_neg hb
  have h3 : sP (e_new σ t n w) b k = sP σ b k := if_neg hb
  unfold e_v
  split <;> simp only [h1, h2, h3]
theorem e_new_v {σ : eS} {t n w : Nat} (ty : FieldType) (k : Nat) (hty : ty ≠ .float ∧ ty ≠ .double) : e_v E ty (e_new σ t n w) (sn σ) k = defaultValue ty := by
  have h1 : sI (e_new σ t n w) (sn σ) k = 0 := if_pos rfl
  have h2 : sL (e_new σ t n w) (sn σ) k = 0 := if_pos rfl
  have h3 : sP (e_new σ t n w) (sn σ) k = none := if_pos rfl
  cases ty <;> first | (exact absurd rfl hty.1) | (exact absurd rfl hty.2) | (simp only [e_v, h1, h2, h3]; rfl)
theorem eH_new {t n w : Nat} {H H' : Heap} (hH : eH E σ H) (hb : sn σ < 500000000) (z1 : H'.size = H.size + 1) (o1 : ∀ q, q < H.size → H'[q]? = H[q]?) (hc : e_c E (e_new σ t n w) (sn σ) H') : eH E (e_new σ t n w) H' := by
  obtain ⟨h1, h2, h3, h4⟩ := hH
  refine ⟨by rw [z1, h1]; rfl, by show sn σ + 1 ≤ _; omega, fun b hb2 => ?_, fun q hq => (o1 q (by omega)).trans (h4 q hq)⟩
  by_cases hbs : b = sn σ
  · rw [hbs]; exact hc
  · have hlt : b < sn σ := by
      have : b < sn σ + 1 := hb2
      omega
    obtain ⟨g1, g2, g3⟩ := e_new_old (E := E) (σ := σ) (t := t) (n := n) (w := w) hbs
    have hq : H'[e_b E + b]? = H[e_b E + b]? := o1 _ (by omega)
    unfold e_c
    rw [g1, g2]
    rcases h3 b hlt with ⟨ty, a1, a2, a3, a4⟩ | ⟨r, a1, a2, a3⟩
    · refine Or.inl ⟨ty, a1, a2, ?_, fun j => by rw [g3]; exact a4 j⟩
      rw [hq, a3]
      congr 2
      funext j
      exact (g3 ty j).symm
    · exact Or.inr ⟨r, a1, a2, (a3.kept hq).to (fun k _ => (g3 _ k).symm)⟩
theorem EV_newc {i ci : Nat} {r : vw_C} (hd : decode M.1 pc = .ok (.new i, 3)) (hX : eX ci r) (hcl : Cond.classLink M.2.1 i r.1 ∈ eT) (hin : Cond.instantiable r.1 r.2.2 ∈ eT) (hini : Cond.initialized r.1 ∈ eT) (hty : ∀ k, k < r.2.2 → tyC ci k ≠ .float ∧ tyC ci k ≠ .double) (hb : sn σ < 500000000) (h : EV E M (pc + 3) lv (VR (some (sn σ)) :: st) (e_new σ (100 + ci) 0 r.2.2) v σ') : EV E M pc lv st σ v σ' := EV_heap (c0 := 1) (d0 := r.2.2) h rfl rfl fun {p e R s m args below meth c H locs cells slots Q ls} hC hR hc hH hL hl kk => by
  have hKn := hC.2.2.2.2.2.1.1 ci _ hX.1
  have hT := hC.2.2.2.2.1
  refine W.newcK hC.1 hC.2.1 hC.2.2.2.1 (hT _ hcl) (hT _ hin) (hT _ hini) rfl hd hc.1 hc.2 hKn.2.1 rfl fun H1 kC hkC e1 z1 o1 => ?_
  have hz : H.size = e_b E + sn σ := hH.1
  have key : eH E (e_new σ (100 + ci) 0 r.2.2) H1 := by
    refine eH_new hH hb z1 o1 (Or.inr ?_)
    rw [show sK (e_new σ (100 + ci) 0 r.2.2) (sn σ) = 100 + ci from if_pos rfl, show 100 + ci - 100 = ci by omega]
    refine ⟨r, hX.1, by omega, ?_⟩
    rw [hz] at e1
    exact (u_born (tyC ci) hT hX.2.1 hKn hkC e1 hX.2.2.1).to (fun k hk => (e_new_v _ k (hty k hk)).symm)
  have hk2 := kk H1 locs key hL
  have e : (.ref (e_f E (sn σ)) : Value) = .ref H.size := by rw [hz, e_f_lt (by omega)]
  have e3 : (List.map (e_w E) (VR (some (sn σ)) :: st)) = .ref H.size :: st.map (e_w E) := by
    show (.ref (e_f E (sn σ)) : Value) :: _ = _
    rw [e]
  rw [e3] at hk2
  exact hk2
theorem EV_newa {t : Nat} {atype : ArrayType} {ty : FieldType} {n : Int32} (hd : decode M.1 pc = .ok (.newarray atype, 2)) (hty : newarray.typeOf atype = ty) (ht : aT[t]? = some ty) (hpr : ty = .int ∨ ty = .byte ∨ ty = .boolean ∨ ty = .long) (hw : Cond.arrayClass ty ∈ eT) (hn : ¬ n < 0) (hbytes : n.toNatClampNeg ≤ 60000000) (hb : sn σ < 500000000) (h : EV E M (pc + 2) lv (VR (some (sn σ)) :: st) (e_new σ t n.toNatClampNeg n.toNatClampNeg) v σ') : EV E M pc lv (VI n :: st) σ v σ' := EV_heap (c0 := 1) (d0 := n.toNatClampNeg) h rfl rfl fun {p e R s m args below meth c H locs cells slots Q ls} hC hR hc hH hL hl kk => by
  have hT := hC.2.2.2.2.1
  have hz : H.size = e_b E + sn σ := hH.1
  subst hty
  refine va_newaK hC.1 hC.2.1 (hT _ hw) rfl hd rfl hn rfl ?_ hc.1 hc.2 rfl fun H1 cA e1 z1 o1 hAr hNm => ?_
  · rcases hpr with q | q | q | q <;> rw [q] <;> (simp only [componentBytes]; omega)
  have hcA : cA = e_cA E t := by
    have h2 := (hC.2.2.2.2.2.1.2.1 t _ ht).2
    have h3 : s.vm.findClass ("[" ++ (newarray.typeOf atype).toString) = some (e_cA E t) := by
      rcases hpr with q | q | q | q <;> (rw [q] at h2 ⊢; exact h2)
    exact Option.some.inj (hNm.symm.trans h3)
  have key : eH E (e_new σ t n.toNatClampNeg n.toNatClampNeg) H1 := by
    refine eH_new hH hb z1 o1 (Or.inl ⟨newarray.typeOf atype, ?_, ?_, ?_, fun j => ?_⟩)
    · rw [show sK (e_new σ t n.toNatClampNeg n.toNatClampNeg) (sn σ) = t from if_pos rfl]; exact ht
    · rw [show sK (e_new σ t n.toNatClampNeg n.toNatClampNeg) (sn σ) = t from if_pos rfl]
      have := (List.getElem?_eq_some_iff.mp ht).1
      have e : aT.length < 100 := by decide
      omega
    · rw [show sK (e_new σ t n.toNatClampNeg n.toNatClampNeg) (sn σ) = t from if_pos rfl, show sN (e_new σ t n.toNatClampNeg n.toNatClampNeg) (sn σ) = n.toNatClampNeg from if_pos rfl, ← hz, e1, hcA]
      congr 2
      funext j
      exact (e_new_v _ j (by rcases hpr with q | q | q | q <;> rw [q] <;> exact ⟨(fun h => nomatch h), (fun h => nomatch h)⟩)).symm
    · rw [e_new_v _ j (by rcases hpr with q | q | q | q <;> rw [q] <;> exact ⟨(fun h => nomatch h), (fun h => nomatch h)⟩)]
      rcases hpr with q | q | q | q <;> rw [q] <;> decide
  have hk2 := kk H1 locs key hL
  have e3 : (List.map (e_w E) (VR (some (sn σ)) :: st)) = .ref H.size :: st.map (e_w E) := by
    show (.ref (e_f E (sn σ)) : Value) :: _ = _
    rw [hz, e_f_lt (by omega)]
  rw [e3] at hk2
  exact hk2
theorem EV_anew {t i : Nat} {C : String} {n : Int32} (hd : decode M.1 pc = .ok (.anewarray i, 3)) (ht : aT[t]? = some (.object C)) (hcl : Cond.classLink M.2.1 i C ∈ eT) (hov : Cond.arrayOver (.object C) ∈ eT) (hn : ¬ n < 0) (hbytes : n.toNatClampNeg ≤ 60000000) (hb : sn σ < 500000000) (h : EV E M (pc + 3) lv (VR (some (sn σ)) :: st) (e_new σ t n.toNatClampNeg n.toNatClampNeg) v σ') : EV E M pc lv (VI n :: st) σ v σ' := EV_heap (c0 := 1) (d0 := n.toNatClampNeg) h rfl rfl fun {p e R s m args below meth c H locs cells slots Q ls} hC hR hc hH hL hl kk => by
  have hT := hC.2.2.2.2.1
  have hz : H.size = e_b E + sn σ := hH.1
  refine W.anew hC.1 hC.2.1 hC.2.2.2.1 (hT _ hcl) (hT _ hov) rfl hd rfl hn (by omega) hc.1 hc.2 fun cA kA comp h1 h2 h3 h4 => ?_
  have hcA : cA = e_cA E t := by
    obtain ⟨-, -, -, -, -, h5⟩ := (hC.2.2.2.2.2.1.2.1 t _ ht).2
    exact Option.some.inj (h1.symm.trans h5)
  have key : eH E (e_new σ t n.toNatClampNeg n.toNatClampNeg) (H.push { cls := cA, slots := Array.replicate n.toNatClampNeg .null, vm := .none }) := by
    refine eH_new hH hb (by simp) (fun q hq => by rw [Array.getElem?_push, if_neg (Nat.ne_of_lt hq)]) (Or.inl ⟨.object C, ?_, ?_, ?_, fun j => ?_⟩)
    · rw [show sK (e_new σ t n.toNatClampNeg n.toNatClampNeg) (sn σ) = t from if_pos rfl]; exact ht
    · rw [show sK (e_new σ t n.toNatClampNeg n.toNatClampNeg) (sn σ) = t from if_pos rfl]
      have := (List.getElem?_eq_some_iff.mp ht).1
      have e : aT.length < 100 := by decide
      omega
    · rw [show sK (e_new σ t n.toNatClampNeg n.toNatClampNeg) (sn σ) = t from if_pos rfl, show sN (e_new σ t n.toNatClampNeg n.toNatClampNeg) (sn σ) = n.toNatClampNeg from if_pos rfl, ← hz, ← hcA]
      rw [arrV_new]
      simp only [Array.getElem?_push, if_true]
      congr 2
      funext j
      exact (e_new_v (.object C) j ⟨(fun h => nomatch h), (fun h => nomatch h)⟩).symm
    · rw [e_new_v (.object C) j ⟨(fun h => nomatch h), (fun h => nomatch h)⟩]
      rfl
  have hk2 := kk _ locs key hL
  have e3 : (List.map (e_w E) (VR (some (sn σ)) :: st)) = .ref H.size :: st.map (e_w E) := by
    show (.ref (e_f E (sn σ)) : Value) :: _ = _
    rw [hz, e_f_lt (by omega)]
  rw [e3] at hk2
  exact hk2
end EVA
end
section
section EVC
variable {E : eE} {M : eM} {pc : Nat} {lv lv2 : List (Nat × eW)} {st st2 : List eW} {σ σ2 σ' : eS} {v : Option eW}
/-- a whole method: name, bytes, locals, answer's type, frames and locals below it -/
abbrev eY : Type := MethodName × ByteArray × Nat × Option FieldType × Nat × Nat
def eQ (E : eE) (v : Option eW) (σ' : eS) : Array Value → State → Outcome → State → Prop := fun _ _ o t => o = .returned (v.map (e_w E)) ∧ eH E σ' t.heap
def ePc (E : eE) (as : List eW) (σ : eS) : Array Value → State → Prop := va_Pc (as.map (e_w E)) (fun U => eH E σ U.heap ∧ eK E U)
abbrev eRm (Y : eY) (σ σ' : eS) : Room := { frames := Y.2.2.2.2.1, cells := sn σ' - sn σ, slots := ss σ' - ss σ, locals := Y.2.2.2.2.2 }
abbrev eWs (Y : eY) : List Cond := Cond.code Y.1 Y.2.1 Y.2.2.1 Y.2.2.2.1 :: eT
/-- the method Y, called with 'as' over σ, answers v and leaves σ' -/
def EM (E : eE) (Y : eY) (as : List eW) (σ : eS) (v : Option eW) (σ' : eS) : Prop :=
  (sn σ ≤ sn σ' ∧ ss σ ≤ ss σ') ∧ Met E.1 Y.1 (eWs Y) (eRm Y σ σ') (ePc E as σ) (eQ E v σ') (sn σ' - sn σ) (ss σ' - ss σ) (e_A E)
/-- the answer is of its type -/
def e_ok (ret : Option FieldType) (v : Option eW) : Prop := match v with
  | none => ret = none
  | some (.inl x) => ∃ ty, ret = some ty ∧ narrow ty (.int x) = .int x
  | some (.inr (.inl _)) => ret = some .long
  | some (.inr (.inr _)) => ∃ n, ret = some (.object n)
def e_la0 : Nat → List eW → List (Nat × eW)
  | _, [] => []
  | i, w :: r => (i, w) :: e_la0 (if e_cat w = 2 then i + 2 else i + 1) r
theorem e_la (E : eE) : ∀ (as : List eW) (i : Nat), lv_args i (as.map (e_w E)) = e_lv E (e_la0 i as)
  | [], i => by rfl
  | w :: r, i => by
    show (i, e_w E w) :: lv_args (if (e_w E w).category = 2 then i + 2 else i + 1) (r.map (e_w E)) = (i, e_w E w) :: e_lv E (e_la0 (if e_cat w = 2 then i + 2 else i + 1) r)
    rw [e_w_cat, e_la E r]
theorem EM_of {Y : eY} {as : List eW} {own : String} {ini : Bool} (hM : M = (Y.2.1, own, Y.2.2.1, ini, Y.2.2.2.2.1, Y.2.2.2.2.2)) (hpl : plainName Y.1.cls = true) (hown : Y.1.cls = own) (hini : ini = true → Y.1.name = "<init>") (hlen : (lg_sl (as.map (e_w E))).length ≤ Y.2.2.1) (hok : e_ok Y.2.2.2.1 v) (h : EV E M 0 (e_la0 0 as) [] σ v σ') : EM E Y as σ v σ' := by
  obtain ⟨h0, h⟩ := h
  subst hM
  refine ⟨h0, Met.ofW (cc := Y.2.1) (maxL := Y.2.2.1) (ret := Y.2.2.2.1) hpl rfl ?_⟩
  intro p e s m args below meth c s₁ B hml hv
  obtain ⟨rfl, hH, hK⟩ := hv
  have hts := atoms_spec (ws := eWs Y) B.pre
  have hl := lv_entry (as.map (e_w E)) (n := Y.2.2.1) hlen
  rw [lg_entry_eq]
  generalize (lg_sl (as.map (e_w E)) ++ List.replicate (Y.2.2.1 - (lg_sl (as.map (e_w E))).length) Slot.unset).toArray = ls at hl ⊢
  rw [e_la] at hl
  have hnm := findClass_of_methodNamed B.named
  have hr := B.returns
  have hlocks := B.notSynchronized
  have hC : eC E (Y.2.1, own, Y.2.2.1, ini, Y.2.2.2.2.1, Y.2.2.2.2.2) p s m (as.map (e_w E)).toArray meth c := ⟨B.exec, B.bytes, hml, by rw [← hown]; exact hnm, fun w hw => hts w (List.mem_cons_of_mem _ hw), hK, fun z => by rw [(name_of_methodNamed B.named B.method).1]; exact hini z⟩
  refine h p e _ s m _ below meth c s.heap [] 0 0 _ ls hC ⟨Nat.le_refl _, Nat.le_refl _⟩ ⟨by rw [Nat.zero_add]; exact Nat.le_refl _, by rw [Nat.zero_add]; exact Nat.le_refl _⟩ hH (fun _ z => by cases z) hl ?_
  intro H' locs' ls' pc' hH' hL' hret
  rw [Nat.zero_add, Nat.zero_add]
  match v, hok, hret with
  | none, hok, hret => exact W.vret (free := e_A E) B.exec B.bytes (hr.trans hok) (fun t ht hW => ⟨rfl, by rw [ht]; exact hH'⟩) hL' hret
  | some (.inl x), ⟨ty, hty, hn⟩, hret => exact W.zret (free := e_A E) B.exec B.bytes (hr.trans hty) hn (fun t ht hW => ⟨rfl, by rw [ht]; exact hH'⟩) hL' hret
  | some (.inr (.inl x)), hok, hret => exact W.lret (free := e_A E) B.exec B.bytes (hr.trans hok) (fun t ht hW => ⟨rfl, by rw [ht]; exact hH'⟩) hL' hret
  | some (.inr (.inr r)), ⟨n, hn⟩, hret => exact W.aret (free := e_A E) B.exec B.bytes (hr.trans hn) (Or.inl ⟨n, rfl⟩) (by cases r with | none => exact Or.inl rfl | some a => exact Or.inr ⟨_, rfl⟩) (fun t ht hW => ⟨rfl, by rw [ht]; exact hH'⟩) hL' hret
/-! returns -/
theorem EV_ret (h : eR M.1 pc v) (hs : st = v.toList) : EV E M pc lv st σ v σ := by
  subst hs
  refine ⟨⟨Nat.le_refl _, Nat.le_refl _⟩, fun p e R s m args below meth c H locs cells slots Q ls hC hR hc hH hL hl k => ?_⟩
  have hk := k H locs ls pc hH hL h
  rw [Nat.sub_self, Nat.sub_self] at hk
  exact hk
/-! calls -/
theorem e_blind {as : List eW} : FrameBlind (ePc E as σ) := fun a U g mk q => ⟨q.1, q.2.1, eK_vm (u := U) (U := U.calling g mk a) rfl q.2.2⟩
theorem EV_run {as : List eW} {s0 : List Value} {R : Room} {H : Heap} {locs : List Loc} {cells slots : Nat} {p : Program} {e : Env} {s : State} {m : MethodId} {args : Array Value} {below : List Frame} {meth : Method} {c : Code} {Q : State → Prop} {ls : Array Slot} {u : Option eW}
    (hr : va_Run p E.1 e R s m args below meth c H locs cells slots (sn σ2 - sn σ) (ss σ2 - ss σ) (F0 m pc ls s0) (st.map (e_w E)) (eQ E u σ2 (as.map (e_w E)).toArray) (e_A E)) (hL : ∀ q ∈ locs, e_b E ≤ q.base)
    (kk : ∀ (H' : Heap) (locs' : List Loc), eH E σ2 H' → (∀ q ∈ locs', e_b E ≤ q.base) → W p E.1 e R s m args below meth c H' locs' (cells + (sn σ2 - sn σ)) (slots + (ss σ2 - ss σ)) Q (F0 m (pc + 3) ls ((u.toList ++ st).map (e_w E)))) : W p E.1 e R s m args below meth c H locs cells slots Q (F0 m pc ls s0) := by
  intro T hT X
  obtain ⟨v0, st₀, t, T', L, h0, X', hL', e1, e2, ⟨hv, hH2⟩, stp⟩ := hr T hT X
  have hv2 : v0 = u.map (e_w E) := Outcome.returned.inj hv
  subst hv2
  obtain ⟨t2, a1, b1⟩ := kk T'.heap (locs ++ L) (by rw [e1]; exact hH2) (fun q hq => by
    rcases List.mem_append.mp hq with z | z
    · exact hL q z
    · exact hL' q z) T' rfl X'
  refine ⟨t2, stp t2 ?_, b1⟩
  cases u with
  | none => exact a1
  | some w => exact a1
def eCw (Y : eY) (n : Nat) : Prop := (Cond.code Y.1 Y.2.1 Y.2.2.1 Y.2.2.2.1 ∈ eT) ∧ Cond.initialized Y.1.cls ∈ eT ∧ (Y.1.cls ≠ "java/lang/invoke/MethodHandle" ∧ Y.1.cls ≠ "java/lang/invoke/VarHandle" ∧ (parseMethodDescriptor Y.1.desc).map (fun d => d.parameters.length) = some n)
theorem e_goodY {Y : eY} (h : Cond.code Y.1 Y.2.1 Y.2.2.1 Y.2.2.2.1 ∈ eT) : GoodIn eT (eWs Y) := fun w hw => by
  rcases List.mem_cons.mp hw with z | z
  · rw [z]; exact eT_good _ h
  · exact eT_good _ z
def e_rest (st : List eW) : Prop := (st.map e_cat).sum ≤ 8
theorem e_rest_ok {m : MethodId} {pc : Nat} {ls : Array Slot} {s0 : List Value} (h : e_rest st) : 2 * (F0 m pc ls s0).monitorRoom + ((st.map (e_w E)).map fun v => v.category).sum ≤ 8 := by
  refine lv_room ?_
  rw [List.map_map]
  have : ((fun v => v.category) ∘ e_w E : eW → Nat) = e_cat := by funext w; exact e_w_cat E w
  rw [this]
  exact h
def e_roomY (M : eM) (Y : eY) : Prop := Y.2.2.2.2.1 + 1 ≤ M.2.2.2.2.1 ∧ 8 + (Y.2.2.1 + 11) + Y.2.2.2.2.2 ≤ M.2.2.2.2.2
theorem EV_call {Y : eY} {as : List eW} {u : Option eW} {s0 : List eW} (hm : EM E Y as σ u σ2) (h : EV E M (pc + 3) lv (u.toList ++ st) σ2 v σ') (go : ∀ {p : Program} {e : Env} {R : Room} {s : State} {m : MethodId} {args : Array Value} {below : List Frame} {meth : Method} {c : Code} {H : Heap} {locs : List Loc} {cells slots : Nat} {ls : Array Slot}, eC E M p s m args meth c → (M.2.2.2.2.1 ≤ R.frames ∧ M.2.2.2.2.2 ≤ R.locals) → (cells + (sn σ2 - sn σ) ≤ R.cells ∧ slots + (ss σ2 - ss σ) ≤ R.slots) → eH E σ H → ls.size = M.2.2.1 →
    va_Run p E.1 e R s m args below meth c H locs cells slots (sn σ2 - sn σ) (ss σ2 - ss σ) (F0 m pc ls (s0.map (e_w E))) (st.map (e_w E)) (eQ E u σ2 (as.map (e_w E)).toArray) (e_A E)) : EV E M pc lv s0 σ v σ' :=
  EV_heap (c0 := sn σ2 - sn σ) (d0 := ss σ2 - ss σ) h (by have := hm.1; omega) (by have := hm.1; omega) fun hC hR hc hH hL hl kk => EV_run (as := as) (go hC hR hc hH hl.1) hL kk
theorem e_pre {s : State} {H : Heap} {as : List eW} (hK : eK E s) (hH : eH E σ H) : ∀ U : State, U.heap = H → s.WarmedH U.vm → ePc E as σ (as.map (e_w E)).toArray U := fun U hU hW => ⟨rfl, by rw [hU]; exact hH, eK_warm hW hK⟩
theorem e_stk {as : List eW} : ((as.reverse ++ st).map (e_w E)) = (as.map (e_w E)).reverse ++ st.map (e_w E) := by
  rw [List.map_append, List.map_reverse]
theorem EV_callV {Y : eY} {as : List eW} {u : Option eW} {i a ci n : Nat} {r : vw_C} {s0 : List eW} (hd : decode M.1 pc = .ok (.invokevirtual i, 3)) (hm : EM E Y (VR (some a) :: as) σ u σ2) (hs : s0 = as.reverse ++ VR (some a) :: st) (hw : eCw Y n) (hn : as.length = n) (hl : Cond.methodLink M.2.1 i Y.1 ∈ eT) (hin : Cond.instanceMethod Y.1 ∈ eT) (hse : Cond.selects r.1 Y.1 Y.1 ∈ eT) (hX : vwCl[ci]? = some r) (ha : a < sn σ) (hk : sK σ a = 100 + ci) (hR0 : e_roomY M Y) (hrest : e_rest st) (h : EV E M (pc + 3) lv (u.toList ++ st) σ2 v σ') : EV E M pc lv s0 σ v σ' := EV_call hm h fun {p e R s m args below meth c H locs cells slots ls} hC hR hc hH hz => by
  subst hs
  have hT := hC.2.2.2.2.1
  obtain ⟨cell, q1, q2, q3, -⟩ := e_obj hH ha hk hX
  have hK := hC.2.2.2.2.2.1
  have cw : CallW R s args M.2.1 r.1 i Y.1 Y.2.1 Y.2.2.1 Y.2.2.2.1 (eWs Y) (eRm Y σ σ2) (sn σ2 - sn σ) (ss σ2 - ss σ) n := ⟨callB_of n hT (e_goodY hw.1) rfl rfl rfl (hT _ hw.2.1) (hT _ hl) hw.2.2 ⟨Nat.le_trans hR0.1 hR.1, Nat.le_trans hR0.2 hR.2⟩, hT _ hin, hT _ hse⟩
  have hpre := e_pre (as := VR (some a) :: as) hK hH
  have key := va_runV (locs := locs) (e := e) (below := below) (meth := meth) (As := as.map (e_w E)) (rest := st.map (e_w E)) (b := e_b E + a) (g := F0 m pc ls (((as.reverse ++ VR (some a) :: st)).map (e_w E))) ⟨hC.1, hC.2.1, hC.2.2.1, hC.2.2.2.1, hT⟩ hm.2 cw ⟨e_blind, ⟨cell, q1, by rw [q3]; rfl, by rw [q2]; exact (hK.1 ci r hX).2.1⟩, fun U hU hW => by rw [← e_f_in hH ha]; exact hpre U hU hW⟩ rfl (by rw [List.length_map]; exact hn) hz (by rw [e_stk, ← e_f_in hH ha]; rfl) (e_rest_ok hrest) hd hc
  rw [← e_f_in hH ha] at key
  exact key
theorem EV_callS {Y : eY} {as : List eW} {u : Option eW} {i n : Nat} {s0 : List eW} (hd : decode M.1 pc = .ok (.invokestatic i, 3)) (hm : EM E Y as σ u σ2) (hs : s0 = as.reverse ++ st) (hw : eCw Y n) (hn : as.length = n) (hl : Cond.methodLink M.2.1 i Y.1 ∈ eT) (hin : Cond.static Y.1 ∈ eT) (hR0 : e_roomY M Y) (hrest : e_rest st) (h : EV E M (pc + 3) lv (u.toList ++ st) σ2 v σ') : EV E M pc lv s0 σ v σ' := EV_call hm h fun {p e R s m args below meth c H locs cells slots ls} hC hR hc hH hz => by
  subst hs
  have hT := hC.2.2.2.2.1
  have hK := hC.2.2.2.2.2.1
  exact va_runS (As := as.map (e_w E)) ⟨hC.1, hC.2.1, hC.2.2.1, hC.2.2.2.1, hT⟩ hm.2 ⟨callB_of n hT (e_goodY hw.1) rfl rfl rfl (hT _ hw.2.1) (hT _ hl) hw.2.2 ⟨Nat.le_trans hR0.1 hR.1, Nat.le_trans hR0.2 hR.2⟩, hT _ hin⟩ ⟨e_blind, e_pre hK hH⟩ rfl (by rw [List.length_map]; exact hn) hz e_stk (e_rest_ok hrest) hd hc
theorem EV_callSN {Y : eY} {as : List eW} {u : Option eW} {i n : Nat} {host : String} {s0 : List eW} (hd : decode M.1 pc = .ok (.invokestatic i, 3)) (hm : EM E Y as σ u σ2) (hs : s0 = as.reverse ++ st) (hw : eCw Y n) (hn : as.length = n) (hl : Cond.methodLinkNest M.2.1 i Y.1 host ∈ eN) (hin : Cond.static Y.1 ∈ eT) (hR0 : e_roomY M Y) (hrest : e_rest st) (h : EV E M (pc + 3) lv (u.toList ++ st) σ2 v σ') : EV E M pc lv s0 σ v σ' := EV_call hm h fun {p e R s m args below meth c H locs cells slots ls} hC hR hc hH hz => by
  subst hs
  have hT := hC.2.2.2.2.1
  have hK := hC.2.2.2.2.2.1
  exact va_runSN (As := as.map (e_w E)) ⟨hC.1, hC.2.1, hC.2.2.1, hC.2.2.2.1, hT⟩ hm.2 ⟨va_cnB n hT (e_goodY hw.1) rfl rfl rfl (hK.2.2.2 _ hl) (hT _ hw.2.1) hw.2.2 ⟨Nat.le_trans hR0.1 hR.1, Nat.le_trans hR0.2 hR.2⟩, hT _ hin, trivial⟩ ⟨e_blind, e_pre hK hH⟩ rfl (by rw [List.length_map]; exact hn) hz e_stk (e_rest_ok hrest) hd hc
theorem EV_callI {Y : eY} {as : List eW} {i a n : Nat} {s0 : List eW} (hd : decode M.1 pc = .ok (.invokespecial i, 3)) (hm : EM E Y (VR (some a) :: as) σ none σ2) (hs : s0 = as.reverse ++ VR (some a) :: st) (hret : Y.2.2.2.1 = none) (hw : eCw Y n) (hn : as.length = n) (hl : Cond.methodLink M.2.1 i Y.1 ∈ eT) (hin : Cond.instanceMethod Y.1 ∈ eT) (hy : Y.1.name = "<init>") (hR0 : e_roomY M Y) (hrest : e_rest st) (h : EV E M (pc + 3) lv st σ2 v σ') : EV E M pc lv s0 σ v σ' := EV_call (st := st) (u := none) hm h fun {p e R s m args below meth c H locs cells slots ls} hC hR hc hH hz => by
  subst hs
  have hT := hC.2.2.2.2.1
  have hK := hC.2.2.2.2.2.1
  have cb := callB_of (own := M.2.1) (index := i) (R := R) (rm := eRm Y σ σ2) n hT (e_goodY hw.1) rfl rfl rfl (hT _ hw.2.1) (hT _ hl) hw.2.2 ⟨Nat.le_trans hR0.1 hR.1, Nat.le_trans hR0.2 hR.2⟩
  rw [hret] at cb
  exact va_runI (As := as.map (e_w E)) (b := e_f E a) ⟨hC.1, hC.2.1, hC.2.2.1, hC.2.2.2.1, hT⟩ hm.2 ⟨cb, hy, hT _ hin⟩ ⟨e_blind, e_pre (as := VR (some a) :: as) hK hH⟩ rfl (by rw [List.length_map]; exact hn) hz (by rw [e_stk]; rfl) (e_rest_ok hrest) hd hc
theorem EV_callIN {Y : eY} {as : List eW} {i a n : Nat} {host : String} {s0 : List eW} (hd : decode M.1 pc = .ok (.invokespecial i, 3)) (hm : EM E Y (VR (some a) :: as) σ none σ2) (hs : s0 = as.reverse ++ VR (some a) :: st) (hret : Y.2.2.2.1 = none) (hw : eCw Y n) (hn : as.length = n) (hl : Cond.methodLinkNest M.2.1 i Y.1 host ∈ eN) (hin : Cond.instanceMethod Y.1 ∈ eT) (hy : Y.1.name = "<init>") (hR0 : e_roomY M Y) (hrest : e_rest st) (h : EV E M (pc + 3) lv st σ2 v σ') : EV E M pc lv s0 σ v σ' := EV_call (st := st) (u := none) hm h fun {p e R s m args below meth c H locs cells slots ls} hC hR hc hH hz => by
  subst hs
  have hT := hC.2.2.2.2.1
  have hK := hC.2.2.2.2.2.1
  have cb := va_cnB (own := M.2.1) (index := i) (R := R) (rm := eRm Y σ σ2) n hT (e_goodY hw.1) rfl rfl rfl (hK.2.2.2 _ hl) (hT _ hw.2.1) hw.2.2 ⟨Nat.le_trans hR0.1 hR.1, Nat.le_trans hR0.2 hR.2⟩
  rw [hret] at cb
  exact va_runIN (As := as.map (e_w E)) (b := e_f E a) ⟨hC.1, hC.2.1, hC.2.2.1, hC.2.2.2.1, hT⟩ hm.2 ⟨cb, hy, hT _ hin⟩ ⟨e_blind, e_pre (as := VR (some a) :: as) hK hH⟩ rfl (by rw [List.length_map]; exact hn) hz (by rw [e_stk]; rfl) (e_rest_ok hrest) hd hc
theorem EV_objInit {i : Nat} {r : Option Nat} (hd : decode M.1 pc = .ok (.invokespecial i, 3)) (hr : ∃ a, r = some a) (hl : Cond.methodLink M.2.1 i Lib.objectInit ∈ eT) (hin : Cond.instanceMethod Lib.objectInit ∈ eT) (hco : Cond.code Lib.objectInit ⟨#[0xb1]⟩ 1 none ∈ eT) (hR0 : 1 ≤ M.2.2.2.2.1 ∧ 20 ≤ M.2.2.2.2.2) (hrest : e_rest st) (h : EV E M (pc + 3) lv st σ v σ') : EV E M pc lv (VR r :: st) σ v σ' := EV_step h fun {p e R s m args below meth c H locs cells slots Q ls} hC hR hc hH hl0 kk => by
  obtain ⟨a, rfl⟩ := hr
  have hT := hC.2.2.2.2.1
  have h8 := e_rest_ok (E := E) (m := m) (pc := pc) (ls := ls) (s0 := .ref (e_f E a) :: st.map (e_w E)) hrest
  exact W.objInit hC.1 hC.2.1 hC.2.2.2.1 (hT _ hl) (hT _ hin) (hT _ hco) (g := F0 m pc ls (.ref (e_f E a) :: st.map (e_w E))) rfl (by rw [hC.2.2.1]; exact hl0.1) rfl hd (Nat.le_trans hR0.1 hR.1) (by have := hR.2; omega) (kk ls hl0)
end EVC
end
section
section EVD
variable {E : eE} {M : eM} {pc : Nat} {lv lv2 : List (Nat × eW)} {st st2 : List eW} {σ σ2 σ' : eS} {v : Option eW}
/-! static tables: their addresses are 1000000000 and what follows -/
theorem EV_gets {i j : Nat} {r : eTab} (hd : decode M.1 pc = .ok (.getstatic i, 3)) (hj : sT[j]? = some r) (hl : Cond.fieldLink M.2.1 i r.1 r.2.1 r.2.2.1 ∈ eT) (h : EV E M (pc + 3) lv (VR (some (1000000000 + j)) :: st) σ v σ') : EV E M pc lv st σ v σ' := EV_step h fun {p e R s m args below meth c H locs cells slots Q ls} hC hR hc hH hl0 kk => by
  obtain ⟨⟨cf, kf, fi, f, a, cell, h1, h2, h3, h4, h5, h6, h7, h8⟩, -⟩ := hC.2.2.2.2.2.1.2.2.1 j r hj
  have hk := kk ls hl0
  have e1 : (List.map (e_w E) (VR (some (1000000000 + j)) :: st)) = .ref (e_ta E j) :: st.map (e_w E) := by
    show (.ref (e_f E (1000000000 + j)) : Value) :: _ = _
    have : e_f E (1000000000 + j) = e_ta E j := by
      unfold e_f
      rw [if_neg (by omega), show 1000000000 + j - 1000000000 = j by omega]
    rw [this]
  rw [e1] at hk
  exact W.gets hC.1 hC.2.1 hC.2.2.2.1 (hC.2.2.2.2.1 _ hl) h1 h2 h3 h4 (by rw [hH.2.2.2 a (Nat.not_le.mp h8)]; exact h5) (fun e => by rw [e] at h6; cases h6) h7 rfl hd hk
theorem EV_getsN {i j : Nat} {host : String} {r : eTab} (hd : decode M.1 pc = .ok (.getstatic i, 3)) (hj : sT[j]? = some r) (hl : Cond.fieldLinkNest M.2.1 i r.1 r.2.1 r.2.2.1 host ∈ eN) (h : EV E M (pc + 3) lv (VR (some (1000000000 + j)) :: st) σ v σ') : EV E M pc lv st σ v σ' := EV_step h fun {p e R s m args below meth c H locs cells slots Q ls} hC hR hc hH hl0 kk => by
  obtain ⟨⟨cf, kf, fi, f, a, cell, h1, h2, h3, h4, h5, h6, h7, h8⟩, -⟩ := hC.2.2.2.2.2.1.2.2.1 j r hj
  have hk := kk ls hl0
  have e1 : (List.map (e_w E) (VR (some (1000000000 + j)) :: st)) = .ref (e_ta E j) :: st.map (e_w E) := by
    show (.ref (e_f E (1000000000 + j)) : Value) :: _ = _
    have : e_f E (1000000000 + j) = e_ta E j := by
      unfold e_f
      rw [if_neg (by omega), show 1000000000 + j - 1000000000 = j by omega]
    rw [this]
  rw [e1] at hk
  exact va_WgetsN hC.1 hC.2.1 hC.2.2.2.1 (va_Nw.use rfl (hC.2.2.2.2.2.1.2.2.2 _ hl)) h1 h2 h3 h4 (by rw [hH.2.2.2 a (Nat.not_le.mp h8)]; exact h5) (fun e => by rw [e] at h6; cases h6) h7 rfl hd hk
def t_I (l : List Int32) (i : Int32) : Option Int32 := if i < 0 then none else l[i.toNatClampNeg]?
def t_L (l : List Int64) (i : Int32) : Option Int64 := if i < 0 then none else l[i.toNatClampNeg]?
theorem EV_tabI {j : Nat} {r : eTab} {l : List Int32} {i x : Int32} (hd : decode M.1 pc = .ok (.iaload, 1)) (hj : sT[j]? = some r) (hr : r.2.2.2 = .inl l) (hx : t_I l i = some x) (h : EV E M (pc + 1) lv (VI x :: st) σ v σ') : EV E M pc lv (VI i :: VR (some (1000000000 + j)) :: st) σ v σ' := EV_step h fun {p e R s m args below meth c H locs cells slots Q ls} hC hR hc hH hl0 kk => by
  obtain ⟨-, cell, h1, h2, h3, h4, h5, h6, h7⟩ := hC.2.2.2.2.2.1.2.2.1 j r hj
  rw [hr] at h2 h4 h6
  unfold t_I at hx
  split at hx
  · cases hx
  · rename_i h0
    obtain ⟨hlt, hxe⟩ := List.getElem?_eq_some_iff.mp hx
    have e0 : e_f E (1000000000 + j) = e_ta E j := by
      unfold e_f
      rw [if_neg (by omega), show 1000000000 + j - 1000000000 = j by omega]
    show W p E.1 e R s m args below meth c H locs cells slots Q (F0 m pc ls (.int i :: .ref (e_f E (1000000000 + j)) :: st.map (e_w E)))
    rw [e0]
    have h4' : l.length ≤ cell.slots.size := h4
    refine W.iald (v := .int x) hC.1 hC.2.1 (by rw [hH.2.2.2 _ (Nat.not_le.mp h7)]; exact h1) h2 h3 (fun q => ?_) ?_ rfl rfl hd (kk ls hl0)
    · rcases q with q | q
      · exact h0 q
      · omega
    · rw [h6 _ hlt]
      show some (Value.int (l.getD _ 0)) = _
      rw [List.getD_eq_getElem?_getD, hx]
      rfl
theorem EV_tabL {j : Nat} {r : eTab} {l : List Int64} {i : Int32} {x : Int64} (hd : decode M.1 pc = .ok (.laload, 1)) (hj : sT[j]? = some r) (hr : r.2.2.2 = .inr l) (hx : t_L l i = some x) (h : EV E M (pc + 1) lv (VL x :: st) σ v σ') : EV E M pc lv (VI i :: VR (some (1000000000 + j)) :: st) σ v σ' := EV_step h fun {p e R s m args below meth c H locs cells slots Q ls} hC hR hc hH hl0 kk => by
  obtain ⟨-, cell, h1, h2, h3, h4, h5, h6, h7⟩ := hC.2.2.2.2.2.1.2.2.1 j r hj
  rw [hr] at h2 h4 h6
  unfold t_L at hx
  split at hx
  · cases hx
  · rename_i h0
    obtain ⟨hlt, hxe⟩ := List.getElem?_eq_some_iff.mp hx
    have e0 : e_f E (1000000000 + j) = e_ta E j := by
      unfold e_f
      rw [if_neg (by omega), show 1000000000 + j - 1000000000 = j by omega]
    show W p E.1 e R s m args below meth c H locs cells slots Q (F0 m pc ls (.int i :: .ref (e_f E (1000000000 + j)) :: st.map (e_w E)))
    rw [e0]
    have h4' : l.length ≤ cell.slots.size := h4
    refine W.lald (v := .long x) hC.1 hC.2.1 (by rw [hH.2.2.2 _ (Nat.not_le.mp h7)]; exact h1) h2 h3 (fun q => ?_) ?_ rfl rfl hd (kk ls hl0)
    · rcases q with q | q
      · exact h0 q
      · omega
    · rw [h6 _ hlt]
      show some (Value.long (l.getD _ 0)) = _
      rw [List.getD_eq_getElem?_getD, hx]
      rfl
/-! switches: the place to go to, out of a list of keys -/
def e_sw (dflt : Nat) : List (Int32 × Nat) → Int32 → Nat
  | [], _ => dflt
  | (k, t) :: r, x => if x = k then t else e_sw dflt r x
theorem EV_table {dflt lo hi : Int} {offs : Array Int} {len : Nat} {x : Int32} {tgt : Nat} (hd : decode M.1 pc = .ok (.tableswitch dflt lo hi offs, len)) (ht : (x.toInt < lo ∨ hi < x.toInt) ∧ (pc : Int) + dflt = (tgt : Int) ∨ ¬ x.toInt < lo ∧ ¬ hi < x.toInt ∧ ∃ off, offs[(x.toInt - lo).toNat]? = some off ∧ (pc : Int) + off = (tgt : Int)) (h : EV E M tgt lv st σ v σ') : EV E M pc lv (VI x :: st) σ v σ' := EV_step h fun hC hR hc hH hl kk => by
  rcases ht with ⟨h1, h2⟩ | ⟨h1, h2, off, h3, h4⟩
  · exact lv_tableOut hC.1 hC.2.1 hd h1 h2 (kk _ hl)
  · exact lv_tableIn hC.1 hC.2.1 hd h1 h2 h3 h4 (kk _ hl)
theorem EV_lookup {dflt : Int} {ps : Array (Int × Int)} {len : Nat} {x : Int32} {off : Int} {tgt : Nat} (hd : decode M.1 pc = .ok (.lookupswitch dflt ps, len)) (hp : (ps.toList.zip (ps.toList.drop 1)).all (fun (a, next) => a.1 < next.1) = true) (ho : Op.lookupswitch.offset ps.toList dflt x.toInt = off) (ht : (pc : Int) + off = (tgt : Int)) (h : EV E M tgt lv st σ v σ') : EV E M pc lv (VI x :: st) σ v σ' := EV_step h fun hC hR hc hH hl kk => lv_lookup hC.1 hC.2.1 hd hp ho ht (kk _ hl)
/-! two references -/
theorem e_f_inj {a b : Nat} (ha : a < 1000000000) (hb : b < 1000000000) (h : e_f E a = e_f E b) : a = b := by
  rw [e_f_lt ha, e_f_lt hb] at h
  omega
theorem e_m_inj {x y : Option Nat} (hx : x.getD 0 < 1000000000) (hy : y.getD 0 < 1000000000) : (x.map (e_f E) = y.map (e_f E)) ↔ x = y := by
  refine ⟨fun h => ?_, fun h => by rw [h]⟩
  cases x with
  | none => cases y with
    | none => rfl
    | some b => cases h
  | some a => cases y with
    | none => cases h
    | some b => exact congrArg some (e_f_inj hx hy (Option.some.inj h))
theorem EV_acmp_ne {x y : Option Nat} {off : Int} {tgt : Nat} (hd : decode M.1 pc = .ok (.if_acmp .ne off, 3)) (ht : (pc : Int) + off = (tgt : Int)) (hx : x.getD 0 < 1000000000) (hy : y.getD 0 < 1000000000) (h1 : x = y → EV E M (pc + 3) lv st σ v σ') (h2 : ¬ x = y → EV E M tgt lv st σ v σ') : EV E M pc lv (VR y :: VR x :: st) σ v σ' := EV_two h1 h2 fun hC hH hl k1 k2 => lv_acmp_ne (rx := x.map (e_f E)) (ry := y.map (e_f E)) hC.1 hC.2.1 hd ht (fun z => k2 (fun q => z ((e_m_inj hx hy).mpr q))) (fun z => k1 ((e_m_inj hx hy).mp z))
theorem EV_acmp_eq {x y : Option Nat} {off : Int} {tgt : Nat} (hd : decode M.1 pc = .ok (.if_acmp .eq off, 3)) (ht : (pc : Int) + off = (tgt : Int)) (hx : x.getD 0 < 1000000000) (hy : y.getD 0 < 1000000000) (h1 : x = y → EV E M tgt lv st σ v σ') (h2 : ¬ x = y → EV E M (pc + 3) lv st σ v σ') : EV E M pc lv (VR y :: VR x :: st) σ v σ' := EV_two h1 h2 fun hC hH hl k1 k2 => lv_acmp_eq (rx := x.map (e_f E)) (ry := y.map (e_f E)) hC.1 hC.2.1 hd ht (fun z => k1 ((e_m_inj hx hy).mp z)) (fun z => k2 (fun q => z ((e_m_inj hx hy).mpr q)))
/-! Math.max, Math.min, System.arraycopy of bytes -/
theorem EV_max {i : Nat} {x y : Int32} (hd : decode M.1 pc = .ok (.invokestatic i, 3)) (hl : Cond.methodLink M.2.1 i Lib.Math.max.name ∈ eT) (hs : Cond.static Lib.Math.max.name ∈ eT) (hi : Cond.initialized "java/lang/Math" ∈ eT) (hco : Cond.code Lib.Math.max.name Lib.Math.max.code 2 (some .int) ∈ eT) (hR0 : 1 ≤ M.2.2.2.2.1 ∧ 21 ≤ M.2.2.2.2.2) (hrest : e_rest st) (h : EV E M (pc + 3) lv (VI (if x < y then y else x) :: st) σ v σ') : EV E M pc lv (VI y :: VI x :: st) σ v σ' := EV_step h fun {p e R s m args below meth c H locs cells slots Q ls} hC hR hc hH hl0 kk => by
  have hT := hC.2.2.2.2.1
  have h8 := e_rest_ok (E := E) (m := m) (pc := pc) (ls := ls) (s0 := []) hrest
  exact va_mmax hC.1 hC.2.1 (by rw [hC.2.2.1]; exact hl0.1.symm) hC.2.2.2.1 (hT _ hl) (hT _ hs) (hT _ hi) (hT _ hco) (Nat.le_trans hR0.1 hR.1) (by have := hR.2; omega) hc.1 hc.2 hd (kk ls hl0)
theorem EV_min {i : Nat} {x y : Int32} (hd : decode M.1 pc = .ok (.invokestatic i, 3)) (hl : Cond.methodLink M.2.1 i Lib.Math.min.name ∈ eT) (hs : Cond.static Lib.Math.min.name ∈ eT) (hi : Cond.initialized "java/lang/Math" ∈ eT) (hco : Cond.code Lib.Math.min.name Lib.Math.min.code 2 (some .int) ∈ eT) (hR0 : 1 ≤ M.2.2.2.2.1 ∧ 21 ≤ M.2.2.2.2.2) (hrest : e_rest st) (h : EV E M (pc + 3) lv (VI (if y < x then y else x) :: st) σ v σ') : EV E M pc lv (VI y :: VI x :: st) σ v σ' := EV_step h fun {p e R s m args below meth c H locs cells slots Q ls} hC hR hc hH hl0 kk => by
  have hT := hC.2.2.2.2.1
  have h8 := e_rest_ok (E := E) (m := m) (pc := pc) (ls := ls) (s0 := []) hrest
  exact va_mmin hC.1 hC.2.1 (by rw [hC.2.2.1]; exact hl0.1.symm) hC.2.2.2.1 (hT _ hl) (hT _ hs) (hT _ hi) (hT _ hco) (Nat.le_trans hR0.1 hR.1) (by have := hR.2; omega) hc.1 hc.2 hd (kk ls hl0)
end EVD
end
section
section EVP
variable {E : eE} {M : eM} {pc : Nat} {lv lv2 : List (Nat × eW)} {st st2 : List eW} {σ σ2 σ' : eS} {v : Option eW}
theorem e_nn (z : Int32) (hz : ¬ z < 0) : z.toInt = (z.toNatClampNeg : Int) := by
  have hz0 : (0 : Int) ≤ z.toInt := by
    have := Int32.not_lt.mp hz
    simpa using Int32.le_iff_toInt_le.mp this
  show z.toInt = ((z.toInt.toNat : Nat) : Int)
  omega
theorem EV_copy {i t a0 a : Nat} {ty : FieldType} {sp dp n : Int32} (hd : decode M.1 pc = .ok (.invokestatic i, 3)) (hlk : Cond.methodLink M.2.1 i arraycopyName ∈ eT) (hna : Cond.native arraycopyName ∈ eT) (hst : Cond.static arraycopyName ∈ eT) (hini : Cond.initialized "java/lang/System" ∈ eT) (ht : aT[t]? = some ty) (hty : ty = .int ∨ ty = .byte ∨ ty = .boolean) (ha0 : a0 < sn σ) (hk0 : sK σ a0 = t) (ha : a < sn σ) (hk : sK σ a = t) (h1 : ¬ sp < 0) (h2 : ¬ dp < 0) (h3 : ¬ n < 0) (h4 : sp.toNatClampNeg + n.toNatClampNeg ≤ sN σ a0) (h5 : dp.toNatClampNeg + n.toNatClampNeg ≤ sN σ a) (hR0 : 1 ≤ M.2.2.2.2.1 ∧ 26 ≤ M.2.2.2.2.2) (hrest : e_rest st) (h : EV E M (pc + 3) lv st (e_IR σ a (va_cpy (sI σ a0) (sI σ a) sp.toNatClampNeg dp.toNatClampNeg n.toNatClampNeg)) v σ') : EV E M pc lv (VI n :: VI dp :: VR (some a) :: VI sp :: VR (some a0) :: st) σ v σ' := EV_heap (c0 := 0) (d0 := 0) h rfl rfl fun {p e R s m args below meth c H locs cells slots Q ls} hC hR hc hH hL hl kk => by
  have hT := hC.2.2.2.2.1
  have h8 := e_rest_ok (E := E) (m := m) (pc := pc) (ls := ls) (s0 := []) hrest
  have ev : ∀ (σ : eS) (b : Nat), (fun j => e_v E ty σ b j) = (fun j => Value.int (sI σ b j)) := fun σ b => by
    funext j
    rcases hty with rfl | rfl | rfl <;> rfl
  obtain ⟨q0, f0⟩ := e_arr hH ha0 hk0 ht
  obtain ⟨q1, f1⟩ := e_arr hH ha hk ht
  have hA := (hC.2.2.2.2.2.1.2.1 t ty ht).1
  have hA0 := hA (sN σ a0) (fun j => e_v E ty σ a0 j)
  have hA1 := hA (sN σ a) (fun j => e_v E ty σ a j)
  rw [ev] at q0 q1 hA0 hA1
  obtain ⟨-, k0, hk0', cm0, hkk0⟩ := hA0
  obtain ⟨-, k1, hk1', cm1, hkk1⟩ := hA1
  have e9 : nativeFrameWords "java/lang/System" "arraycopy" 5 = 7 := by decide +kernel
  have h8' : ((st.map (e_w E)).map fun v => v.category).sum ≤ 8 := Nat.le_trans (Nat.le_add_left _ _) h8
  have hprim : refKind ty = false := by rcases hty with rfl | rfl | rfl <;> rfl
  show W p E.1 e R s m args below meth c H locs cells slots Q (F0 m pc ls (.int n :: .int dp :: .ref (e_f E a) :: .int sp :: .ref (e_f E a0) :: st.map (e_w E)))
  rw [e_f_in hH ha, e_f_in hH ha0]
  intro T hT0 X
  obtain ⟨vm', X', step⟩ := X.arraycopy hC.1 hC.2.2.2.1 (hT _ hlk) (hT _ hna) (hT _ hst) (hT _ hini) (src := e_b E + a0) (dst := e_b E + a) (cs := arrV (e_cA E t) (sN σ a0) (fun j => .int (sI σ a0 j))) (cd := arrV (e_cA E t) (sN σ a) (fun j => .int (sI σ a j))) (srcPos := sp) (destPos := dp) (n := n) (by rw [hT0]; exact q0) (by rw [hT0]; exact q1)
    (fun _ h => by cases h) (fun _ h => by cases h) (fun h => by cases h) (fun h => by cases h) hk0' hk1' hkk0 hkk1 (by simp [hprim]) h1 h2 h3
    (by rw [e_nn sp h1, e_nn n h3, arrV_size]; omega)
    (by rw [e_nn dp h2, e_nn n h3, arrV_size]; omega)
    (fun vm₁ _ i hi => by
      have e : (arrV (e_cA E t) (sN σ a0) (fun j => Value.int (sI σ a0 j))).slots.getD (sp.toNatClampNeg + i) .null = .int (sI σ a0 (sp.toNatClampNeg + i)) := by
        rw [Array.getD_eq_getD_getElem?, arrV_read _ _ (by omega)]
        rfl
      refine ⟨?_, ?_⟩
      · rw [e]
        have := f0 (sp.toNatClampNeg + i)
        rcases hty with rfl | rfl | rfl <;> exact this
      · rw [e]
        exact trivial)
    (g := F0 m pc ls (.int n :: .int dp :: .ref (e_b E + a) :: .int sp :: .ref (e_b E + a0) :: st.map (e_w E))) rfl (by rw [hC.2.2.1]; exact hl.1) (rest := st.map (e_w E)) rfl (by rw [hC.2.1]; exact hd) (Nat.le_trans hR0.1 hR.1) (by show 2 * 0 + _ + (nativeFrameWords "java/lang/System" "arraycopy" 5 + 11) ≤ _; rw [e9]; have := hR.2; omega)
  have e1 : copied (arrV (e_cA E t) (sN σ a0) (fun j => Value.int (sI σ a0 j))) (arrV (e_cA E t) (sN σ a) (fun j => Value.int (sI σ a j))) sp dp n = arrV (e_cA E t) (sN σ a) (fun j => Value.int (va_cpy (sI σ a0) (sI σ a) sp.toNatClampNeg dp.toNatClampNeg n.toNatClampNeg j)) := va_copied (fun z => .int z) _ _ _ _ h4
  rw [e1] at X' step
  have hlt : e_b E + a < H.size := (Array.getElem?_eq_some_iff.mp q1).1
  have oq : ∀ q : Nat, q ≠ e_b E + a → (H.setIfInBounds (e_b E + a) (arrV (e_cA E t) (sN σ a) (fun j => Value.int (va_cpy (sI σ a0) (sI σ a) sp.toNatClampNeg dp.toNatClampNeg n.toNatClampNeg j))))[q]? = H[q]? := fun q hq => by simp [Array.getElem?_setIfInBounds, Ne.symm hq]
  have key : eH E (e_IR σ a (va_cpy (sI σ a0) (sI σ a) sp.toNatClampNeg dp.toNatClampNeg n.toNatClampNeg)) (H.setIfInBounds (e_b E + a) (arrV (e_cA E t) (sN σ a) (fun j => Value.int (va_cpy (sI σ a0) (sI σ a) sp.toNatClampNeg dp.toNatClampNeg n.toNatClampNeg j)))) := by
    refine eH_put hH (e_same_IR _ _ _) (by simp) oq (Or.inl ⟨ty, ?_, ?_, ?_, fun j => ?_⟩)
    · show aT[sK σ a]? = _
      rw [hk]; exact ht
    · show sK σ a < 100
      rw [hk]
      have := (List.getElem?_eq_some_iff.mp ht).1
      have e : aT.length < 100 := by decide
      omega
    · rw [ev]
      show _ = some (arrV (e_cA E (sK σ a)) (sN σ a) _)
      rw [hk, Array.getElem?_setIfInBounds, if_pos rfl, if_pos hlt]
      congr 2
      funext j
      show _ = Value.int (e_row _ _ _ a j)
      unfold e_row
      rw [if_pos rfl]
    · have e0 : e_v E ty (e_IR σ a (va_cpy (sI σ a0) (sI σ a) sp.toNatClampNeg dp.toNatClampNeg n.toNatClampNeg)) a j = .int (va_cpy (sI σ a0) (sI σ a) sp.toNatClampNeg dp.toNatClampNeg n.toNatClampNeg j) := by
        rw [show e_v E ty _ a j = (fun j => e_v E ty (e_IR σ a (va_cpy (sI σ a0) (sI σ a) sp.toNatClampNeg dp.toNatClampNeg n.toNatClampNeg)) a j) j from rfl, ev]
        show Value.int (e_row _ _ _ a j) = _
        unfold e_row
        rw [if_pos rfl]
      rw [e0]
      unfold va_cpy
      have ev1 : ∀ (b j : Nat), e_v E ty σ b j = Value.int (sI σ b j) := fun b j => congrFun (ev σ b) j
      split
      · have := f0 (sp.toNatClampNeg + (j - dp.toNatClampNeg))
        rw [ev1] at this
        exact this
      · have := f1 j
        rw [ev1] at this
        exact this
  obtain ⟨t, a1, b1⟩ := kk _ _ key (fun q hq => by
      rcases List.mem_append.mp hq with h | h
      · exact hL q h
      · obtain ⟨z, -, hz⟩ := List.mem_map.mp h
        rw [← hz]
        exact Nat.le_add_right _ _) _ (by rw [← hT0]; rfl) X'
  exact ⟨t, step t a1, b1⟩
/-! ===== the operations of the methods' own functions, and their rules ===== -/
def g_I (σ : eS) (t k a : Nat) : Option Int32 := if a < sn σ ∧ sK σ a = t then some (sI σ a k) else none
def g_P (σ : eS) (t k a : Nat) : Option (Option Nat) := if a < sn σ ∧ sK σ a = t then some (sP σ a k) else none
def p_I (σ : eS) (t k a : Nat) (x : Int32) : Option eS := if a < sn σ ∧ sK σ a = t then some (e_I σ a k x) else none
def p_Z (σ : eS) (t k a : Nat) (x : Int32) : Option eS := if (a < sn σ ∧ sK σ a = t) ∧ (x = 0 ∨ x = 1) then some (e_I σ a k x) else none
def p_P (σ : eS) (t k a : Nat) (x : Option Nat) : Option eS := if a < sn σ ∧ sK σ a = t then some (e_P σ a k x) else none
def a_I (σ : eS) (t a : Nat) (i : Int32) : Option Int32 := if (a < sn σ ∧ sK σ a = t) ∧ ¬ i < 0 ∧ i.toNatClampNeg < sN σ a then some (sI σ a i.toNatClampNeg) else none
def a_L (σ : eS) (t a : Nat) (i : Int32) : Option Int64 := if (a < sn σ ∧ sK σ a = t) ∧ ¬ i < 0 ∧ i.toNatClampNeg < sN σ a then some (sL σ a i.toNatClampNeg) else none
def a_P (σ : eS) (t a : Nat) (i : Int32) : Option (Option Nat) := if (a < sn σ ∧ sK σ a = t) ∧ ¬ i < 0 ∧ i.toNatClampNeg < sN σ a then some (sP σ a i.toNatClampNeg) else none
def s_I (σ : eS) (t a : Nat) (i x : Int32) : Option eS := if (a < sn σ ∧ sK σ a = t) ∧ ¬ i < 0 ∧ i.toNatClampNeg < sN σ a then some (e_I σ a i.toNatClampNeg x) else none
def s_B (σ : eS) (t a : Nat) (i x : Int32) : Option eS := s_I σ t a i x.toInt8.toInt32
def s_Z (σ : eS) (t a : Nat) (i x : Int32) : Option eS := s_I σ t a i (x &&& 1)
def s_L (σ : eS) (t a : Nat) (i : Int32) (x : Int64) : Option eS := if (a < sn σ ∧ sK σ a = t) ∧ ¬ i < 0 ∧ i.toNatClampNeg < sN σ a then some (e_L σ a i.toNatClampNeg x) else none
def s_P (σ : eS) (t tb a : Nat) (i : Int32) (b : Nat) : Option eS := if (a < sn σ ∧ sK σ a = t) ∧ (¬ i < 0 ∧ i.toNatClampNeg < sN σ a) ∧ (b < sn σ ∧ sK σ b = tb) then some (e_P σ a i.toNatClampNeg (some b)) else none
def n_O (σ : eS) (t w : Nat) : Option (Nat × eS) := if sn σ < 500000000 then some (sn σ, e_new σ t 0 w) else none
def n_A (σ : eS) (t : Nat) (n : Int32) : Option (Nat × eS) := if sn σ < 500000000 ∧ ¬ n < 0 ∧ n.toNatClampNeg ≤ 60000000 then some (sn σ, e_new σ t n.toNatClampNeg n.toNatClampNeg) else none
def c_I (σ : eS) (t a0 : Nat) (sp : Int32) (a : Nat) (dp n : Int32) : Option eS := if (a0 < sn σ ∧ sK σ a0 = t) ∧ (a < sn σ ∧ sK σ a = t) ∧ (¬ sp < 0 ∧ ¬ dp < 0 ∧ ¬ n < 0) ∧ sp.toNatClampNeg + n.toNatClampNeg ≤ sN σ a0 ∧ dp.toNatClampNeg + n.toNatClampNeg ≤ sN σ a then some (e_IR σ a (va_cpy (sI σ a0) (sI σ a) sp.toNatClampNeg dp.toNatClampNeg n.toNatClampNeg)) else none
def o_K (σ : eS) (t a : Nat) : Option Unit := if a < sn σ ∧ sK σ a = t then some () else none
def l_A (σ : eS) (t a : Nat) : Option Int32 := if a < sn σ ∧ sK σ a = t then some (Nat.toInt32 (sN σ a)) else none
theorem e_if {c : Prop} [Decidable c] {α : Type} {x y : α} (h : (if c then some x else none) = some y) : c ∧ x = y := by
  by_cases hc : c
  · rw [if_pos hc] at h
    exact ⟨hc, Option.some.inj h⟩
  · rw [if_neg hc] at h
    cases h
theorem e_vin {i : Int32} {n : Nat} (h : ¬ i < 0 ∧ i.toNatClampNeg < n) : vp_in i n := fun z => z.elim h.1 (fun q => by omega)
def e_isI (ty : FieldType) : Bool := match ty with
  | .int => true
  | .byte => true
  | .boolean => true
  | _ => false
def e_isP (ty : FieldType) : Bool := match ty with
  | .object _ => true
  | .array _ => true
  | _ => false
theorem e_vI {ty : FieldType} (h : e_isI ty = true) (σ : eS) (a k : Nat) : e_v E ty σ a k = .int (sI σ a k) := by
  cases ty <;> first | (cases h; done) | rfl
theorem e_vP {ty : FieldType} (h : e_isP ty = true) (σ : eS) (a k : Nat) : e_v E ty σ a k = e_r E (sP σ a k) := by
  cases ty <;> first | (cases h; done) | rfl
theorem EV_getI {i ci k a : Nat} {x : Int32} (hd : decode M.1 pc = .ok (.getfield i, 3)) (hf : eF M.2.1 i ci k) (hty : e_isI (tyC ci k) = true) (hg : g_I σ (100 + ci) k a = some x) (h : EV E M (pc + 3) lv (VI x :: st) σ v σ') : EV E M pc lv (VR (some a) :: st) σ v σ' := by
  obtain ⟨⟨h1, h2⟩, h3⟩ := e_if hg
  exact EV_getf hd hf h1 h2 (by rw [e_vI hty, h3]; rfl) h
theorem EV_getP {i ci k a : Nat} {x : Option Nat} (hd : decode M.1 pc = .ok (.getfield i, 3)) (hf : eF M.2.1 i ci k) (hty : e_isP (tyC ci k) = true) (hg : g_P σ (100 + ci) k a = some x) (h : EV E M (pc + 3) lv (VR x :: st) σ v σ') : EV E M pc lv (VR (some a) :: st) σ v σ' := by
  obtain ⟨⟨h1, h2⟩, h3⟩ := e_if hg
  exact EV_getf hd hf h1 h2 (by rw [e_vP hty, h3]; rfl) h
theorem e_wI {a k : Nat} {x : Int32} {ci : Nat} (hty : e_isI (tyC ci k) = true) (j : Nat) : e_v E (tyC ci j) (e_I σ a k x) a j = if j = k then e_w E (VI x) else e_v E (tyC ci j) σ a j := by
  by_cases hj : j = k
  · subst hj
    rw [if_pos rfl, e_vI hty]
    show Value.int (e_u _ _ _ _ a j) = _
    unfold e_u
    rw [if_pos rfl, if_pos rfl]
    rfl
  · rw [if_neg hj]
    have e1 : sI (e_I σ a k x) a j = sI σ a j := by
      show e_u _ _ _ _ a j = _
      unfold e_u
      rw [if_pos rfl, if_neg hj]
    unfold e_v
    split <;> first | rfl | (rw [e1])
theorem e_wP {a k : Nat} {x : Option Nat} {ci : Nat} (hty : e_isP (tyC ci k) = true) (j : Nat) : e_v E (tyC ci j) (e_P σ a k x) a j = if j = k then e_w E (VR x) else e_v E (tyC ci j) σ a j := by
  by_cases hj : j = k
  · subst hj
    rw [if_pos rfl, e_vP hty]
    show e_r E (e_u _ _ _ _ a j) = _
    unfold e_u
    rw [if_pos rfl, if_pos rfl]
    rfl
  · rw [if_neg hj]
    have e1 : sP (e_P σ a k x) a j = sP σ a j := by
      show e_u _ _ _ _ a j = _
      unfold e_u
      rw [if_pos rfl, if_neg hj]
    unfold e_v
    split <;> first | rfl | (rw [e1])
theorem EV_putI {i ci k a : Nat} {x : Int32} (hd : decode M.1 pc = .ok (.putfield i, 3)) (hf : eFp M.2.1 M.2.2.2.1 i ci k) (hty : tyC ci k = .int) (hg : p_I σ (100 + ci) k a x = some σ2) (h : EV E M (pc + 3) lv st σ2 v σ') : EV E M pc lv (VI x :: VR (some a) :: st) σ v σ' := by
  obtain ⟨⟨h1, h2⟩, h3⟩ := e_if hg
  subst h3
  exact EV_putf hd hf h1 h2 (e_same_I _ _ _ _) (fun j => e_wI (by rw [hty]; rfl) j) (by rw [hty]; rfl) (by rw [hty]; rfl) h
theorem EV_putZ {i ci k a : Nat} {x : Int32} (hd : decode M.1 pc = .ok (.putfield i, 3)) (hf : eFp M.2.1 M.2.2.2.1 i ci k) (hty : tyC ci k = .boolean) (hg : p_Z σ (100 + ci) k a x = some σ2) (h : EV E M (pc + 3) lv st σ2 v σ') : EV E M pc lv (VI x :: VR (some a) :: st) σ v σ' := by
  obtain ⟨⟨⟨h1, h2⟩, h4⟩, h3⟩ := e_if hg
  subst h3
  exact EV_putf hd hf h1 h2 (e_same_I _ _ _ _) (fun j => e_wI (by rw [hty]; rfl) j) (by rw [hty]; rcases h4 with rfl | rfl <;> rfl) (by rw [hty]; rcases h4 with rfl | rfl <;> rfl) h
theorem EV_putP {i ci k a : Nat} {x : Option Nat} (hd : decode M.1 pc = .ok (.putfield i, 3)) (hf : eFp M.2.1 M.2.2.2.1 i ci k) (hty : e_isP (tyC ci k) = true) (hg : p_P σ (100 + ci) k a x = some σ2) (h : EV E M (pc + 3) lv st σ2 v σ') : EV E M pc lv (VR x :: VR (some a) :: st) σ v σ' := by
  obtain ⟨⟨h1, h2⟩, h3⟩ := e_if hg
  subst h3
  refine EV_putf hd hf h1 h2 (e_same_P _ _ _ _) (fun j => e_wP hty j) ?_ ?_ h
  · cases hq : tyC ci k <;> (rw [hq] at hty; first | (cases hty; done) | (cases x <;> rfl))
  · cases hq : tyC ci k <;> (rw [hq] at hty; first | (cases hty; done) | (cases x <;> rfl))
theorem EV_aI {t a : Nat} {ty : FieldType} {i x : Int32} (ht : aT[t]? = some ty) (hty : ty = .int ∨ ty = .byte ∨ ty = .boolean) (hd : decode M.1 pc = .ok (e_ldi ty, 1)) (hg : a_I σ t a i = some x) (h : EV E M (pc + 1) lv (VI x :: st) σ v σ') : EV E M pc lv (VI i :: VR (some a) :: st) σ v σ' := by
  obtain ⟨⟨⟨h1, h2⟩, h4⟩, h3⟩ := e_if hg
  exact EV_ald ⟨ht, by rcases hty with q | q | q <;> simp [q]⟩ hd h1 h2 (e_vin h4) (by rw [e_vI (by rcases hty with q | q | q <;> rw [q] <;> rfl), h3]; rfl) h
theorem EV_aL {t a : Nat} {i : Int32} {x : Int64} (ht : aT[t]? = some .long) (hd : decode M.1 pc = .ok (.laload, 1)) (hg : a_L σ t a i = some x) (h : EV E M (pc + 1) lv (VL x :: st) σ v σ') : EV E M pc lv (VI i :: VR (some a) :: st) σ v σ' := by
  obtain ⟨⟨⟨h1, h2⟩, h4⟩, h3⟩ := e_if hg
  exact EV_ald (ty := .long) ⟨ht, by simp⟩ hd h1 h2 (e_vin h4) (by rw [← h3]; rfl) h
theorem EV_aP {t a : Nat} {C : String} {i : Int32} {x : Option Nat} (ht : aT[t]? = some (.object C)) (hd : decode M.1 pc = .ok (.aaload, 1)) (hg : a_P σ t a i = some x) (h : EV E M (pc + 1) lv (VR x :: st) σ v σ') : EV E M pc lv (VI i :: VR (some a) :: st) σ v σ' := by
  obtain ⟨⟨⟨h1, h2⟩, h4⟩, h3⟩ := e_if hg
  exact EV_ald (ty := .object C) ⟨ht, by simp⟩ hd h1 h2 (e_vin h4) (by rw [← h3]; rfl) h
theorem EV_sI {t a : Nat} {i x : Int32} (ht : aT[t]? = some .int) (hd : decode M.1 pc = .ok (.iastore, 1)) (hg : s_I σ t a i x = some σ2) (h : EV E M (pc + 1) lv st σ2 v σ') : EV E M pc lv (VI x :: VI i :: VR (some a) :: st) σ v σ' := by
  obtain ⟨⟨⟨h1, h2⟩, h4⟩, h3⟩ := e_if hg
  subst h3
  exact EV_astI ht (Or.inl rfl) hd h1 h2 (e_vin h4) rfl h
theorem EV_sB {t a : Nat} {i x : Int32} (ht : aT[t]? = some .byte) (hd : decode M.1 pc = .ok (.bastore, 1)) (hg : s_B σ t a i x = some σ2) (h : EV E M (pc + 1) lv st σ2 v σ') : EV E M pc lv (VI x :: VI i :: VR (some a) :: st) σ v σ' := by
  obtain ⟨⟨⟨h1, h2⟩, h4⟩, h3⟩ := e_if hg
  subst h3
  exact EV_astI ht (Or.inr (Or.inl rfl)) hd h1 h2 (e_vin h4) rfl h
theorem EV_sZ {t a : Nat} {i x : Int32} (ht : aT[t]? = some .boolean) (hd : decode M.1 pc = .ok (.bastore, 1)) (hg : s_Z σ t a i x = some σ2) (h : EV E M (pc + 1) lv st σ2 v σ') : EV E M pc lv (VI x :: VI i :: VR (some a) :: st) σ v σ' := by
  obtain ⟨⟨⟨h1, h2⟩, h4⟩, h3⟩ := e_if hg
  subst h3
  exact EV_astI ht (Or.inr (Or.inr rfl)) hd h1 h2 (e_vin h4) rfl h
theorem EV_sL {t a : Nat} {i : Int32} {x : Int64} (ht : aT[t]? = some .long) (hd : decode M.1 pc = .ok (.lastore, 1)) (hg : s_L σ t a i x = some σ2) (h : EV E M (pc + 1) lv st σ2 v σ') : EV E M pc lv (VL x :: VI i :: VR (some a) :: st) σ v σ' := by
  obtain ⟨⟨⟨h1, h2⟩, h4⟩, h3⟩ := e_if hg
  subst h3
  exact EV_astL ht hd h1 h2 (e_vin h4) h
theorem EV_sP {t a b ci : Nat} {r : vw_C} {i : Int32} (hX : vwCl[ci]? = some r) (ht : aT[t]? = some (.object r.1)) (hd : decode M.1 pc = .ok (.aastore, 1)) (hg : s_P σ t (100 + ci) a i b = some σ2) (h : EV E M (pc + 1) lv st σ2 v σ') : EV E M pc lv (VR (some b) :: VI i :: VR (some a) :: st) σ v σ' := by
  obtain ⟨⟨⟨h1, h2⟩, h4, h5, h6⟩, h3⟩ := e_if hg
  subst h3
  exact EV_astP hX ht hd h1 h2 h5 h6 (e_vin h4) h
theorem EV_nO {i ci q w : Nat} {r : vw_C} (hd : decode M.1 pc = .ok (.new i, 3)) (hX : eX ci r) (hN : r.2.2 = w) (hcl : Cond.classLink M.2.1 i r.1 ∈ eT) (hin : Cond.instantiable r.1 r.2.2 ∈ eT) (hini : Cond.initialized r.1 ∈ eT) (hty : ∀ k, k < r.2.2 → tyC ci k ≠ .float ∧ tyC ci k ≠ .double) (hg : n_O σ (100 + ci) w = some (q, σ2)) (h : EV E M (pc + 3) lv (VR (some q) :: st) σ2 v σ') : EV E M pc lv st σ v σ' := by
  obtain ⟨h1, h3⟩ := e_if hg
  cases h3
  subst hN
  exact EV_newc hd hX hcl hin hini hty h1 h
theorem EV_nA {t q : Nat} {atype : ArrayType} {ty : FieldType} {n : Int32} (hd : decode M.1 pc = .ok (.newarray atype, 2)) (hty : newarray.typeOf atype = ty) (ht : aT[t]? = some ty) (hpr : ty = .int ∨ ty = .byte ∨ ty = .boolean ∨ ty = .long) (hw : Cond.arrayClass ty ∈ eT) (hg : n_A σ t n = some (q, σ2)) (h : EV E M (pc + 2) lv (VR (some q) :: st) σ2 v σ') : EV E M pc lv (VI n :: st) σ v σ' := by
  obtain ⟨⟨h1, h2, h4⟩, h3⟩ := e_if hg
  cases h3
  exact EV_newa hd hty ht hpr hw h2 h4 h1 h
theorem EV_nR {t i q : Nat} {C : String} {n : Int32} (hd : decode M.1 pc = .ok (.anewarray i, 3)) (ht : aT[t]? = some (.object C)) (hcl : Cond.classLink M.2.1 i C ∈ eT) (hov : Cond.arrayOver (.object C) ∈ eT) (hg : n_A σ t n = some (q, σ2)) (h : EV E M (pc + 3) lv (VR (some q) :: st) σ2 v σ') : EV E M pc lv (VI n :: st) σ v σ' := by
  obtain ⟨⟨h1, h2, h4⟩, h3⟩ := e_if hg
  cases h3
  exact EV_anew hd ht hcl hov h2 h4 h1 h
theorem EV_cI {i t a0 a : Nat} {ty : FieldType} {sp dp n : Int32} (hd : decode M.1 pc = .ok (.invokestatic i, 3)) (hlk : Cond.methodLink M.2.1 i arraycopyName ∈ eT) (hna : Cond.native arraycopyName ∈ eT) (hst : Cond.static arraycopyName ∈ eT) (hini : Cond.initialized "java/lang/System" ∈ eT) (ht : aT[t]? = some ty) (hty : ty = .int ∨ ty = .byte ∨ ty = .boolean) (hR0 : 1 ≤ M.2.2.2.2.1 ∧ 26 ≤ M.2.2.2.2.2) (hrest : e_rest st) (hg : c_I σ t a0 sp a dp n = some σ2) (h : EV E M (pc + 3) lv st σ2 v σ') : EV E M pc lv (VI n :: VI dp :: VR (some a) :: VI sp :: VR (some a0) :: st) σ v σ' := by
  obtain ⟨⟨⟨h1, h2⟩, ⟨h3, h4⟩, ⟨h5, h6, h7⟩, h8, h9⟩, h10⟩ := e_if hg
  subst h10
  exact EV_copy hd hlk hna hst hini ht hty h1 h2 h3 h4 h5 h6 h7 h8 h9 hR0 hrest h
end EVP
end
