def e_nest : Cond → Bool
  | .fieldLinkNest .. => true
  | .methodLinkNest .. => true
  | _ => false
def eT : List Cond := lw_tbl.filter goodWord
def eN : List Cond := lw_tbl.filter e_nest
theorem eT_of {w : Cond} (h : w ∈ lw_tbl) (g : goodWord w = true) : w ∈ eT := List.mem_filter.mpr ⟨h, g⟩
theorem eN_of {w : Cond} (h : w ∈ lw_tbl) (g : e_nest w = true) : w ∈ eN := List.mem_filter.mpr ⟨h, g⟩
theorem eT_good : GoodIn eT eT := fun w h => ⟨h, good_of_word (List.mem_filter.mp h).2⟩
theorem in_s : ∀ w ∈ k2_sels lw_privs, w ∈ lw_tbl := fun w h => List.mem_append_left _ h
theorem in_t : ∀ w ∈ tables_1, w ∈ lw_tbl := fun w h => List.mem_append_right _ h
theorem in_1 : ∀ w ∈ tables_1_1, w ∈ lw_tbl := fun w h => in_t w (List.mem_append_left _ h)
theorem in_2 : ∀ w ∈ tables_1_2, w ∈ lw_tbl := fun w h => in_t w (List.mem_append_right _ (List.mem_append_left _ h))
theorem in_3 : ∀ w ∈ tables_1_3, w ∈ lw_tbl := fun w h => in_t w (List.mem_append_right _ (List.mem_append_right _ (List.mem_append_left _ h)))
theorem in_4 : ∀ w ∈ tables_1_4, w ∈ lw_tbl := fun w h => in_t w (List.mem_append_right _ (List.mem_append_right _ (List.mem_append_right _ (List.mem_append_left _ h))))
theorem in_5 : ∀ w ∈ tables_1_5, w ∈ lw_tbl := fun w h => in_t w (List.mem_append_right _ (List.mem_append_right _ (List.mem_append_right _ (List.mem_append_right _ (List.mem_append_left _ h)))))
theorem in_6 : ∀ w ∈ tables_1_6, w ∈ lw_tbl := fun w h => in_t w (List.mem_append_right _ (List.mem_append_right _ (List.mem_append_right _ (List.mem_append_right _ (List.mem_append_right _ (h))))))
set_option maxRecDepth 100000 in
theorem tw_0 : Cond.selects "ControlledStation" ⟨"ControlledStation", "isFreeAddress", "(I)Z"⟩ ⟨"ControlledStation", "isFreeAddress", "(I)Z"⟩ ∈ eT := eT_of (in_s _ (List.mem_of_getElem? (i := 0) rfl)) rfl
set_option maxRecDepth 100000 in
theorem tw_1 : Cond.selects "ControlledStation" ⟨"ControlledStation", "commandWith", "(I)LControlledStation$Command;"⟩ ⟨"ControlledStation", "commandWith", "(I)LControlledStation$Command;"⟩ ∈ eT := eT_of (in_s _ (List.mem_of_getElem? (i := 1) rfl)) rfl
set_option maxRecDepth 100000 in
theorem tw_2 : Cond.selects "ControlledStation" ⟨"ControlledStation", "sendWaiting", "()V"⟩ ⟨"ControlledStation", "sendWaiting", "()V"⟩ ∈ eT := eT_of (in_s _ (List.mem_of_getElem? (i := 2) rfl)) rfl
set_option maxRecDepth 100000 in
theorem tw_3 : Cond.selects "ControlledStation" ⟨"ControlledStation", "sendData", "(LControlledStation$Message;Z)Z"⟩ ⟨"ControlledStation", "sendData", "(LControlledStation$Message;Z)Z"⟩ ∈ eT := eT_of (in_s _ (List.mem_of_getElem? (i := 3) rfl)) rfl
set_option maxRecDepth 100000 in
theorem tw_4 : Cond.selects "ControlledStation" ⟨"ControlledStation", "sendFrame", "(ILControlledStation$Message;)Z"⟩ ⟨"ControlledStation", "sendFrame", "(ILControlledStation$Message;)Z"⟩ ∈ eT := eT_of (in_s _ (List.mem_of_getElem? (i := 4) rfl)) rfl
set_option maxRecDepth 100000 in
theorem tw_5 : Cond.selects "ControlledStation" ⟨"ControlledStation", "shut", "(I)V"⟩ ⟨"ControlledStation", "shut", "(I)V"⟩ ∈ eT := eT_of (in_s _ (List.mem_of_getElem? (i := 5) rfl)) rfl
set_option maxRecDepth 100000 in
theorem tw_6 : Cond.selects "ControlledStation$Receiver" ⟨"ControlledStation$Receiver", "isControl", "()Z"⟩ ⟨"ControlledStation$Receiver", "isControl", "()Z"⟩ ∈ eT := eT_of (in_s _ (List.mem_of_getElem? (i := 6) rfl)) rfl
set_option maxRecDepth 100000 in
theorem tw_7 : Cond.selects "ControlledStation" ⟨"ControlledStation", "acceptFrame", "()Z"⟩ ⟨"ControlledStation", "acceptFrame", "()Z"⟩ ∈ eT := eT_of (in_s _ (List.mem_of_getElem? (i := 7) rfl)) rfl
set_option maxRecDepth 100000 in
theorem tw_8 : Cond.selects "ControlledStation" ⟨"ControlledStation", "acceptData", "()Z"⟩ ⟨"ControlledStation", "acceptData", "()Z"⟩ ∈ eT := eT_of (in_s _ (List.mem_of_getElem? (i := 8) rfl)) rfl
set_option maxRecDepth 100000 in
theorem tw_9 : Cond.selects "ControlledStation" ⟨"ControlledStation", "acknowledge", "(I)Z"⟩ ⟨"ControlledStation", "acknowledge", "(I)Z"⟩ ∈ eT := eT_of (in_s _ (List.mem_of_getElem? (i := 9) rfl)) rfl
set_option maxRecDepth 100000 in
theorem tw_10 : Cond.selects "ControlledStation" ⟨"ControlledStation", "controlCame", "(I)V"⟩ ⟨"ControlledStation", "controlCame", "(I)V"⟩ ∈ eT := eT_of (in_s _ (List.mem_of_getElem? (i := 10) rfl)) rfl
set_option maxRecDepth 100000 in
theorem tw_11 : Cond.selects "ControlledStation" ⟨"ControlledStation", "stopCame", "()V"⟩ ⟨"ControlledStation", "stopCame", "()V"⟩ ∈ eT := eT_of (in_s _ (List.mem_of_getElem? (i := 11) rfl)) rfl
set_option maxRecDepth 100000 in
theorem tw_12 : Cond.selects "ControlledStation" ⟨"ControlledStation", "sendAck", "()V"⟩ ⟨"ControlledStation", "sendAck", "()V"⟩ ∈ eT := eT_of (in_s _ (List.mem_of_getElem? (i := 12) rfl)) rfl
set_option maxRecDepth 100000 in
theorem tw_13 : Cond.selects "ControlledStation" ⟨"ControlledStation", "takeRest", "(LControlledStation$Message;)V"⟩ ⟨"ControlledStation", "takeRest", "(LControlledStation$Message;)V"⟩ ∈ eT := eT_of (in_s _ (List.mem_of_getElem? (i := 13) rfl)) rfl
set_option maxRecDepth 100000 in
theorem tw_14 : Cond.selects "ControlledStation" ⟨"ControlledStation", "faultOf", "(LControlledStation$Message;II)I"⟩ ⟨"ControlledStation", "faultOf", "(LControlledStation$Message;II)I"⟩ ∈ eT := eT_of (in_s _ (List.mem_of_getElem? (i := 14) rfl)) rfl
set_option maxRecDepth 100000 in
theorem tw_15 : Cond.selects "ControlledStation" ⟨"ControlledStation", "isAddressOf", "(II)Z"⟩ ⟨"ControlledStation", "isAddressOf", "(II)Z"⟩ ∈ eT := eT_of (in_s _ (List.mem_of_getElem? (i := 15) rfl)) rfl
set_option maxRecDepth 100000 in
theorem tw_16 : Cond.selects "ControlledStation" ⟨"ControlledStation", "answerSame", "(I)Z"⟩ ⟨"ControlledStation", "answerSame", "(I)Z"⟩ ∈ eT := eT_of (in_s _ (List.mem_of_getElem? (i := 16) rfl)) rfl
set_option maxRecDepth 100000 in
theorem tw_17 : Cond.selects "ControlledStation" ⟨"ControlledStation", "readCame", "(LControlledStation$Point;)V"⟩ ⟨"ControlledStation", "readCame", "(LControlledStation$Point;)V"⟩ ∈ eT := eT_of (in_s _ (List.mem_of_getElem? (i := 17) rfl)) rfl
set_option maxRecDepth 100000 in
theorem tw_18 : Cond.selects "ControlledStation" ⟨"ControlledStation", "answerObject", "(LControlledStation$Point;I)V"⟩ ⟨"ControlledStation", "answerObject", "(LControlledStation$Point;I)V"⟩ ∈ eT := eT_of (in_s _ (List.mem_of_getElem? (i := 18) rfl)) rfl
set_option maxRecDepth 100000 in
theorem tw_19 : Cond.selects "ControlledStation" ⟨"ControlledStation", "interrogationCame", "(II)V"⟩ ⟨"ControlledStation", "interrogationCame", "(II)V"⟩ ∈ eT := eT_of (in_s _ (List.mem_of_getElem? (i := 19) rfl)) rfl
set_option maxRecDepth 100000 in
theorem tw_20 : Cond.selects "ControlledStation" ⟨"ControlledStation", "answerPoints", "(I)V"⟩ ⟨"ControlledStation", "answerPoints", "(I)V"⟩ ∈ eT := eT_of (in_s _ (List.mem_of_getElem? (i := 20) rfl)) rfl
set_option maxRecDepth 100000 in
theorem tw_21 : Cond.selects "ControlledStation" ⟨"ControlledStation", "countersOrderCame", "(I)V"⟩ ⟨"ControlledStation", "countersOrderCame", "(I)V"⟩ ∈ eT := eT_of (in_s _ (List.mem_of_getElem? (i := 21) rfl)) rfl
set_option maxRecDepth 100000 in
theorem tw_22 : Cond.selects "ControlledStation" ⟨"ControlledStation", "orderCounters", "(I)V"⟩ ⟨"ControlledStation", "orderCounters", "(I)V"⟩ ∈ eT := eT_of (in_s _ (List.mem_of_getElem? (i := 22) rfl)) rfl
set_option maxRecDepth 100000 in
theorem tw_23 : Cond.selects "ControlledStation" ⟨"ControlledStation", "clockOrderCame", "(J)V"⟩ ⟨"ControlledStation", "clockOrderCame", "(J)V"⟩ ∈ eT := eT_of (in_s _ (List.mem_of_getElem? (i := 23) rfl)) rfl
set_option maxRecDepth 100000 in
theorem tw_24 : Cond.selects "ControlledStation" ⟨"ControlledStation", "commandCame", "(LControlledStation$Command;I)V"⟩ ⟨"ControlledStation", "commandCame", "(LControlledStation$Command;I)V"⟩ ∈ eT := eT_of (in_s _ (List.mem_of_getElem? (i := 24) rfl)) rfl
set_option maxRecDepth 100000 in
theorem tw_25 : Cond.selects "ControlledStation" ⟨"ControlledStation", "selectCame", "(LControlledStation$Command;IZ)V"⟩ ⟨"ControlledStation", "selectCame", "(LControlledStation$Command;IZ)V"⟩ ∈ eT := eT_of (in_s _ (List.mem_of_getElem? (i := 25) rfl)) rfl
set_option maxRecDepth 100000 in
theorem tw_26 : Cond.selects "ControlledStation" ⟨"ControlledStation", "endSelection", "(LControlledStation$Command;IZ)Z"⟩ ⟨"ControlledStation", "endSelection", "(LControlledStation$Command;IZ)Z"⟩ ∈ eT := eT_of (in_s _ (List.mem_of_getElem? (i := 26) rfl)) rfl
set_option maxRecDepth 100000 in
theorem tw_27 : Cond.selects "ControlledStation" ⟨"ControlledStation", "carryOut", "(LControlledStation$Command;IZ)V"⟩ ⟨"ControlledStation", "carryOut", "(LControlledStation$Command;IZ)V"⟩ ∈ eT := eT_of (in_s _ (List.mem_of_getElem? (i := 27) rfl)) rfl
set_option maxRecDepth 100000 in
theorem tw_28 : Cond.selects "ControlledStation" ⟨"ControlledStation", "behindFrame", "()V"⟩ ⟨"ControlledStation", "behindFrame", "()V"⟩ ∈ eT := eT_of (in_s _ (List.mem_of_getElem? (i := 28) rfl)) rfl
set_option maxRecDepth 100000 in
theorem tw_29 : Cond.selects "ControlledStation" ⟨"ControlledStation", "runTimers", "()V"⟩ ⟨"ControlledStation", "runTimers", "()V"⟩ ∈ eT := eT_of (in_s _ (List.mem_of_getElem? (i := 29) rfl)) rfl
set_option maxRecDepth 100000 in
theorem tw_30 : Cond.selects "ControlledStation" ⟨"ControlledStation", "isOver", "(II)Z"⟩ ⟨"ControlledStation", "isOver", "(II)Z"⟩ ∈ eT := eT_of (in_s _ (List.mem_of_getElem? (i := 30) rfl)) rfl
set_option maxRecDepth 100000 in
theorem tw_31 : Cond.selects "ControlledStation" ⟨"ControlledStation", "sendTest", "()V"⟩ ⟨"ControlledStation", "sendTest", "()V"⟩ ∈ eT := eT_of (in_s _ (List.mem_of_getElem? (i := 31) rfl)) rfl
set_option maxRecDepth 100000 in
theorem tw_32 : Cond.selects "ControlledStationModel" ⟨"ControlledStationModel", "isFree", "(I)Z"⟩ ⟨"ControlledStationModel", "isFree", "(I)Z"⟩ ∈ eT := eT_of (in_s _ (List.mem_of_getElem? (i := 32) rfl)) rfl
set_option maxRecDepth 100000 in
theorem tw_33 : Cond.selects "ControlledStationModel" ⟨"ControlledStationModel", "isPoint", "(I)Z"⟩ ⟨"ControlledStationModel", "isPoint", "(I)Z"⟩ ∈ eT := eT_of (in_s _ (List.mem_of_getElem? (i := 33) rfl)) rfl
set_option maxRecDepth 100000 in
theorem tw_34 : Cond.selects "ControlledStationModel" ⟨"ControlledStationModel", "timeByte", "(I)I"⟩ ⟨"ControlledStationModel", "timeByte", "(I)I"⟩ ∈ eT := eT_of (in_s _ (List.mem_of_getElem? (i := 34) rfl)) rfl
set_option maxRecDepth 100000 in
theorem tw_35 : Cond.selects "ControlledStationModel" ⟨"ControlledStationModel", "sends", "()V"⟩ ⟨"ControlledStationModel", "sends", "()V"⟩ ∈ eT := eT_of (in_s _ (List.mem_of_getElem? (i := 35) rfl)) rfl
set_option maxRecDepth 100000 in
theorem tw_36 : Cond.selects "ControlledStationModel" ⟨"ControlledStationModel", "sendsDraft", "()Z"⟩ ⟨"ControlledStationModel", "sendsDraft", "()Z"⟩ ∈ eT := eT_of (in_s _ (List.mem_of_getElem? (i := 36) rfl)) rfl
set_option maxRecDepth 100000 in
theorem tw_37 : Cond.selects "ControlledStationModel" ⟨"ControlledStationModel", "ackLow", "()I"⟩ ⟨"ControlledStationModel", "ackLow", "()I"⟩ ∈ eT := eT_of (in_s _ (List.mem_of_getElem? (i := 37) rfl)) rfl
set_option maxRecDepth 100000 in
theorem tw_38 : Cond.selects "ControlledStationModel" ⟨"ControlledStationModel", "ackHigh", "()I"⟩ ⟨"ControlledStationModel", "ackHigh", "()I"⟩ ∈ eT := eT_of (in_s _ (List.mem_of_getElem? (i := 38) rfl)) rfl
set_option maxRecDepth 100000 in
theorem tw_39 : Cond.selects "ControlledStationModel" ⟨"ControlledStationModel", "frames", "(IIIII)Z"⟩ ⟨"ControlledStationModel", "frames", "(IIIII)Z"⟩ ∈ eT := eT_of (in_s _ (List.mem_of_getElem? (i := 39) rfl)) rfl
set_option maxRecDepth 100000 in
theorem tw_40 : Cond.selects "ControlledStationModel" ⟨"ControlledStationModel", "closes", "(I)V"⟩ ⟨"ControlledStationModel", "closes", "(I)V"⟩ ∈ eT := eT_of (in_s _ (List.mem_of_getElem? (i := 40) rfl)) rfl
set_option maxRecDepth 100000 in
theorem tw_41 : Cond.selects "ControlledStationModel" ⟨"ControlledStationModel", "moveEvent", "(II)V"⟩ ⟨"ControlledStationModel", "moveEvent", "(II)V"⟩ ∈ eT := eT_of (in_s _ (List.mem_of_getElem? (i := 41) rfl)) rfl
set_option maxRecDepth 100000 in
theorem tw_42 : Cond.selects "ControlledStationModel" ⟨"ControlledStationModel", "byteOut", "(I)V"⟩ ⟨"ControlledStationModel", "byteOut", "(I)V"⟩ ∈ eT := eT_of (in_s _ (List.mem_of_getElem? (i := 42) rfl)) rfl
set_option maxRecDepth 100000 in
theorem tw_43 : Cond.selects "ControlledStationModel" ⟨"ControlledStationModel", "firstAnswerGoes", "()V"⟩ ⟨"ControlledStationModel", "firstAnswerGoes", "()V"⟩ ∈ eT := eT_of (in_s _ (List.mem_of_getElem? (i := 43) rfl)) rfl
set_option maxRecDepth 100000 in
theorem tw_44 : Cond.selects "ControlledStationModel" ⟨"ControlledStationModel", "sendsEvent", "()Z"⟩ ⟨"ControlledStationModel", "sendsEvent", "()Z"⟩ ∈ eT := eT_of (in_s _ (List.mem_of_getElem? (i := 44) rfl)) rfl
set_option maxRecDepth 100000 in
theorem tw_45 : Cond.selects "ControlledStationModel" ⟨"ControlledStationModel", "head", "(IIII)V"⟩ ⟨"ControlledStationModel", "head", "(IIII)V"⟩ ∈ eT := eT_of (in_s _ (List.mem_of_getElem? (i := 45) rfl)) rfl
set_option maxRecDepth 100000 in
theorem tw_46 : Cond.selects "ControlledStationModel" ⟨"ControlledStationModel", "put", "(I)V"⟩ ⟨"ControlledStationModel", "put", "(I)V"⟩ ∈ eT := eT_of (in_s _ (List.mem_of_getElem? (i := 46) rfl)) rfl
set_option maxRecDepth 100000 in
theorem tw_47 : Cond.selects "ControlledStationModel" ⟨"ControlledStationModel", "putNumber", "(II)V"⟩ ⟨"ControlledStationModel", "putNumber", "(II)V"⟩ ∈ eT := eT_of (in_s _ (List.mem_of_getElem? (i := 47) rfl)) rfl
set_option maxRecDepth 100000 in
theorem tw_48 : Cond.selects "ControlledStationModel" ⟨"ControlledStationModel", "object", "(III)V"⟩ ⟨"ControlledStationModel", "object", "(III)V"⟩ ∈ eT := eT_of (in_s _ (List.mem_of_getElem? (i := 48) rfl)) rfl
set_option maxRecDepth 100000 in
theorem tw_49 : Cond.selects "ControlledStationModel" ⟨"ControlledStationModel", "canBe", "()Z"⟩ ⟨"ControlledStationModel", "canBe", "()Z"⟩ ∈ eT := eT_of (in_s _ (List.mem_of_getElem? (i := 49) rfl)) rfl
set_option maxRecDepth 100000 in
theorem tw_50 : Cond.selects "ControlledStationModel" ⟨"ControlledStationModel", "takes", "()V"⟩ ⟨"ControlledStationModel", "takes", "()V"⟩ ∈ eT := eT_of (in_s _ (List.mem_of_getElem? (i := 50) rfl)) rfl
set_option maxRecDepth 100000 in
theorem tw_51 : Cond.selects "ControlledStationModel" ⟨"ControlledStationModel", "takesData", "()V"⟩ ⟨"ControlledStationModel", "takesData", "()V"⟩ ∈ eT := eT_of (in_s _ (List.mem_of_getElem? (i := 51) rfl)) rfl
set_option maxRecDepth 100000 in
theorem tw_52 : Cond.selects "ControlledStationModel" ⟨"ControlledStationModel", "acknowledges", "()Z"⟩ ⟨"ControlledStationModel", "acknowledges", "()Z"⟩ ∈ eT := eT_of (in_s _ (List.mem_of_getElem? (i := 52) rfl)) rfl
set_option maxRecDepth 100000 in
theorem tw_53 : Cond.selects "ControlledStationModel" ⟨"ControlledStationModel", "rest", "()V"⟩ ⟨"ControlledStationModel", "rest", "()V"⟩ ∈ eT := eT_of (in_s _ (List.mem_of_getElem? (i := 53) rfl)) rfl
set_option maxRecDepth 100000 in
theorem tw_54 : Cond.selects "ControlledStationModel" ⟨"ControlledStationModel", "at", "(I)I"⟩ ⟨"ControlledStationModel", "at", "(I)I"⟩ ∈ eT := eT_of (in_s _ (List.mem_of_getElem? (i := 54) rfl)) rfl
set_option maxRecDepth 100000 in
theorem tw_55 : Cond.selects "ControlledStationModel" ⟨"ControlledStationModel", "same", "(IZ)V"⟩ ⟨"ControlledStationModel", "same", "(IZ)V"⟩ ∈ eT := eT_of (in_s _ (List.mem_of_getElem? (i := 55) rfl)) rfl
set_option maxRecDepth 100000 in
theorem tw_56 : Cond.selects "ControlledStationModel" ⟨"ControlledStationModel", "waits", "()Z"⟩ ⟨"ControlledStationModel", "waits", "()Z"⟩ ∈ eT := eT_of (in_s _ (List.mem_of_getElem? (i := 56) rfl)) rfl
set_option maxRecDepth 100000 in
theorem tw_57 : Cond.selects "ControlledStationModel" ⟨"ControlledStationModel", "commanded", "(III)V"⟩ ⟨"ControlledStationModel", "commanded", "(III)V"⟩ ∈ eT := eT_of (in_s _ (List.mem_of_getElem? (i := 57) rfl)) rfl
set_option maxRecDepth 100000 in
theorem tw_58 : Cond.selects "ControlledStationModel" ⟨"ControlledStationModel", "isTest", "()Z"⟩ ⟨"ControlledStationModel", "isTest", "()Z"⟩ ∈ eT := eT_of (in_s _ (List.mem_of_getElem? (i := 58) rfl)) rfl
set_option maxRecDepth 100000 in
theorem tw_59 : Cond.selects "ControlledStationModel" ⟨"ControlledStationModel", "keepBytes", "(I)V"⟩ ⟨"ControlledStationModel", "keepBytes", "(I)V"⟩ ∈ eT := eT_of (in_s _ (List.mem_of_getElem? (i := 59) rfl)) rfl
set_option maxRecDepth 100000 in
theorem tw_60 : Cond.selects "ControlledStationModel" ⟨"ControlledStationModel", "areBytes", "(I)Z"⟩ ⟨"ControlledStationModel", "areBytes", "(I)Z"⟩ ∈ eT := eT_of (in_s _ (List.mem_of_getElem? (i := 60) rfl)) rfl
set_option maxRecDepth 100000 in
theorem tw_61 : Cond.selects "ControlledStationModel" ⟨"ControlledStationModel", "carriesOut", "(III)V"⟩ ⟨"ControlledStationModel", "carriesOut", "(III)V"⟩ ∈ eT := eT_of (in_s _ (List.mem_of_getElem? (i := 61) rfl)) rfl
set_option maxRecDepth 100000 in
theorem tw_62 : Cond.selects "ControlledStationModel" ⟨"ControlledStationModel", "reads", "(I)V"⟩ ⟨"ControlledStationModel", "reads", "(I)V"⟩ ∈ eT := eT_of (in_s _ (List.mem_of_getElem? (i := 62) rfl)) rfl
set_option maxRecDepth 100000 in
theorem tw_63 : Cond.selects "ControlledStationModel" ⟨"ControlledStationModel", "asked", "(II)V"⟩ ⟨"ControlledStationModel", "asked", "(II)V"⟩ ∈ eT := eT_of (in_s _ (List.mem_of_getElem? (i := 63) rfl)) rfl
set_option maxRecDepth 100000 in
theorem tw_64 : Cond.selects "ControlledStationModel" ⟨"ControlledStationModel", "objects", "(IZI)V"⟩ ⟨"ControlledStationModel", "objects", "(IZI)V"⟩ ∈ eT := eT_of (in_s _ (List.mem_of_getElem? (i := 64) rfl)) rfl
set_option maxRecDepth 100000 in
theorem tw_65 : Cond.selects "ControlledStationModel" ⟨"ControlledStationModel", "freezes", "(I)V"⟩ ⟨"ControlledStationModel", "freezes", "(I)V"⟩ ∈ eT := eT_of (in_s _ (List.mem_of_getElem? (i := 65) rfl)) rfl
set_option maxRecDepth 100000 in
theorem tw_66 : Cond.selects "ControlledStationModel" ⟨"ControlledStationModel", "isTime", "()Z"⟩ ⟨"ControlledStationModel", "isTime", "()Z"⟩ ∈ eT := eT_of (in_s _ (List.mem_of_getElem? (i := 66) rfl)) rfl
set_option maxRecDepth 100000 in
theorem tw_67 : Cond.selects "ControlledStationModel" ⟨"ControlledStationModel", "takesOrder", "(I)V"⟩ ⟨"ControlledStationModel", "takesOrder", "(I)V"⟩ ∈ eT := eT_of (in_s _ (List.mem_of_getElem? (i := 67) rfl)) rfl
set_option maxRecDepth 100000 in
theorem tw_68 : Cond.selects "ControlledStationModel" ⟨"ControlledStationModel", "tells", "()V"⟩ ⟨"ControlledStationModel", "tells", "()V"⟩ ∈ eT := eT_of (in_s _ (List.mem_of_getElem? (i := 68) rfl)) rfl
set_option maxRecDepth 100000 in
theorem tw_69 : Cond.selects "ControlledStationModel" ⟨"ControlledStationModel", "tickGoes", "()V"⟩ ⟨"ControlledStationModel", "tickGoes", "()V"⟩ ∈ eT := eT_of (in_s _ (List.mem_of_getElem? (i := 69) rfl)) rfl
set_option maxRecDepth 100000 in
theorem tw_70 : Cond.selects "ControlledStationModel" ⟨"ControlledStationModel", "clockGoes", "()V"⟩ ⟨"ControlledStationModel", "clockGoes", "()V"⟩ ∈ eT := eT_of (in_s _ (List.mem_of_getElem? (i := 70) rfl)) rfl
set_option maxRecDepth 100000 in
theorem tw_72 : Cond.initialized "ControlledStation" ∈ eT := eT_of (in_1 _ (List.mem_of_getElem? (i := 1) rfl)) rfl
set_option maxRecDepth 100000 in
theorem tw_73 : Cond.initialized "ControlledStation$PointTable" ∈ eT := eT_of (in_1 _ (List.mem_of_getElem? (i := 2) rfl)) rfl
set_option maxRecDepth 100000 in
theorem tw_74 : Cond.initialized "ControlledStation$Selection" ∈ eT := eT_of (in_1 _ (List.mem_of_getElem? (i := 3) rfl)) rfl
set_option maxRecDepth 100000 in
theorem tw_75 : Cond.initialized "ControlledStation$Calendar" ∈ eT := eT_of (in_1 _ (List.mem_of_getElem? (i := 4) rfl)) rfl
set_option maxRecDepth 100000 in
theorem tw_76 : Cond.initialized "ControlledStation$EventQueue" ∈ eT := eT_of (in_1 _ (List.mem_of_getElem? (i := 5) rfl)) rfl
set_option maxRecDepth 100000 in
theorem tw_77 : Cond.initialized "ControlledStation$Message" ∈ eT := eT_of (in_1 _ (List.mem_of_getElem? (i := 6) rfl)) rfl
set_option maxRecDepth 100000 in
theorem tw_78 : Cond.initialized "ControlledStation$AnswerQueue" ∈ eT := eT_of (in_1 _ (List.mem_of_getElem? (i := 7) rfl)) rfl
set_option maxRecDepth 100000 in
theorem tw_79 : Cond.initialized "ControlledStation$Receiver" ∈ eT := eT_of (in_1 _ (List.mem_of_getElem? (i := 8) rfl)) rfl
set_option maxRecDepth 100000 in
theorem tw_80 : Cond.initialized "ControlledStation$SentFrames" ∈ eT := eT_of (in_1 _ (List.mem_of_getElem? (i := 9) rfl)) rfl
set_option maxRecDepth 100000 in
theorem tw_81 : Cond.initialized "ControlledStation$OutBytes" ∈ eT := eT_of (in_1 _ (List.mem_of_getElem? (i := 10) rfl)) rfl
set_option maxRecDepth 100000 in
theorem tw_82 : Cond.initialized "ControlledStationModel" ∈ eT := eT_of (in_1 _ (List.mem_of_getElem? (i := 11) rfl)) rfl
set_option maxRecDepth 100000 in
theorem tw_83 : Cond.initialized "ControlledStation$Point" ∈ eT := eT_of (in_1 _ (List.mem_of_getElem? (i := 12) rfl)) rfl
set_option maxRecDepth 100000 in
theorem tw_84 : Cond.initialized "ControlledStation$Command" ∈ eT := eT_of (in_1 _ (List.mem_of_getElem? (i := 13) rfl)) rfl
set_option maxRecDepth 100000 in
theorem tw_85 : Cond.initialized "java/lang/Math" ∈ eT := eT_of (in_1 _ (List.mem_of_getElem? (i := 14) rfl)) rfl
set_option maxRecDepth 100000 in
theorem tw_86 : Cond.initialized "java/lang/System" ∈ eT := eT_of (in_1 _ (List.mem_of_getElem? (i := 15) rfl)) rfl
set_option maxRecDepth 100000 in
theorem tw_87 : Cond.classLink "ControlledStationLaw" 7 "ControlledStation" ∈ eT := eT_of (in_1 _ (List.mem_of_getElem? (i := 16) rfl)) rfl
set_option maxRecDepth 100000 in
theorem tw_88 : Cond.instantiable "ControlledStation" 19 ∈ eT := eT_of (in_1 _ (List.mem_of_getElem? (i := 17) rfl)) rfl
set_option maxRecDepth 100000 in
theorem tw_89 : Cond.methodLink "ControlledStationLaw" 9 ⟨"ControlledStation", "<init>", "()V"⟩ ∈ eT := eT_of (in_1 _ (List.mem_of_getElem? (i := 18) rfl)) rfl
set_option maxRecDepth 100000 in
theorem tw_90 : Cond.instanceMethod ⟨"ControlledStation", "<init>", "()V"⟩ ∈ eT := eT_of (in_1 _ (List.mem_of_getElem? (i := 19) rfl)) rfl
set_option maxRecDepth 100000 in
theorem tw_91 : Cond.code ⟨"ControlledStation", "<init>", "()V"⟩ prog_1_method_1_code 1 (Option.none : Option FieldType) ∈ eT := eT_of (in_1 _ (List.mem_of_getElem? (i := 20) rfl)) rfl
set_option maxRecDepth 100000 in
theorem tw_92 : Cond.methodLink "ControlledStation" 1 ⟨"java/lang/Object", "<init>", "()V"⟩ ∈ eT := eT_of (in_1 _ (List.mem_of_getElem? (i := 21) rfl)) rfl
set_option maxRecDepth 100000 in
theorem tw_93 : Cond.instanceMethod ⟨"java/lang/Object", "<init>", "()V"⟩ ∈ eT := eT_of (in_1 _ (List.mem_of_getElem? (i := 22) rfl)) rfl
set_option maxRecDepth 100000 in
theorem tw_94 : Cond.code ⟨"java/lang/Object", "<init>", "()V"⟩ object_method_1_code 1 (Option.none : Option FieldType) ∈ eT := eT_of (in_1 _ (List.mem_of_getElem? (i := 23) rfl)) rfl
set_option maxRecDepth 100000 in
theorem tw_95 : Cond.classLink "ControlledStation" 13 "ControlledStation$PointTable" ∈ eT := eT_of (in_1 _ (List.mem_of_getElem? (i := 24) rfl)) rfl
set_option maxRecDepth 100000 in
theorem tw_96 : Cond.instantiable "ControlledStation$PointTable" 3 ∈ eT := eT_of (in_1 _ (List.mem_of_getElem? (i := 25) rfl)) rfl
set_option maxRecDepth 100000 in
theorem tw_97 : Cond.methodLinkNest "ControlledStation" 15 ⟨"ControlledStation$PointTable", "<init>", "()V"⟩ "ControlledStation" ∈ eN := eN_of (in_1 _ (List.mem_of_getElem? (i := 26) rfl)) rfl
set_option maxRecDepth 100000 in
theorem tw_98 : Cond.instanceMethod ⟨"ControlledStation$PointTable", "<init>", "()V"⟩ ∈ eT := eT_of (in_1 _ (List.mem_of_getElem? (i := 27) rfl)) rfl
set_option maxRecDepth 100000 in
theorem tw_99 : Cond.code ⟨"ControlledStation$PointTable", "<init>", "()V"⟩ prog_9_method_1_code 1 (Option.none : Option FieldType) ∈ eT := eT_of (in_1 _ (List.mem_of_getElem? (i := 28) rfl)) rfl
set_option maxRecDepth 100000 in
theorem tw_100 : Cond.methodLink "ControlledStation$PointTable" 3 ⟨"java/lang/Object", "<init>", "()V"⟩ ∈ eT := eT_of (in_1 _ (List.mem_of_getElem? (i := 29) rfl)) rfl
set_option maxRecDepth 100000 in
theorem tw_101 : Cond.classLink "ControlledStation$PointTable" 9 "ControlledStation$Point" ∈ eT := eT_of (in_1 _ (List.mem_of_getElem? (i := 30) rfl)) rfl
set_option maxRecDepth 100000 in
theorem tw_102 : Cond.arrayOver (FieldType.object "ControlledStation$Point") ∈ lw_tbl := in_1 _ (List.mem_of_getElem? (i := 31) rfl)
set_option maxRecDepth 100000 in
theorem tw_103 : Cond.fieldLink "ControlledStation$PointTable" 11 "ControlledStation$PointTable" "byNumber" "[LControlledStation$Point;" ∈ eT := eT_of (in_1 _ (List.mem_of_getElem? (i := 32) rfl)) rfl
set_option maxRecDepth 100000 in
theorem tw_104 : Cond.fieldLink "ControlledStation$PointTable" 17 "ControlledStation$PointTable" "byAddress" "[LControlledStation$Point;" ∈ eT := eT_of (in_1 _ (List.mem_of_getElem? (i := 33) rfl)) rfl
set_option maxRecDepth 100000 in
theorem tw_105 : Cond.fieldLink "ControlledStation$PointTable" 20 "ControlledStation$PointTable" "size" "I" ∈ eT := eT_of (in_1 _ (List.mem_of_getElem? (i := 34) rfl)) rfl
set_option maxRecDepth 100000 in
theorem tw_106 : Cond.fieldLink "ControlledStation" 89 "ControlledStation$PointTable" "size" "I" ∈ eT := eT_of (in_1 _ (List.mem_of_getElem? (i := 35) rfl)) rfl
set_option maxRecDepth 100000 in
theorem tw_114 : Cond.arrayClass FieldType.int ∈ eT := eT_of (in_1 _ (List.mem_of_getElem? (i := 43) rfl)) rfl
set_option maxRecDepth 100000 in
theorem tw_115 : Cond.classLink "ControlledStation" 20 "ControlledStation$Command" ∈ eT := eT_of (in_1 _ (List.mem_of_getElem? (i := 44) rfl)) rfl
set_option maxRecDepth 100000 in
theorem tw_116 : Cond.arrayOver (FieldType.object "ControlledStation$Command") ∈ lw_tbl := in_1 _ (List.mem_of_getElem? (i := 45) rfl)
set_option maxRecDepth 100000 in
theorem tw_117 : Cond.classLink "ControlledStation" 26 "ControlledStation$Selection" ∈ eT := eT_of (in_1 _ (List.mem_of_getElem? (i := 46) rfl)) rfl
set_option maxRecDepth 100000 in
theorem tw_118 : Cond.instantiable "ControlledStation$Selection" 4 ∈ eT := eT_of (in_1 _ (List.mem_of_getElem? (i := 47) rfl)) rfl
set_option maxRecDepth 100000 in
theorem tw_119 : Cond.methodLinkNest "ControlledStation" 28 ⟨"ControlledStation$Selection", "<init>", "()V"⟩ "ControlledStation" ∈ eN := eN_of (in_1 _ (List.mem_of_getElem? (i := 48) rfl)) rfl
set_option maxRecDepth 100000 in
theorem tw_120 : Cond.instanceMethod ⟨"ControlledStation$Selection", "<init>", "()V"⟩ ∈ eT := eT_of (in_1 _ (List.mem_of_getElem? (i := 49) rfl)) rfl
set_option maxRecDepth 100000 in
theorem tw_121 : Cond.code ⟨"ControlledStation$Selection", "<init>", "()V"⟩ prog_11_method_1_code 1 (Option.none : Option FieldType) ∈ eT := eT_of (in_1 _ (List.mem_of_getElem? (i := 50) rfl)) rfl
set_option maxRecDepth 100000 in
theorem tw_122 : Cond.methodLink "ControlledStation$Selection" 1 ⟨"java/lang/Object", "<init>", "()V"⟩ ∈ eT := eT_of (in_1 _ (List.mem_of_getElem? (i := 51) rfl)) rfl
set_option maxRecDepth 100000 in
theorem tw_123 : Cond.fieldLink "ControlledStation$Selection" 7 "ControlledStation$Selection" "command" "LControlledStation$Command;" ∈ eT := eT_of (in_1 _ (List.mem_of_getElem? (i := 52) rfl)) rfl
set_option maxRecDepth 100000 in
theorem tw_124 : Cond.fieldLink "ControlledStation$Selection" 13 "ControlledStation$Selection" "data" "I" ∈ eT := eT_of (in_1 _ (List.mem_of_getElem? (i := 53) rfl)) rfl
set_option maxRecDepth 100000 in
theorem tw_125 : Cond.fieldLink "ControlledStation" 449 "ControlledStation$Selection" "data" "I" ∈ eT := eT_of (in_1 _ (List.mem_of_getElem? (i := 54) rfl)) rfl
set_option maxRecDepth 100000 in
theorem tw_126 : Cond.fieldLink "ControlledStation$Selection" 17 "ControlledStation$Selection" "originator" "I" ∈ eT := eT_of (in_1 _ (List.mem_of_getElem? (i := 55) rfl)) rfl
set_option maxRecDepth 100000 in
theorem tw_127 : Cond.fieldLink "ControlledStation" 452 "ControlledStation$Selection" "originator" "I" ∈ eT := eT_of (in_1 _ (List.mem_of_getElem? (i := 56) rfl)) rfl
set_option maxRecDepth 100000 in
theorem tw_128 : Cond.fieldLink "ControlledStation$Selection" 20 "ControlledStation$Selection" "ticksLeft" "I" ∈ eT := eT_of (in_1 _ (List.mem_of_getElem? (i := 57) rfl)) rfl
set_option maxRecDepth 100000 in
theorem tw_129 : Cond.fieldLink "ControlledStation" 215 "ControlledStation$Selection" "ticksLeft" "I" ∈ eT := eT_of (in_1 _ (List.mem_of_getElem? (i := 58) rfl)) rfl
set_option maxRecDepth 100000 in
theorem tw_139 : Cond.classLink "ControlledStation" 33 "ControlledStation$Calendar" ∈ eT := eT_of (in_1 _ (List.mem_of_getElem? (i := 68) rfl)) rfl
set_option maxRecDepth 100000 in
theorem tw_140 : Cond.instantiable "ControlledStation$Calendar" 7 ∈ eT := eT_of (in_1 _ (List.mem_of_getElem? (i := 69) rfl)) rfl
set_option maxRecDepth 100000 in
theorem tw_141 : Cond.methodLinkNest "ControlledStation" 35 ⟨"ControlledStation$Calendar", "<init>", "()V"⟩ "ControlledStation" ∈ eN := eN_of (in_1 _ (List.mem_of_getElem? (i := 70) rfl)) rfl
set_option maxRecDepth 100000 in
theorem tw_142 : Cond.instanceMethod ⟨"ControlledStation$Calendar", "<init>", "()V"⟩ ∈ eT := eT_of (in_1 _ (List.mem_of_getElem? (i := 71) rfl)) rfl
set_option maxRecDepth 100000 in
theorem tw_143 : Cond.code ⟨"ControlledStation$Calendar", "<init>", "()V"⟩ prog_3_method_1_code 1 (Option.none : Option FieldType) ∈ eT := eT_of (in_1 _ (List.mem_of_getElem? (i := 72) rfl)) rfl
set_option maxRecDepth 100000 in
theorem tw_144 : Cond.methodLink "ControlledStation$Calendar" 3 ⟨"java/lang/Object", "<init>", "()V"⟩ ∈ eT := eT_of (in_1 _ (List.mem_of_getElem? (i := 73) rfl)) rfl
set_option maxRecDepth 100000 in
theorem tw_145 : Cond.fieldLink "ControlledStation$Calendar" 18 "ControlledStation$Calendar" "millisecond" "I" ∈ eT := eT_of (in_1 _ (List.mem_of_getElem? (i := 74) rfl)) rfl
set_option maxRecDepth 100000 in
theorem tw_146 : Cond.fieldLink "ControlledStation" 221 "ControlledStation$Calendar" "millisecond" "I" ∈ eT := eT_of (in_1 _ (List.mem_of_getElem? (i := 75) rfl)) rfl
set_option maxRecDepth 100000 in
theorem tw_147 : Cond.fieldLink "ControlledStation$Calendar" 22 "ControlledStation$Calendar" "minute" "I" ∈ eT := eT_of (in_1 _ (List.mem_of_getElem? (i := 76) rfl)) rfl
set_option maxRecDepth 100000 in
theorem tw_148 : Cond.fieldLink "ControlledStation" 224 "ControlledStation$Calendar" "minute" "I" ∈ eT := eT_of (in_1 _ (List.mem_of_getElem? (i := 77) rfl)) rfl
set_option maxRecDepth 100000 in
theorem tw_149 : Cond.fieldLink "ControlledStation$Calendar" 25 "ControlledStation$Calendar" "hour" "I" ∈ eT := eT_of (in_1 _ (List.mem_of_getElem? (i := 78) rfl)) rfl
set_option maxRecDepth 100000 in
theorem tw_150 : Cond.fieldLink "ControlledStation" 227 "ControlledStation$Calendar" "hour" "I" ∈ eT := eT_of (in_1 _ (List.mem_of_getElem? (i := 79) rfl)) rfl
set_option maxRecDepth 100000 in
theorem tw_151 : Cond.fieldLink "ControlledStation$Calendar" 9 "ControlledStation$Calendar" "day" "I" ∈ eT := eT_of (in_1 _ (List.mem_of_getElem? (i := 80) rfl)) rfl
set_option maxRecDepth 100000 in
theorem tw_152 : Cond.fieldLink "ControlledStation" 230 "ControlledStation$Calendar" "day" "I" ∈ eT := eT_of (in_1 _ (List.mem_of_getElem? (i := 81) rfl)) rfl
set_option maxRecDepth 100000 in
theorem tw_153 : Cond.fieldLink "ControlledStation$Calendar" 15 "ControlledStation$Calendar" "month" "I" ∈ eT := eT_of (in_1 _ (List.mem_of_getElem? (i := 82) rfl)) rfl
set_option maxRecDepth 100000 in
theorem tw_154 : Cond.fieldLink "ControlledStation" 233 "ControlledStation$Calendar" "month" "I" ∈ eT := eT_of (in_1 _ (List.mem_of_getElem? (i := 83) rfl)) rfl
set_option maxRecDepth 100000 in
theorem tw_155 : Cond.fieldLink "ControlledStation$Calendar" 28 "ControlledStation$Calendar" "year" "I" ∈ eT := eT_of (in_1 _ (List.mem_of_getElem? (i := 84) rfl)) rfl
set_option maxRecDepth 100000 in
theorem tw_156 : Cond.fieldLink "ControlledStation" 236 "ControlledStation$Calendar" "year" "I" ∈ eT := eT_of (in_1 _ (List.mem_of_getElem? (i := 85) rfl)) rfl
set_option maxRecDepth 100000 in
theorem tw_157 : Cond.fieldLink "ControlledStation$Calendar" 35 "ControlledStation$Calendar" "wasSet" "Z" ∈ eT := eT_of (in_1 _ (List.mem_of_getElem? (i := 86) rfl)) rfl
set_option maxRecDepth 100000 in
theorem tw_158 : Cond.fieldLink "ControlledStation" 239 "ControlledStation$Calendar" "wasSet" "Z" ∈ eT := eT_of (in_1 _ (List.mem_of_getElem? (i := 87) rfl)) rfl
set_option maxRecDepth 100000 in
theorem tw_174 : Cond.classLink "ControlledStation" 40 "ControlledStation$EventQueue" ∈ eT := eT_of (in_1 _ (List.mem_of_getElem? (i := 103) rfl)) rfl
set_option maxRecDepth 100000 in
theorem tw_175 : Cond.instantiable "ControlledStation$EventQueue" 7 ∈ eT := eT_of (in_1 _ (List.mem_of_getElem? (i := 104) rfl)) rfl
set_option maxRecDepth 100000 in
theorem tw_176 : Cond.methodLinkNest "ControlledStation" 42 ⟨"ControlledStation$EventQueue", "<init>", "()V"⟩ "ControlledStation" ∈ eN := eN_of (in_1 _ (List.mem_of_getElem? (i := 105) rfl)) rfl
set_option maxRecDepth 100000 in
theorem tw_177 : Cond.instanceMethod ⟨"ControlledStation$EventQueue", "<init>", "()V"⟩ ∈ eT := eT_of (in_1 _ (List.mem_of_getElem? (i := 106) rfl)) rfl
set_option maxRecDepth 100000 in
theorem tw_178 : Cond.code ⟨"ControlledStation$EventQueue", "<init>", "()V"⟩ prog_5_method_1_code 1 (Option.none : Option FieldType) ∈ eT := eT_of (in_1 _ (List.mem_of_getElem? (i := 107) rfl)) rfl
set_option maxRecDepth 100000 in
theorem tw_179 : Cond.methodLink "ControlledStation$EventQueue" 3 ⟨"java/lang/Object", "<init>", "()V"⟩ ∈ eT := eT_of (in_1 _ (List.mem_of_getElem? (i := 108) rfl)) rfl
set_option maxRecDepth 100000 in
theorem tw_180 : Cond.classLink "ControlledStation$EventQueue" 11 "ControlledStation$Point" ∈ eT := eT_of (in_1 _ (List.mem_of_getElem? (i := 109) rfl)) rfl
set_option maxRecDepth 100000 in
theorem tw_181 : Cond.classLink "ControlledStation$EventQueue" 24 "ControlledStation$Message" ∈ eT := eT_of (in_1 _ (List.mem_of_getElem? (i := 110) rfl)) rfl
set_option maxRecDepth 100000 in
theorem tw_182 : Cond.instantiable "ControlledStation$Message" 2 ∈ eT := eT_of (in_1 _ (List.mem_of_getElem? (i := 111) rfl)) rfl
set_option maxRecDepth 100000 in
theorem tw_183 : Cond.methodLinkNest "ControlledStation$EventQueue" 26 ⟨"ControlledStation$Message", "<init>", "()V"⟩ "ControlledStation" ∈ eN := eN_of (in_1 _ (List.mem_of_getElem? (i := 112) rfl)) rfl
set_option maxRecDepth 100000 in
theorem tw_184 : Cond.instanceMethod ⟨"ControlledStation$Message", "<init>", "()V"⟩ ∈ eT := eT_of (in_1 _ (List.mem_of_getElem? (i := 113) rfl)) rfl
set_option maxRecDepth 100000 in
theorem tw_185 : Cond.code ⟨"ControlledStation$Message", "<init>", "()V"⟩ prog_6_method_1_code 1 (Option.none : Option FieldType) ∈ eT := eT_of (in_1 _ (List.mem_of_getElem? (i := 114) rfl)) rfl
set_option maxRecDepth 100000 in
theorem tw_186 : Cond.methodLink "ControlledStation$Message" 3 ⟨"java/lang/Object", "<init>", "()V"⟩ ∈ eT := eT_of (in_1 _ (List.mem_of_getElem? (i := 115) rfl)) rfl
set_option maxRecDepth 100000 in
theorem tw_187 : Cond.fieldLink "ControlledStation$Message" 9 "ControlledStation$Message" "row" "[B" ∈ eT := eT_of (in_1 _ (List.mem_of_getElem? (i := 116) rfl)) rfl
set_option maxRecDepth 100000 in
theorem tw_188 : Cond.fieldLink "ControlledStation$Message" 15 "ControlledStation$Message" "length" "I" ∈ eT := eT_of (in_1 _ (List.mem_of_getElem? (i := 117) rfl)) rfl
set_option maxRecDepth 100000 in
theorem tw_189 : Cond.fieldLink "ControlledStation" 313 "ControlledStation$Message" "length" "I" ∈ eT := eT_of (in_1 _ (List.mem_of_getElem? (i := 118) rfl)) rfl
set_option maxRecDepth 100000 in
theorem tw_195 : Cond.arrayClass FieldType.long ∈ eT := eT_of (in_1 _ (List.mem_of_getElem? (i := 124) rfl)) rfl
set_option maxRecDepth 100000 in
theorem tw_196 : Cond.arrayClass FieldType.byte ∈ eT := eT_of (in_1 _ (List.mem_of_getElem? (i := 125) rfl)) rfl
set_option maxRecDepth 100000 in
theorem tw_197 : Cond.fieldLink "ControlledStation$EventQueue" 13 "ControlledStation$EventQueue" "changed" "[LControlledStation$Point;" ∈ eT := eT_of (in_1 _ (List.mem_of_getElem? (i := 126) rfl)) rfl
set_option maxRecDepth 100000 in
theorem tw_198 : Cond.fieldLink "ControlledStation$EventQueue" 17 "ControlledStation$EventQueue" "objects" "[J" ∈ eT := eT_of (in_1 _ (List.mem_of_getElem? (i := 127) rfl)) rfl
set_option maxRecDepth 100000 in
theorem tw_199 : Cond.fieldLink "ControlledStation$EventQueue" 21 "ControlledStation$EventQueue" "times" "[J" ∈ eT := eT_of (in_1 _ (List.mem_of_getElem? (i := 128) rfl)) rfl
set_option maxRecDepth 100000 in
theorem tw_200 : Cond.fieldLink "ControlledStation$EventQueue" 27 "ControlledStation$EventQueue" "message" "LControlledStation$Message;" ∈ eT := eT_of (in_1 _ (List.mem_of_getElem? (i := 129) rfl)) rfl
set_option maxRecDepth 100000 in
theorem tw_201 : Cond.fieldLink "ControlledStation$EventQueue" 38 "ControlledStation$EventQueue" "start" "I" ∈ eT := eT_of (in_1 _ (List.mem_of_getElem? (i := 130) rfl)) rfl
set_option maxRecDepth 100000 in
theorem tw_202 : Cond.fieldLink "ControlledStation$EventQueue" 31 "ControlledStation$EventQueue" "size" "I" ∈ eT := eT_of (in_1 _ (List.mem_of_getElem? (i := 131) rfl)) rfl
set_option maxRecDepth 100000 in
theorem tw_203 : Cond.fieldLink "ControlledStation$EventQueue" 35 "ControlledStation$EventQueue" "sentOfThem" "I" ∈ eT := eT_of (in_1 _ (List.mem_of_getElem? (i := 132) rfl)) rfl
set_option maxRecDepth 100000 in
theorem tw_219 : Cond.classLink "ControlledStation" 47 "ControlledStation$AnswerQueue" ∈ eT := eT_of (in_1 _ (List.mem_of_getElem? (i := 148) rfl)) rfl
set_option maxRecDepth 100000 in
theorem tw_220 : Cond.instantiable "ControlledStation$AnswerQueue" 5 ∈ eT := eT_of (in_1 _ (List.mem_of_getElem? (i := 149) rfl)) rfl
set_option maxRecDepth 100000 in
theorem tw_221 : Cond.methodLinkNest "ControlledStation" 49 ⟨"ControlledStation$AnswerQueue", "<init>", "()V"⟩ "ControlledStation" ∈ eN := eN_of (in_1 _ (List.mem_of_getElem? (i := 150) rfl)) rfl
set_option maxRecDepth 100000 in
theorem tw_222 : Cond.instanceMethod ⟨"ControlledStation$AnswerQueue", "<init>", "()V"⟩ ∈ eT := eT_of (in_1 _ (List.mem_of_getElem? (i := 151) rfl)) rfl
set_option maxRecDepth 100000 in
theorem tw_223 : Cond.code ⟨"ControlledStation$AnswerQueue", "<init>", "()V"⟩ prog_2_method_1_code 1 (Option.none : Option FieldType) ∈ eT := eT_of (in_1 _ (List.mem_of_getElem? (i := 152) rfl)) rfl
set_option maxRecDepth 100000 in
theorem tw_224 : Cond.methodLink "ControlledStation$AnswerQueue" 3 ⟨"java/lang/Object", "<init>", "()V"⟩ ∈ eT := eT_of (in_1 _ (List.mem_of_getElem? (i := 153) rfl)) rfl
set_option maxRecDepth 100000 in
theorem tw_225 : Cond.classLink "ControlledStation$AnswerQueue" 9 "ControlledStation$Message" ∈ eT := eT_of (in_1 _ (List.mem_of_getElem? (i := 154) rfl)) rfl
set_option maxRecDepth 100000 in
theorem tw_226 : Cond.arrayOver (FieldType.object "ControlledStation$Message") ∈ lw_tbl := in_1 _ (List.mem_of_getElem? (i := 155) rfl)
set_option maxRecDepth 100000 in
theorem tw_227 : Cond.methodLinkNest "ControlledStation$AnswerQueue" 17 ⟨"ControlledStation$Message", "<init>", "()V"⟩ "ControlledStation" ∈ eN := eN_of (in_1 _ (List.mem_of_getElem? (i := 156) rfl)) rfl
set_option maxRecDepth 100000 in
theorem tw_228 : Cond.fieldLink "ControlledStation$AnswerQueue" 11 "ControlledStation$AnswerQueue" "rows" "[LControlledStation$Message;" ∈ eT := eT_of (in_1 _ (List.mem_of_getElem? (i := 157) rfl)) rfl
set_option maxRecDepth 100000 in
theorem tw_229 : Cond.fieldLink "ControlledStation$AnswerQueue" 18 "ControlledStation$AnswerQueue" "spare" "LControlledStation$Message;" ∈ eT := eT_of (in_1 _ (List.mem_of_getElem? (i := 158) rfl)) rfl
set_option maxRecDepth 100000 in
theorem tw_230 : Cond.fieldLink "ControlledStation$AnswerQueue" 22 "ControlledStation$AnswerQueue" "start" "I" ∈ eT := eT_of (in_1 _ (List.mem_of_getElem? (i := 159) rfl)) rfl
set_option maxRecDepth 100000 in
theorem tw_231 : Cond.fieldLink "ControlledStation$AnswerQueue" 26 "ControlledStation$AnswerQueue" "size" "I" ∈ eT := eT_of (in_1 _ (List.mem_of_getElem? (i := 160) rfl)) rfl
set_option maxRecDepth 100000 in
theorem tw_232 : Cond.fieldLink "ControlledStation" 257 "ControlledStation$AnswerQueue" "size" "I" ∈ eT := eT_of (in_1 _ (List.mem_of_getElem? (i := 161) rfl)) rfl
set_option maxRecDepth 100000 in
theorem tw_233 : Cond.fieldLink "ControlledStation$AnswerQueue" 29 "ControlledStation$AnswerQueue" "overflown" "Z" ∈ eT := eT_of (in_1 _ (List.mem_of_getElem? (i := 162) rfl)) rfl
set_option maxRecDepth 100000 in
theorem tw_234 : Cond.fieldLink "ControlledStation" 398 "ControlledStation$AnswerQueue" "overflown" "Z" ∈ eT := eT_of (in_1 _ (List.mem_of_getElem? (i := 163) rfl)) rfl
set_option maxRecDepth 100000 in
theorem tw_246 : Cond.classLink "ControlledStation" 54 "ControlledStation$Receiver" ∈ eT := eT_of (in_1 _ (List.mem_of_getElem? (i := 175) rfl)) rfl
set_option maxRecDepth 100000 in
theorem tw_247 : Cond.instantiable "ControlledStation$Receiver" 7 ∈ eT := eT_of (in_1 _ (List.mem_of_getElem? (i := 176) rfl)) rfl
set_option maxRecDepth 100000 in
theorem tw_248 : Cond.methodLinkNest "ControlledStation" 56 ⟨"ControlledStation$Receiver", "<init>", "()V"⟩ "ControlledStation" ∈ eN := eN_of (in_1 _ (List.mem_of_getElem? (i := 177) rfl)) rfl
set_option maxRecDepth 100000 in
theorem tw_249 : Cond.instanceMethod ⟨"ControlledStation$Receiver", "<init>", "()V"⟩ ∈ eT := eT_of (in_1 _ (List.mem_of_getElem? (i := 178) rfl)) rfl
set_option maxRecDepth 100000 in
theorem tw_250 : Cond.code ⟨"ControlledStation$Receiver", "<init>", "()V"⟩ prog_10_method_1_code 1 (Option.none : Option FieldType) ∈ eT := eT_of (in_1 _ (List.mem_of_getElem? (i := 179) rfl)) rfl
set_option maxRecDepth 100000 in
theorem tw_251 : Cond.methodLink "ControlledStation$Receiver" 3 ⟨"java/lang/Object", "<init>", "()V"⟩ ∈ eT := eT_of (in_1 _ (List.mem_of_getElem? (i := 180) rfl)) rfl
set_option maxRecDepth 100000 in
theorem tw_252 : Cond.classLink "ControlledStation$Receiver" 9 "ControlledStation$Message" ∈ eT := eT_of (in_1 _ (List.mem_of_getElem? (i := 181) rfl)) rfl
set_option maxRecDepth 100000 in
theorem tw_253 : Cond.methodLinkNest "ControlledStation$Receiver" 11 ⟨"ControlledStation$Message", "<init>", "()V"⟩ "ControlledStation" ∈ eN := eN_of (in_1 _ (List.mem_of_getElem? (i := 182) rfl)) rfl
set_option maxRecDepth 100000 in
theorem tw_254 : Cond.fieldLink "ControlledStation$Receiver" 12 "ControlledStation$Receiver" "rest" "LControlledStation$Message;" ∈ eT := eT_of (in_1 _ (List.mem_of_getElem? (i := 183) rfl)) rfl
set_option maxRecDepth 100000 in
theorem tw_255 : Cond.fieldLink "ControlledStation" 173 "ControlledStation$Receiver" "rest" "LControlledStation$Message;" ∈ eT := eT_of (in_1 _ (List.mem_of_getElem? (i := 184) rfl)) rfl
set_option maxRecDepth 100000 in
theorem tw_256 : Cond.fieldLink "ControlledStation$Receiver" 34 "ControlledStation$Receiver" "control" "I" ∈ eT := eT_of (in_1 _ (List.mem_of_getElem? (i := 185) rfl)) rfl
set_option maxRecDepth 100000 in
theorem tw_257 : Cond.fieldLink "ControlledStation" 336 "ControlledStation$Receiver" "control" "I" ∈ eT := eT_of (in_1 _ (List.mem_of_getElem? (i := 186) rfl)) rfl
set_option maxRecDepth 100000 in
theorem tw_258 : Cond.fieldLink "ControlledStation$Receiver" 18 "ControlledStation$Receiver" "came" "I" ∈ eT := eT_of (in_1 _ (List.mem_of_getElem? (i := 187) rfl)) rfl
set_option maxRecDepth 100000 in
theorem tw_259 : Cond.fieldLink "ControlledStation" 251 "ControlledStation$Receiver" "came" "I" ∈ eT := eT_of (in_1 _ (List.mem_of_getElem? (i := 188) rfl)) rfl
set_option maxRecDepth 100000 in
theorem tw_260 : Cond.fieldLink "ControlledStation$Receiver" 28 "ControlledStation$Receiver" "untold" "I" ∈ eT := eT_of (in_1 _ (List.mem_of_getElem? (i := 189) rfl)) rfl
set_option maxRecDepth 100000 in
theorem tw_261 : Cond.fieldLink "ControlledStation" 254 "ControlledStation$Receiver" "untold" "I" ∈ eT := eT_of (in_1 _ (List.mem_of_getElem? (i := 190) rfl)) rfl
set_option maxRecDepth 100000 in
theorem tw_262 : Cond.fieldLink "ControlledStation$Receiver" 48 "ControlledStation$Receiver" "firstUntoldAt" "I" ∈ eT := eT_of (in_1 _ (List.mem_of_getElem? (i := 191) rfl)) rfl
set_option maxRecDepth 100000 in
theorem tw_263 : Cond.fieldLink "ControlledStation" 293 "ControlledStation$Receiver" "firstUntoldAt" "I" ∈ eT := eT_of (in_1 _ (List.mem_of_getElem? (i := 192) rfl)) rfl
set_option maxRecDepth 100000 in
theorem tw_264 : Cond.fieldLink "ControlledStation$Receiver" 25 "ControlledStation$Receiver" "bytes" "I" ∈ eT := eT_of (in_1 _ (List.mem_of_getElem? (i := 193) rfl)) rfl
set_option maxRecDepth 100000 in
theorem tw_265 : Cond.fieldLink "ControlledStation$Receiver" 31 "ControlledStation$Receiver" "length" "I" ∈ eT := eT_of (in_1 _ (List.mem_of_getElem? (i := 194) rfl)) rfl
set_option maxRecDepth 100000 in
theorem tw_281 : Cond.classLink "ControlledStation" 61 "ControlledStation$SentFrames" ∈ eT := eT_of (in_1 _ (List.mem_of_getElem? (i := 210) rfl)) rfl
set_option maxRecDepth 100000 in
theorem tw_282 : Cond.instantiable "ControlledStation$SentFrames" 5 ∈ eT := eT_of (in_1 _ (List.mem_of_getElem? (i := 211) rfl)) rfl
set_option maxRecDepth 100000 in
theorem tw_283 : Cond.methodLinkNest "ControlledStation" 63 ⟨"ControlledStation$SentFrames", "<init>", "()V"⟩ "ControlledStation" ∈ eN := eN_of (in_1 _ (List.mem_of_getElem? (i := 212) rfl)) rfl
set_option maxRecDepth 100000 in
theorem tw_284 : Cond.instanceMethod ⟨"ControlledStation$SentFrames", "<init>", "()V"⟩ ∈ eT := eT_of (in_1 _ (List.mem_of_getElem? (i := 213) rfl)) rfl
set_option maxRecDepth 100000 in
theorem tw_285 : Cond.code ⟨"ControlledStation$SentFrames", "<init>", "()V"⟩ prog_12_method_1_code 1 (Option.none : Option FieldType) ∈ eT := eT_of (in_1 _ (List.mem_of_getElem? (i := 214) rfl)) rfl
set_option maxRecDepth 100000 in
theorem tw_286 : Cond.methodLink "ControlledStation$SentFrames" 3 ⟨"java/lang/Object", "<init>", "()V"⟩ ∈ eT := eT_of (in_1 _ (List.mem_of_getElem? (i := 215) rfl)) rfl
set_option maxRecDepth 100000 in
theorem tw_287 : Cond.fieldLink "ControlledStation$SentFrames" 9 "ControlledStation$SentFrames" "at" "[I" ∈ eT := eT_of (in_1 _ (List.mem_of_getElem? (i := 216) rfl)) rfl
set_option maxRecDepth 100000 in
theorem tw_288 : Cond.fieldLink "ControlledStation$SentFrames" 15 "ControlledStation$SentFrames" "ofEvent" "[Z" ∈ eT := eT_of (in_1 _ (List.mem_of_getElem? (i := 217) rfl)) rfl
set_option maxRecDepth 100000 in
theorem tw_289 : Cond.fieldLink "ControlledStation$SentFrames" 26 "ControlledStation$SentFrames" "start" "I" ∈ eT := eT_of (in_1 _ (List.mem_of_getElem? (i := 218) rfl)) rfl
set_option maxRecDepth 100000 in
theorem tw_290 : Cond.fieldLink "ControlledStation$SentFrames" 29 "ControlledStation$SentFrames" "unacknowledged" "I" ∈ eT := eT_of (in_1 _ (List.mem_of_getElem? (i := 219) rfl)) rfl
set_option maxRecDepth 100000 in
theorem tw_291 : Cond.fieldLink "ControlledStation" 248 "ControlledStation$SentFrames" "unacknowledged" "I" ∈ eT := eT_of (in_1 _ (List.mem_of_getElem? (i := 220) rfl)) rfl
set_option maxRecDepth 100000 in
theorem tw_292 : Cond.fieldLink "ControlledStation$SentFrames" 19 "ControlledStation$SentFrames" "number" "I" ∈ eT := eT_of (in_1 _ (List.mem_of_getElem? (i := 221) rfl)) rfl
set_option maxRecDepth 100000 in
theorem tw_293 : Cond.fieldLink "ControlledStation" 245 "ControlledStation$SentFrames" "number" "I" ∈ eT := eT_of (in_1 _ (List.mem_of_getElem? (i := 222) rfl)) rfl
set_option maxRecDepth 100000 in
theorem tw_305 : Cond.arrayClass FieldType.boolean ∈ eT := eT_of (in_1 _ (List.mem_of_getElem? (i := 234) rfl)) rfl
set_option maxRecDepth 100000 in
theorem tw_306 : Cond.classLink "ControlledStation" 68 "ControlledStation$OutBytes" ∈ eT := eT_of (in_1 _ (List.mem_of_getElem? (i := 235) rfl)) rfl
set_option maxRecDepth 100000 in
theorem tw_307 : Cond.instantiable "ControlledStation$OutBytes" 3 ∈ eT := eT_of (in_1 _ (List.mem_of_getElem? (i := 236) rfl)) rfl
set_option maxRecDepth 100000 in
theorem tw_308 : Cond.methodLinkNest "ControlledStation" 70 ⟨"ControlledStation$OutBytes", "<init>", "()V"⟩ "ControlledStation" ∈ eN := eN_of (in_1 _ (List.mem_of_getElem? (i := 237) rfl)) rfl
set_option maxRecDepth 100000 in
theorem tw_309 : Cond.instanceMethod ⟨"ControlledStation$OutBytes", "<init>", "()V"⟩ ∈ eT := eT_of (in_1 _ (List.mem_of_getElem? (i := 238) rfl)) rfl
set_option maxRecDepth 100000 in
theorem tw_310 : Cond.code ⟨"ControlledStation$OutBytes", "<init>", "()V"⟩ prog_7_method_1_code 1 (Option.none : Option FieldType) ∈ eT := eT_of (in_1 _ (List.mem_of_getElem? (i := 239) rfl)) rfl
set_option maxRecDepth 100000 in
theorem tw_311 : Cond.methodLink "ControlledStation$OutBytes" 3 ⟨"java/lang/Object", "<init>", "()V"⟩ ∈ eT := eT_of (in_2 _ (List.mem_of_getElem? (i := 0) rfl)) rfl
set_option maxRecDepth 100000 in
theorem tw_312 : Cond.fieldLink "ControlledStation$OutBytes" 9 "ControlledStation$OutBytes" "row" "[B" ∈ eT := eT_of (in_2 _ (List.mem_of_getElem? (i := 1) rfl)) rfl
set_option maxRecDepth 100000 in
theorem tw_313 : Cond.fieldLink "ControlledStation$OutBytes" 15 "ControlledStation$OutBytes" "start" "I" ∈ eT := eT_of (in_2 _ (List.mem_of_getElem? (i := 2) rfl)) rfl
set_option maxRecDepth 100000 in
theorem tw_314 : Cond.fieldLink "ControlledStation$OutBytes" 19 "ControlledStation$OutBytes" "length" "I" ∈ eT := eT_of (in_2 _ (List.mem_of_getElem? (i := 3) rfl)) rfl
set_option maxRecDepth 100000 in
theorem tw_315 : Cond.fieldLink "ControlledStation" 190 "ControlledStation$OutBytes" "length" "I" ∈ eT := eT_of (in_2 _ (List.mem_of_getElem? (i := 4) rfl)) rfl
set_option maxRecDepth 100000 in
theorem tw_323 : Cond.fieldLink "ControlledStation" 7 "ControlledStation" "settings" "[I" ∈ eT := eT_of (in_2 _ (List.mem_of_getElem? (i := 12) rfl)) rfl
set_option maxRecDepth 100000 in
theorem tw_324 : Cond.fieldLink "ControlledStation" 16 "ControlledStation" "points" "LControlledStation$PointTable;" ∈ eT := eT_of (in_2 _ (List.mem_of_getElem? (i := 13) rfl)) rfl
set_option maxRecDepth 100000 in
theorem tw_325 : Cond.fieldLink "ControlledStation" 22 "ControlledStation" "commands" "[LControlledStation$Command;" ∈ eT := eT_of (in_2 _ (List.mem_of_getElem? (i := 14) rfl)) rfl
set_option maxRecDepth 100000 in
theorem tw_326 : Cond.fieldLink "ControlledStation" 111 "ControlledStation" "commandsMade" "I" ∈ eT := eT_of (in_2 _ (List.mem_of_getElem? (i := 15) rfl)) rfl
set_option maxRecDepth 100000 in
theorem tw_327 : Cond.fieldLink "ControlledStation" 29 "ControlledStation" "selection" "LControlledStation$Selection;" ∈ eT := eT_of (in_2 _ (List.mem_of_getElem? (i := 16) rfl)) rfl
set_option maxRecDepth 100000 in
theorem tw_328 : Cond.fieldLink "ControlledStation" 36 "ControlledStation" "calendar" "LControlledStation$Calendar;" ∈ eT := eT_of (in_2 _ (List.mem_of_getElem? (i := 17) rfl)) rfl
set_option maxRecDepth 100000 in
theorem tw_329 : Cond.fieldLink "ControlledStation" 43 "ControlledStation" "events" "LControlledStation$EventQueue;" ∈ eT := eT_of (in_2 _ (List.mem_of_getElem? (i := 18) rfl)) rfl
set_option maxRecDepth 100000 in
theorem tw_330 : Cond.fieldLink "ControlledStation" 50 "ControlledStation" "answers" "LControlledStation$AnswerQueue;" ∈ eT := eT_of (in_2 _ (List.mem_of_getElem? (i := 19) rfl)) rfl
set_option maxRecDepth 100000 in
theorem tw_331 : Cond.fieldLink "ControlledStation" 57 "ControlledStation" "receiver" "LControlledStation$Receiver;" ∈ eT := eT_of (in_2 _ (List.mem_of_getElem? (i := 20) rfl)) rfl
set_option maxRecDepth 100000 in
theorem tw_332 : Cond.fieldLink "ControlledStation" 64 "ControlledStation" "sent" "LControlledStation$SentFrames;" ∈ eT := eT_of (in_2 _ (List.mem_of_getElem? (i := 21) rfl)) rfl
set_option maxRecDepth 100000 in
theorem tw_333 : Cond.fieldLink "ControlledStation" 71 "ControlledStation" "sending" "LControlledStation$OutBytes;" ∈ eT := eT_of (in_2 _ (List.mem_of_getElem? (i := 22) rfl)) rfl
set_option maxRecDepth 100000 in
theorem tw_334 : Cond.fieldLink "ControlledStation" 75 "ControlledStation" "link" "I" ∈ eT := eT_of (in_2 _ (List.mem_of_getElem? (i := 23) rfl)) rfl
set_option maxRecDepth 100000 in
theorem tw_335 : Cond.fieldLink "ControlledStation" 242 "ControlledStation" "reason" "I" ∈ eT := eT_of (in_2 _ (List.mem_of_getElem? (i := 24) rfl)) rfl
set_option maxRecDepth 100000 in
theorem tw_336 : Cond.fieldLink "ControlledStation" 155 "ControlledStation" "now" "I" ∈ eT := eT_of (in_2 _ (List.mem_of_getElem? (i := 25) rfl)) rfl
set_option maxRecDepth 100000 in
theorem tw_337 : Cond.fieldLink "ControlledStation" 158 "ControlledStation" "latestAt" "I" ∈ eT := eT_of (in_2 _ (List.mem_of_getElem? (i := 26) rfl)) rfl
set_option maxRecDepth 100000 in
theorem tw_338 : Cond.fieldLink "ControlledStation" 290 "ControlledStation" "testAt" "I" ∈ eT := eT_of (in_2 _ (List.mem_of_getElem? (i := 27) rfl)) rfl
set_option maxRecDepth 100000 in
theorem tw_339 : Cond.fieldLink "ControlledStation" 258 "ControlledStation" "testWaits" "Z" ∈ eT := eT_of (in_2 _ (List.mem_of_getElem? (i := 28) rfl)) rfl
set_option maxRecDepth 100000 in
theorem tw_340 : Cond.fieldLink "ControlledStation" 261 "ControlledStation" "passedBy" "I" ∈ eT := eT_of (in_2 _ (List.mem_of_getElem? (i := 29) rfl)) rfl
set_option maxRecDepth 100000 in
theorem tw_341 : Cond.fieldLink "ControlledStation" 131 "ControlledStation" "freezes" "I" ∈ eT := eT_of (in_2 _ (List.mem_of_getElem? (i := 30) rfl)) rfl
set_option maxRecDepth 100000 in
theorem tw_381 : Cond.methodLink "ControlledStationLaw" 13 ⟨"ControlledStation", "set", "(II)I"⟩ ∈ eT := eT_of (in_2 _ (List.mem_of_getElem? (i := 70) rfl)) rfl
set_option maxRecDepth 100000 in
theorem tw_382 : Cond.instanceMethod ⟨"ControlledStation", "set", "(II)I"⟩ ∈ eT := eT_of (in_2 _ (List.mem_of_getElem? (i := 71) rfl)) rfl
set_option maxRecDepth 100000 in
theorem tw_383 : Cond.selects "ControlledStation" ⟨"ControlledStation", "set", "(II)I"⟩ ⟨"ControlledStation", "set", "(II)I"⟩ ∈ eT := eT_of (in_2 _ (List.mem_of_getElem? (i := 72) rfl)) rfl
set_option maxRecDepth 100000 in
theorem tw_384 : Cond.code ⟨"ControlledStation", "set", "(II)I"⟩ prog_1_method_2_code 4 (Option.some FieldType.int) ∈ eT := eT_of (in_2 _ (List.mem_of_getElem? (i := 73) rfl)) rfl
set_option maxRecDepth 100000 in
theorem tw_385 : Cond.fieldLink "ControlledStation" 79 "ControlledStation" "LEAST" "[I" ∈ eT := eT_of (in_2 _ (List.mem_of_getElem? (i := 74) rfl)) rfl
set_option maxRecDepth 100000 in
theorem tw_387 : Cond.fieldLink "ControlledStation" 82 "ControlledStation" "MOST" "[I" ∈ eT := eT_of (in_2 _ (List.mem_of_getElem? (i := 76) rfl)) rfl
set_option maxRecDepth 100000 in
theorem tw_389 : Cond.methodLink "ControlledStationLaw" 18 ⟨"ControlledStation", "point", "(IIIZ)I"⟩ ∈ eT := eT_of (in_2 _ (List.mem_of_getElem? (i := 78) rfl)) rfl
set_option maxRecDepth 100000 in
theorem tw_390 : Cond.instanceMethod ⟨"ControlledStation", "point", "(IIIZ)I"⟩ ∈ eT := eT_of (in_2 _ (List.mem_of_getElem? (i := 79) rfl)) rfl
set_option maxRecDepth 100000 in
theorem tw_391 : Cond.selects "ControlledStation" ⟨"ControlledStation", "point", "(IIIZ)I"⟩ ⟨"ControlledStation", "point", "(IIIZ)I"⟩ ∈ eT := eT_of (in_2 _ (List.mem_of_getElem? (i := 80) rfl)) rfl
set_option maxRecDepth 100000 in
theorem tw_392 : Cond.code ⟨"ControlledStation", "point", "(IIIZ)I"⟩ prog_1_method_3_code 5 (Option.some FieldType.int) ∈ eT := eT_of (in_2 _ (List.mem_of_getElem? (i := 81) rfl)) rfl
set_option maxRecDepth 100000 in
theorem tw_393 : Cond.methodLink "ControlledStation" 85 ⟨"ControlledStation", "isFreeAddress", "(I)Z"⟩ ∈ eT := eT_of (in_2 _ (List.mem_of_getElem? (i := 82) rfl)) rfl
set_option maxRecDepth 100000 in
theorem tw_395 : Cond.instanceMethod ⟨"ControlledStation", "isFreeAddress", "(I)Z"⟩ ∈ eT := eT_of (in_2 _ (List.mem_of_getElem? (i := 84) rfl)) rfl
set_option maxRecDepth 100000 in
theorem tw_396 : Cond.code ⟨"ControlledStation", "isFreeAddress", "(I)Z"⟩ prog_1_method_16_code 2 (Option.some FieldType.boolean) ∈ eT := eT_of (in_2 _ (List.mem_of_getElem? (i := 85) rfl)) rfl
set_option maxRecDepth 100000 in
theorem tw_397 : Cond.constant "ControlledStation" 264 (16777215 : Int32) ∈ eT := eT_of (in_2 _ (List.mem_of_getElem? (i := 86) rfl)) rfl
set_option maxRecDepth 100000 in
theorem tw_398 : Cond.methodLink "ControlledStation" 265 ⟨"ControlledStation$PointTable", "withAddress", "(I)LControlledStation$Point;"⟩ ∈ eT := eT_of (in_2 _ (List.mem_of_getElem? (i := 87) rfl)) rfl
set_option maxRecDepth 100000 in
theorem tw_399 : Cond.instanceMethod ⟨"ControlledStation$PointTable", "withAddress", "(I)LControlledStation$Point;"⟩ ∈ eT := eT_of (in_2 _ (List.mem_of_getElem? (i := 88) rfl)) rfl
set_option maxRecDepth 100000 in
theorem tw_400 : Cond.selects "ControlledStation$PointTable" ⟨"ControlledStation$PointTable", "withAddress", "(I)LControlledStation$Point;"⟩ ⟨"ControlledStation$PointTable", "withAddress", "(I)LControlledStation$Point;"⟩ ∈ eT := eT_of (in_2 _ (List.mem_of_getElem? (i := 89) rfl)) rfl
set_option maxRecDepth 100000 in
theorem tw_401 : Cond.code ⟨"ControlledStation$PointTable", "withAddress", "(I)LControlledStation$Point;"⟩ prog_9_method_5_code 4 (Option.some (FieldType.object "ControlledStation$Point")) ∈ eT := eT_of (in_2 _ (List.mem_of_getElem? (i := 90) rfl)) rfl
set_option maxRecDepth 100000 in
theorem tw_402 : Cond.methodLink "ControlledStation" 268 ⟨"ControlledStation", "commandWith", "(I)LControlledStation$Command;"⟩ ∈ eT := eT_of (in_2 _ (List.mem_of_getElem? (i := 91) rfl)) rfl
set_option maxRecDepth 100000 in
theorem tw_404 : Cond.instanceMethod ⟨"ControlledStation", "commandWith", "(I)LControlledStation$Command;"⟩ ∈ eT := eT_of (in_2 _ (List.mem_of_getElem? (i := 93) rfl)) rfl
set_option maxRecDepth 100000 in
theorem tw_405 : Cond.code ⟨"ControlledStation", "commandWith", "(I)LControlledStation$Command;"⟩ prog_1_method_17_code 4 (Option.some (FieldType.object "ControlledStation$Command")) ∈ eT := eT_of (in_2 _ (List.mem_of_getElem? (i := 94) rfl)) rfl
set_option maxRecDepth 100000 in
theorem tw_406 : Cond.classLink "ControlledStation" 92 "ControlledStation$Point" ∈ eT := eT_of (in_2 _ (List.mem_of_getElem? (i := 95) rfl)) rfl
set_option maxRecDepth 100000 in
theorem tw_407 : Cond.instantiable "ControlledStation$Point" 7 ∈ eT := eT_of (in_2 _ (List.mem_of_getElem? (i := 96) rfl)) rfl
set_option maxRecDepth 100000 in
theorem tw_408 : Cond.methodLink "ControlledStation" 94 ⟨"ControlledStation$Point", "<init>", "(IIIZ)V"⟩ ∈ eT := eT_of (in_2 _ (List.mem_of_getElem? (i := 97) rfl)) rfl
set_option maxRecDepth 100000 in
theorem tw_409 : Cond.instanceMethod ⟨"ControlledStation$Point", "<init>", "(IIIZ)V"⟩ ∈ eT := eT_of (in_2 _ (List.mem_of_getElem? (i := 98) rfl)) rfl
set_option maxRecDepth 100000 in
theorem tw_410 : Cond.code ⟨"ControlledStation$Point", "<init>", "(IIIZ)V"⟩ prog_8_method_1_code 5 (Option.none : Option FieldType) ∈ eT := eT_of (in_2 _ (List.mem_of_getElem? (i := 99) rfl)) rfl
set_option maxRecDepth 100000 in
theorem tw_411 : Cond.methodLink "ControlledStation$Point" 3 ⟨"java/lang/Object", "<init>", "()V"⟩ ∈ eT := eT_of (in_2 _ (List.mem_of_getElem? (i := 100) rfl)) rfl
set_option maxRecDepth 100000 in
theorem tw_412 : Cond.fieldLink "ControlledStation$Point" 9 "ControlledStation$Point" "sort" "I" ∈ eT := eT_of (in_2 _ (List.mem_of_getElem? (i := 101) rfl)) rfl
set_option maxRecDepth 100000 in
theorem tw_413 : Cond.fieldLink "ControlledStation" 105 "ControlledStation$Point" "sort" "I" ∈ eT := eT_of (in_2 _ (List.mem_of_getElem? (i := 102) rfl)) rfl
set_option maxRecDepth 100000 in
theorem tw_414 : Cond.fieldLink "ControlledStation$EventQueue" 52 "ControlledStation$Point" "sort" "I" ∈ eT := eT_of (in_2 _ (List.mem_of_getElem? (i := 103) rfl)) rfl
set_option maxRecDepth 100000 in
theorem tw_415 : Cond.fieldLink "ControlledStation$PointTable" 27 "ControlledStation$Point" "sort" "I" ∈ eT := eT_of (in_2 _ (List.mem_of_getElem? (i := 104) rfl)) rfl
set_option maxRecDepth 100000 in
theorem tw_416 : Cond.fieldLink "ControlledStation$Point" 15 "ControlledStation$Point" "address" "I" ∈ eT := eT_of (in_2 _ (List.mem_of_getElem? (i := 105) rfl)) rfl
set_option maxRecDepth 100000 in
theorem tw_417 : Cond.fieldLink "ControlledStation$PointTable" 24 "ControlledStation$Point" "address" "I" ∈ eT := eT_of (in_2 _ (List.mem_of_getElem? (i := 106) rfl)) rfl
set_option maxRecDepth 100000 in
theorem tw_418 : Cond.fieldLink "ControlledStation" 198 "ControlledStation$Point" "address" "I" ∈ eT := eT_of (in_2 _ (List.mem_of_getElem? (i := 107) rfl)) rfl
set_option maxRecDepth 100000 in
theorem tw_419 : Cond.fieldLink "ControlledStation$Point" 18 "ControlledStation$Point" "group" "I" ∈ eT := eT_of (in_2 _ (List.mem_of_getElem? (i := 108) rfl)) rfl
set_option maxRecDepth 100000 in
theorem tw_420 : Cond.fieldLink "ControlledStation" 201 "ControlledStation$Point" "group" "I" ∈ eT := eT_of (in_2 _ (List.mem_of_getElem? (i := 109) rfl)) rfl
set_option maxRecDepth 100000 in
theorem tw_421 : Cond.fieldLink "ControlledStation$Point" 21 "ControlledStation$Point" "timed" "Z" ∈ eT := eT_of (in_2 _ (List.mem_of_getElem? (i := 110) rfl)) rfl
set_option maxRecDepth 100000 in
theorem tw_422 : Cond.fieldLink "ControlledStation$EventQueue" 44 "ControlledStation$Point" "timed" "Z" ∈ eT := eT_of (in_2 _ (List.mem_of_getElem? (i := 111) rfl)) rfl
set_option maxRecDepth 100000 in
theorem tw_423 : Cond.fieldLink "ControlledStation" 204 "ControlledStation$Point" "timed" "Z" ∈ eT := eT_of (in_2 _ (List.mem_of_getElem? (i := 112) rfl)) rfl
set_option maxRecDepth 100000 in
theorem tw_424 : Cond.fieldLink "ControlledStation" 121 "ControlledStation$Point" "value" "I" ∈ eT := eT_of (in_2 _ (List.mem_of_getElem? (i := 113) rfl)) rfl
set_option maxRecDepth 100000 in
theorem tw_425 : Cond.fieldLink "ControlledStation$PointTable" 30 "ControlledStation$Point" "value" "I" ∈ eT := eT_of (in_2 _ (List.mem_of_getElem? (i := 114) rfl)) rfl
set_option maxRecDepth 100000 in
theorem tw_426 : Cond.fieldLink "ControlledStation$Point" 40 "ControlledStation$Point" "quality" "I" ∈ eT := eT_of (in_2 _ (List.mem_of_getElem? (i := 115) rfl)) rfl
set_option maxRecDepth 100000 in
theorem tw_427 : Cond.fieldLink "ControlledStation" 124 "ControlledStation$Point" "quality" "I" ∈ eT := eT_of (in_2 _ (List.mem_of_getElem? (i := 116) rfl)) rfl
set_option maxRecDepth 100000 in
theorem tw_428 : Cond.fieldLink "ControlledStation$PointTable" 33 "ControlledStation$Point" "frozen" "I" ∈ eT := eT_of (in_2 _ (List.mem_of_getElem? (i := 117) rfl)) rfl
set_option maxRecDepth 100000 in
theorem tw_429 : Cond.fieldLink "ControlledStation" 208 "ControlledStation$Point" "frozen" "I" ∈ eT := eT_of (in_2 _ (List.mem_of_getElem? (i := 118) rfl)) rfl
set_option maxRecDepth 100000 in
theorem tw_445 : Cond.methodLink "ControlledStation" 97 ⟨"ControlledStation$PointTable", "add", "(LControlledStation$Point;)V"⟩ ∈ eT := eT_of (in_2 _ (List.mem_of_getElem? (i := 134) rfl)) rfl
set_option maxRecDepth 100000 in
theorem tw_446 : Cond.instanceMethod ⟨"ControlledStation$PointTable", "add", "(LControlledStation$Point;)V"⟩ ∈ eT := eT_of (in_2 _ (List.mem_of_getElem? (i := 135) rfl)) rfl
set_option maxRecDepth 100000 in
theorem tw_447 : Cond.selects "ControlledStation$PointTable" ⟨"ControlledStation$PointTable", "add", "(LControlledStation$Point;)V"⟩ ⟨"ControlledStation$PointTable", "add", "(LControlledStation$Point;)V"⟩ ∈ eT := eT_of (in_2 _ (List.mem_of_getElem? (i := 136) rfl)) rfl
set_option maxRecDepth 100000 in
theorem tw_448 : Cond.code ⟨"ControlledStation$PointTable", "add", "(LControlledStation$Point;)V"⟩ prog_9_method_2_code 4 (Option.none : Option FieldType) ∈ eT := eT_of (in_2 _ (List.mem_of_getElem? (i := 137) rfl)) rfl
set_option maxRecDepth 100000 in
theorem tw_449 : Cond.methodLink "ControlledStationLaw" 23 ⟨"ControlledStation", "command", "(IIIZ)I"⟩ ∈ eT := eT_of (in_2 _ (List.mem_of_getElem? (i := 138) rfl)) rfl
set_option maxRecDepth 100000 in
theorem tw_450 : Cond.instanceMethod ⟨"ControlledStation", "command", "(IIIZ)I"⟩ ∈ eT := eT_of (in_2 _ (List.mem_of_getElem? (i := 139) rfl)) rfl
set_option maxRecDepth 100000 in
theorem tw_451 : Cond.selects "ControlledStation" ⟨"ControlledStation", "command", "(IIIZ)I"⟩ ⟨"ControlledStation", "command", "(IIIZ)I"⟩ ∈ eT := eT_of (in_2 _ (List.mem_of_getElem? (i := 140) rfl)) rfl
set_option maxRecDepth 100000 in
theorem tw_452 : Cond.code ⟨"ControlledStation", "command", "(IIIZ)I"⟩ prog_1_method_4_code 6 (Option.some FieldType.int) ∈ eT := eT_of (in_2 _ (List.mem_of_getElem? (i := 141) rfl)) rfl
set_option maxRecDepth 100000 in
theorem tw_453 : Cond.methodLink "ControlledStation" 101 ⟨"ControlledStation$PointTable", "at", "(I)LControlledStation$Point;"⟩ ∈ eT := eT_of (in_2 _ (List.mem_of_getElem? (i := 142) rfl)) rfl
set_option maxRecDepth 100000 in
theorem tw_454 : Cond.instanceMethod ⟨"ControlledStation$PointTable", "at", "(I)LControlledStation$Point;"⟩ ∈ eT := eT_of (in_2 _ (List.mem_of_getElem? (i := 143) rfl)) rfl
set_option maxRecDepth 100000 in
theorem tw_455 : Cond.selects "ControlledStation$PointTable" ⟨"ControlledStation$PointTable", "at", "(I)LControlledStation$Point;"⟩ ⟨"ControlledStation$PointTable", "at", "(I)LControlledStation$Point;"⟩ ∈ eT := eT_of (in_2 _ (List.mem_of_getElem? (i := 144) rfl)) rfl
set_option maxRecDepth 100000 in
theorem tw_456 : Cond.code ⟨"ControlledStation$PointTable", "at", "(I)LControlledStation$Point;"⟩ prog_9_method_3_code 2 (Option.some (FieldType.object "ControlledStation$Point")) ∈ eT := eT_of (in_2 _ (List.mem_of_getElem? (i := 145) rfl)) rfl
set_option maxRecDepth 100000 in
theorem tw_457 : Cond.fieldLink "ControlledStation" 108 "ControlledStation" "COMMAND_POINTS" "[I" ∈ eT := eT_of (in_2 _ (List.mem_of_getElem? (i := 146) rfl)) rfl
set_option maxRecDepth 100000 in
theorem tw_459 : Cond.instantiable "ControlledStation$Command" 5 ∈ eT := eT_of (in_2 _ (List.mem_of_getElem? (i := 148) rfl)) rfl
set_option maxRecDepth 100000 in
theorem tw_460 : Cond.methodLink "ControlledStation" 114 ⟨"ControlledStation$Command", "<init>", "(IILControlledStation$Point;Z)V"⟩ ∈ eT := eT_of (in_2 _ (List.mem_of_getElem? (i := 149) rfl)) rfl
set_option maxRecDepth 100000 in
theorem tw_461 : Cond.instanceMethod ⟨"ControlledStation$Command", "<init>", "(IILControlledStation$Point;Z)V"⟩ ∈ eT := eT_of (in_2 _ (List.mem_of_getElem? (i := 150) rfl)) rfl
set_option maxRecDepth 100000 in
theorem tw_462 : Cond.code ⟨"ControlledStation$Command", "<init>", "(IILControlledStation$Point;Z)V"⟩ prog_4_method_1_code 5 (Option.none : Option FieldType) ∈ eT := eT_of (in_2 _ (List.mem_of_getElem? (i := 151) rfl)) rfl
set_option maxRecDepth 100000 in
theorem tw_463 : Cond.methodLink "ControlledStation$Command" 1 ⟨"java/lang/Object", "<init>", "()V"⟩ ∈ eT := eT_of (in_2 _ (List.mem_of_getElem? (i := 152) rfl)) rfl
set_option maxRecDepth 100000 in
theorem tw_464 : Cond.fieldLink "ControlledStation$Command" 7 "ControlledStation$Command" "sort" "I" ∈ eT := eT_of (in_2 _ (List.mem_of_getElem? (i := 153) rfl)) rfl
set_option maxRecDepth 100000 in
theorem tw_465 : Cond.fieldLink "ControlledStation" 415 "ControlledStation$Command" "sort" "I" ∈ eT := eT_of (in_2 _ (List.mem_of_getElem? (i := 154) rfl)) rfl
set_option maxRecDepth 100000 in
theorem tw_466 : Cond.fieldLink "ControlledStation$Command" 13 "ControlledStation$Command" "address" "I" ∈ eT := eT_of (in_2 _ (List.mem_of_getElem? (i := 155) rfl)) rfl
set_option maxRecDepth 100000 in
theorem tw_467 : Cond.fieldLink "ControlledStation" 272 "ControlledStation$Command" "address" "I" ∈ eT := eT_of (in_2 _ (List.mem_of_getElem? (i := 156) rfl)) rfl
set_option maxRecDepth 100000 in
theorem tw_468 : Cond.fieldLink "ControlledStation$Command" 16 "ControlledStation$Command" "target" "LControlledStation$Point;" ∈ eT := eT_of (in_2 _ (List.mem_of_getElem? (i := 157) rfl)) rfl
set_option maxRecDepth 100000 in
theorem tw_469 : Cond.fieldLink "ControlledStation" 454 "ControlledStation$Command" "target" "LControlledStation$Point;" ∈ eT := eT_of (in_2 _ (List.mem_of_getElem? (i := 158) rfl)) rfl
set_option maxRecDepth 100000 in
theorem tw_470 : Cond.fieldLink "ControlledStation$Command" 20 "ControlledStation$Command" "mustBeSelected" "Z" ∈ eT := eT_of (in_2 _ (List.mem_of_getElem? (i := 159) rfl)) rfl
set_option maxRecDepth 100000 in
theorem tw_471 : Cond.fieldLink "ControlledStation" 429 "ControlledStation$Command" "mustBeSelected" "Z" ∈ eT := eT_of (in_2 _ (List.mem_of_getElem? (i := 160) rfl)) rfl
set_option maxRecDepth 100000 in
theorem tw_472 : Cond.fieldLink "ControlledStation" 218 "ControlledStation$Command" "carriedOut" "I" ∈ eT := eT_of (in_2 _ (List.mem_of_getElem? (i := 161) rfl)) rfl
set_option maxRecDepth 100000 in
theorem tw_484 : Cond.methodLink "ControlledStationLaw" 27 ⟨"ControlledStation", "change", "(III)I"⟩ ∈ eT := eT_of (in_2 _ (List.mem_of_getElem? (i := 173) rfl)) rfl
set_option maxRecDepth 100000 in
theorem tw_485 : Cond.instanceMethod ⟨"ControlledStation", "change", "(III)I"⟩ ∈ eT := eT_of (in_2 _ (List.mem_of_getElem? (i := 174) rfl)) rfl
set_option maxRecDepth 100000 in
theorem tw_486 : Cond.selects "ControlledStation" ⟨"ControlledStation", "change", "(III)I"⟩ ⟨"ControlledStation", "change", "(III)I"⟩ ∈ eT := eT_of (in_2 _ (List.mem_of_getElem? (i := 175) rfl)) rfl
set_option maxRecDepth 100000 in
theorem tw_487 : Cond.code ⟨"ControlledStation", "change", "(III)I"⟩ prog_1_method_5_code 6 (Option.some FieldType.int) ∈ eT := eT_of (in_2 _ (List.mem_of_getElem? (i := 176) rfl)) rfl
set_option maxRecDepth 100000 in
theorem tw_488 : Cond.methodLink "ControlledStation" 117 ⟨"ControlledStation$Point", "fits", "(II)Z"⟩ ∈ eT := eT_of (in_2 _ (List.mem_of_getElem? (i := 177) rfl)) rfl
set_option maxRecDepth 100000 in
theorem tw_489 : Cond.instanceMethod ⟨"ControlledStation$Point", "fits", "(II)Z"⟩ ∈ eT := eT_of (in_2 _ (List.mem_of_getElem? (i := 178) rfl)) rfl
set_option maxRecDepth 100000 in
theorem tw_490 : Cond.selects "ControlledStation$Point" ⟨"ControlledStation$Point", "fits", "(II)Z"⟩ ⟨"ControlledStation$Point", "fits", "(II)Z"⟩ ∈ eT := eT_of (in_2 _ (List.mem_of_getElem? (i := 179) rfl)) rfl
set_option maxRecDepth 100000 in
theorem tw_491 : Cond.code ⟨"ControlledStation$Point", "fits", "(II)Z"⟩ prog_8_method_2_code 4 (Option.some FieldType.boolean) ∈ eT := eT_of (in_2 _ (List.mem_of_getElem? (i := 180) rfl)) rfl
set_option maxRecDepth 100000 in
theorem tw_492 : Cond.fieldLinkNest "ControlledStation$Point" 25 "ControlledStation" "LEAST_VALUES" "[I" "ControlledStation" ∈ eN := eN_of (in_2 _ (List.mem_of_getElem? (i := 181) rfl)) rfl
set_option maxRecDepth 100000 in
theorem tw_494 : Cond.fieldLinkNest "ControlledStation$Point" 29 "ControlledStation" "MOST_VALUES" "[I" "ControlledStation" ∈ eN := eN_of (in_2 _ (List.mem_of_getElem? (i := 183) rfl)) rfl
set_option maxRecDepth 100000 in
theorem tw_496 : Cond.constant "ControlledStation$Point" 32 (2147483647 : Int32) ∈ eT := eT_of (in_2 _ (List.mem_of_getElem? (i := 185) rfl)) rfl
set_option maxRecDepth 100000 in
theorem tw_497 : Cond.constant "ControlledStation$Point" 33 (2139095040 : Int32) ∈ eT := eT_of (in_2 _ (List.mem_of_getElem? (i := 186) rfl)) rfl
set_option maxRecDepth 100000 in
theorem tw_498 : Cond.fieldLinkNest "ControlledStation$Point" 34 "ControlledStation" "QUALITIES" "[I" "ControlledStation" ∈ eN := eN_of (in_2 _ (List.mem_of_getElem? (i := 187) rfl)) rfl
set_option maxRecDepth 100000 in
theorem tw_500 : Cond.methodLink "ControlledStation" 127 ⟨"ControlledStation$EventQueue", "waiting", "()I"⟩ ∈ eT := eT_of (in_2 _ (List.mem_of_getElem? (i := 189) rfl)) rfl
set_option maxRecDepth 100000 in
theorem tw_501 : Cond.instanceMethod ⟨"ControlledStation$EventQueue", "waiting", "()I"⟩ ∈ eT := eT_of (in_2 _ (List.mem_of_getElem? (i := 190) rfl)) rfl
set_option maxRecDepth 100000 in
theorem tw_502 : Cond.selects "ControlledStation$EventQueue" ⟨"ControlledStation$EventQueue", "waiting", "()I"⟩ ⟨"ControlledStation$EventQueue", "waiting", "()I"⟩ ∈ eT := eT_of (in_2 _ (List.mem_of_getElem? (i := 191) rfl)) rfl
set_option maxRecDepth 100000 in
theorem tw_503 : Cond.code ⟨"ControlledStation$EventQueue", "waiting", "()I"⟩ prog_5_method_2_code 1 (Option.some FieldType.int) ∈ eT := eT_of (in_2 _ (List.mem_of_getElem? (i := 192) rfl)) rfl
set_option maxRecDepth 100000 in
theorem tw_504 : Cond.methodLink "ControlledStation" 134 ⟨"ControlledStation$Point", "object", "(II)J"⟩ ∈ eT := eT_of (in_2 _ (List.mem_of_getElem? (i := 193) rfl)) rfl
set_option maxRecDepth 100000 in
theorem tw_505 : Cond.instanceMethod ⟨"ControlledStation$Point", "object", "(II)J"⟩ ∈ eT := eT_of (in_2 _ (List.mem_of_getElem? (i := 194) rfl)) rfl
set_option maxRecDepth 100000 in
theorem tw_506 : Cond.selects "ControlledStation$Point" ⟨"ControlledStation$Point", "object", "(II)J"⟩ ⟨"ControlledStation$Point", "object", "(II)J"⟩ ∈ eT := eT_of (in_2 _ (List.mem_of_getElem? (i := 195) rfl)) rfl
set_option maxRecDepth 100000 in
theorem tw_507 : Cond.code ⟨"ControlledStation$Point", "object", "(II)J"⟩ prog_8_method_5_code 6 (Option.some FieldType.long) ∈ eT := eT_of (in_2 _ (List.mem_of_getElem? (i := 196) rfl)) rfl
set_option maxRecDepth 100000 in
theorem tw_508 : Cond.fieldLinkNest "ControlledStation$Point" 43 "ControlledStation" "VALUE_MASKS" "[J" "ControlledStation" ∈ eN := eN_of (in_2 _ (List.mem_of_getElem? (i := 197) rfl)) rfl
set_option maxRecDepth 100000 in
theorem tw_510 : Cond.fieldLinkNest "ControlledStation$Point" 37 "ControlledStation" "VALUE_BYTES" "[I" "ControlledStation" ∈ eN := eN_of (in_2 _ (List.mem_of_getElem? (i := 199) rfl)) rfl
set_option maxRecDepth 100000 in
theorem tw_512 : Cond.methodLink "ControlledStation" 138 ⟨"ControlledStation$Calendar", "time", "()J"⟩ ∈ eT := eT_of (in_2 _ (List.mem_of_getElem? (i := 201) rfl)) rfl
set_option maxRecDepth 100000 in
theorem tw_513 : Cond.instanceMethod ⟨"ControlledStation$Calendar", "time", "()J"⟩ ∈ eT := eT_of (in_2 _ (List.mem_of_getElem? (i := 202) rfl)) rfl
set_option maxRecDepth 100000 in
theorem tw_514 : Cond.selects "ControlledStation$Calendar" ⟨"ControlledStation$Calendar", "time", "()J"⟩ ⟨"ControlledStation$Calendar", "time", "()J"⟩ ∈ eT := eT_of (in_2 _ (List.mem_of_getElem? (i := 203) rfl)) rfl
set_option maxRecDepth 100000 in
theorem tw_515 : Cond.code ⟨"ControlledStation$Calendar", "time", "()J"⟩ prog_3_method_3_code 4 (Option.some FieldType.long) ∈ eT := eT_of (in_2 _ (List.mem_of_getElem? (i := 204) rfl)) rfl
set_option maxRecDepth 100000 in
theorem tw_516 : Cond.methodLink "ControlledStation" 142 ⟨"ControlledStation$EventQueue", "add", "(LControlledStation$Point;JJ)V"⟩ ∈ eT := eT_of (in_2 _ (List.mem_of_getElem? (i := 205) rfl)) rfl
set_option maxRecDepth 100000 in
theorem tw_517 : Cond.instanceMethod ⟨"ControlledStation$EventQueue", "add", "(LControlledStation$Point;JJ)V"⟩ ∈ eT := eT_of (in_2 _ (List.mem_of_getElem? (i := 206) rfl)) rfl
set_option maxRecDepth 100000 in
theorem tw_518 : Cond.selects "ControlledStation$EventQueue" ⟨"ControlledStation$EventQueue", "add", "(LControlledStation$Point;JJ)V"⟩ ⟨"ControlledStation$EventQueue", "add", "(LControlledStation$Point;JJ)V"⟩ ∈ eT := eT_of (in_2 _ (List.mem_of_getElem? (i := 207) rfl)) rfl
set_option maxRecDepth 100000 in
theorem tw_519 : Cond.code ⟨"ControlledStation$EventQueue", "add", "(LControlledStation$Point;JJ)V"⟩ prog_5_method_3_code 7 (Option.none : Option FieldType) ∈ eT := eT_of (in_2 _ (List.mem_of_getElem? (i := 208) rfl)) rfl
set_option maxRecDepth 100000 in
theorem tw_520 : Cond.methodLink "ControlledStation" 145 ⟨"ControlledStation", "sendWaiting", "()V"⟩ ∈ eT := eT_of (in_2 _ (List.mem_of_getElem? (i := 209) rfl)) rfl
set_option maxRecDepth 100000 in
theorem tw_522 : Cond.instanceMethod ⟨"ControlledStation", "sendWaiting", "()V"⟩ ∈ eT := eT_of (in_2 _ (List.mem_of_getElem? (i := 211) rfl)) rfl
set_option maxRecDepth 100000 in
theorem tw_523 : Cond.code ⟨"ControlledStation", "sendWaiting", "()V"⟩ prog_1_method_25_code 2 (Option.none : Option FieldType) ∈ eT := eT_of (in_2 _ (List.mem_of_getElem? (i := 212) rfl)) rfl
set_option maxRecDepth 100000 in
theorem tw_524 : Cond.methodLink "ControlledStation" 319 ⟨"ControlledStation$AnswerQueue", "first", "()LControlledStation$Message;"⟩ ∈ eT := eT_of (in_2 _ (List.mem_of_getElem? (i := 213) rfl)) rfl
set_option maxRecDepth 100000 in
theorem tw_525 : Cond.instanceMethod ⟨"ControlledStation$AnswerQueue", "first", "()LControlledStation$Message;"⟩ ∈ eT := eT_of (in_2 _ (List.mem_of_getElem? (i := 214) rfl)) rfl
set_option maxRecDepth 100000 in
theorem tw_526 : Cond.selects "ControlledStation$AnswerQueue" ⟨"ControlledStation$AnswerQueue", "first", "()LControlledStation$Message;"⟩ ⟨"ControlledStation$AnswerQueue", "first", "()LControlledStation$Message;"⟩ ∈ eT := eT_of (in_2 _ (List.mem_of_getElem? (i := 215) rfl)) rfl
set_option maxRecDepth 100000 in
theorem tw_527 : Cond.code ⟨"ControlledStation$AnswerQueue", "first", "()LControlledStation$Message;"⟩ prog_2_method_4_code 1 (Option.some (FieldType.object "ControlledStation$Message")) ∈ eT := eT_of (in_2 _ (List.mem_of_getElem? (i := 216) rfl)) rfl
set_option maxRecDepth 100000 in
theorem tw_528 : Cond.methodLink "ControlledStation" 323 ⟨"ControlledStation", "sendData", "(LControlledStation$Message;Z)Z"⟩ ∈ eT := eT_of (in_2 _ (List.mem_of_getElem? (i := 217) rfl)) rfl
set_option maxRecDepth 100000 in
theorem tw_530 : Cond.instanceMethod ⟨"ControlledStation", "sendData", "(LControlledStation$Message;Z)Z"⟩ ∈ eT := eT_of (in_2 _ (List.mem_of_getElem? (i := 219) rfl)) rfl
set_option maxRecDepth 100000 in
theorem tw_531 : Cond.code ⟨"ControlledStation", "sendData", "(LControlledStation$Message;Z)Z"⟩ prog_1_method_23_code 4 (Option.some FieldType.boolean) ∈ eT := eT_of (in_2 _ (List.mem_of_getElem? (i := 220) rfl)) rfl
set_option maxRecDepth 100000 in
theorem tw_532 : Cond.methodLink "ControlledStation" 307 ⟨"ControlledStation$Receiver", "ackToTell", "()I"⟩ ∈ eT := eT_of (in_2 _ (List.mem_of_getElem? (i := 221) rfl)) rfl
set_option maxRecDepth 100000 in
theorem tw_533 : Cond.instanceMethod ⟨"ControlledStation$Receiver", "ackToTell", "()I"⟩ ∈ eT := eT_of (in_2 _ (List.mem_of_getElem? (i := 222) rfl)) rfl
set_option maxRecDepth 100000 in
theorem tw_534 : Cond.selects "ControlledStation$Receiver" ⟨"ControlledStation$Receiver", "ackToTell", "()I"⟩ ⟨"ControlledStation$Receiver", "ackToTell", "()I"⟩ ∈ eT := eT_of (in_2 _ (List.mem_of_getElem? (i := 223) rfl)) rfl
set_option maxRecDepth 100000 in
theorem tw_535 : Cond.code ⟨"ControlledStation$Receiver", "ackToTell", "()I"⟩ prog_10_method_8_code 1 (Option.some FieldType.int) ∈ eT := eT_of (in_2 _ (List.mem_of_getElem? (i := 224) rfl)) rfl
set_option maxRecDepth 100000 in
theorem tw_536 : Cond.methodLink "ControlledStation" 303 ⟨"ControlledStation", "sendFrame", "(ILControlledStation$Message;)Z"⟩ ∈ eT := eT_of (in_2 _ (List.mem_of_getElem? (i := 225) rfl)) rfl
set_option maxRecDepth 100000 in
theorem tw_538 : Cond.instanceMethod ⟨"ControlledStation", "sendFrame", "(ILControlledStation$Message;)Z"⟩ ∈ eT := eT_of (in_2 _ (List.mem_of_getElem? (i := 227) rfl)) rfl
set_option maxRecDepth 100000 in
theorem tw_539 : Cond.code ⟨"ControlledStation", "sendFrame", "(ILControlledStation$Message;)Z"⟩ prog_1_method_24_code 5 (Option.some FieldType.boolean) ∈ eT := eT_of (in_2 _ (List.mem_of_getElem? (i := 228) rfl)) rfl
set_option maxRecDepth 100000 in
theorem tw_540 : Cond.methodLink "ControlledStation" 161 ⟨"ControlledStation", "shut", "(I)V"⟩ ∈ eT := eT_of (in_2 _ (List.mem_of_getElem? (i := 229) rfl)) rfl
set_option maxRecDepth 100000 in
theorem tw_542 : Cond.instanceMethod ⟨"ControlledStation", "shut", "(I)V"⟩ ∈ eT := eT_of (in_2 _ (List.mem_of_getElem? (i := 231) rfl)) rfl
set_option maxRecDepth 100000 in
theorem tw_543 : Cond.code ⟨"ControlledStation", "shut", "(I)V"⟩ prog_1_method_18_code 2 (Option.none : Option FieldType) ∈ eT := eT_of (in_2 _ (List.mem_of_getElem? (i := 232) rfl)) rfl
set_option maxRecDepth 100000 in
theorem tw_544 : Cond.methodLink "ControlledStation" 273 ⟨"ControlledStation$AnswerQueue", "clear", "()V"⟩ ∈ eT := eT_of (in_2 _ (List.mem_of_getElem? (i := 233) rfl)) rfl
set_option maxRecDepth 100000 in
theorem tw_545 : Cond.instanceMethod ⟨"ControlledStation$AnswerQueue", "clear", "()V"⟩ ∈ eT := eT_of (in_2 _ (List.mem_of_getElem? (i := 234) rfl)) rfl
set_option maxRecDepth 100000 in
theorem tw_546 : Cond.selects "ControlledStation$AnswerQueue" ⟨"ControlledStation$AnswerQueue", "clear", "()V"⟩ ⟨"ControlledStation$AnswerQueue", "clear", "()V"⟩ ∈ eT := eT_of (in_2 _ (List.mem_of_getElem? (i := 235) rfl)) rfl
set_option maxRecDepth 100000 in
theorem tw_547 : Cond.code ⟨"ControlledStation$AnswerQueue", "clear", "()V"⟩ prog_2_method_2_code 1 (Option.none : Option FieldType) ∈ eT := eT_of (in_2 _ (List.mem_of_getElem? (i := 236) rfl)) rfl
set_option maxRecDepth 100000 in
theorem tw_548 : Cond.methodLink "ControlledStation" 274 ⟨"ControlledStation$Selection", "end", "()V"⟩ ∈ eT := eT_of (in_2 _ (List.mem_of_getElem? (i := 237) rfl)) rfl
set_option maxRecDepth 100000 in
theorem tw_549 : Cond.instanceMethod ⟨"ControlledStation$Selection", "end", "()V"⟩ ∈ eT := eT_of (in_2 _ (List.mem_of_getElem? (i := 238) rfl)) rfl
set_option maxRecDepth 100000 in
theorem tw_550 : Cond.selects "ControlledStation$Selection" ⟨"ControlledStation$Selection", "end", "()V"⟩ ⟨"ControlledStation$Selection", "end", "()V"⟩ ∈ eT := eT_of (in_2 _ (List.mem_of_getElem? (i := 239) rfl)) rfl
set_option maxRecDepth 100000 in
theorem tw_551 : Cond.code ⟨"ControlledStation$Selection", "end", "()V"⟩ prog_11_method_3_code 1 (Option.none : Option FieldType) ∈ eT := eT_of (in_3 _ (List.mem_of_getElem? (i := 0) rfl)) rfl
set_option maxRecDepth 100000 in
theorem tw_552 : Cond.methodLink "ControlledStation" 277 ⟨"ControlledStation$EventQueue", "waitAgain", "()V"⟩ ∈ eT := eT_of (in_3 _ (List.mem_of_getElem? (i := 1) rfl)) rfl
set_option maxRecDepth 100000 in
theorem tw_553 : Cond.instanceMethod ⟨"ControlledStation$EventQueue", "waitAgain", "()V"⟩ ∈ eT := eT_of (in_3 _ (List.mem_of_getElem? (i := 2) rfl)) rfl
set_option maxRecDepth 100000 in
theorem tw_554 : Cond.selects "ControlledStation$EventQueue" ⟨"ControlledStation$EventQueue", "waitAgain", "()V"⟩ ⟨"ControlledStation$EventQueue", "waitAgain", "()V"⟩ ∈ eT := eT_of (in_3 _ (List.mem_of_getElem? (i := 3) rfl)) rfl
set_option maxRecDepth 100000 in
theorem tw_555 : Cond.code ⟨"ControlledStation$EventQueue", "waitAgain", "()V"⟩ prog_5_method_7_code 1 (Option.none : Option FieldType) ∈ eT := eT_of (in_3 _ (List.mem_of_getElem? (i := 4) rfl)) rfl
set_option maxRecDepth 100000 in
theorem tw_556 : Cond.methodLink "ControlledStation" 280 ⟨"ControlledStation$SentFrames", "forget", "()V"⟩ ∈ eT := eT_of (in_3 _ (List.mem_of_getElem? (i := 5) rfl)) rfl
set_option maxRecDepth 100000 in
theorem tw_557 : Cond.instanceMethod ⟨"ControlledStation$SentFrames", "forget", "()V"⟩ ∈ eT := eT_of (in_3 _ (List.mem_of_getElem? (i := 6) rfl)) rfl
set_option maxRecDepth 100000 in
theorem tw_558 : Cond.selects "ControlledStation$SentFrames" ⟨"ControlledStation$SentFrames", "forget", "()V"⟩ ⟨"ControlledStation$SentFrames", "forget", "()V"⟩ ∈ eT := eT_of (in_3 _ (List.mem_of_getElem? (i := 7) rfl)) rfl
set_option maxRecDepth 100000 in
theorem tw_559 : Cond.code ⟨"ControlledStation$SentFrames", "forget", "()V"⟩ prog_12_method_3_code 1 (Option.none : Option FieldType) ∈ eT := eT_of (in_3 _ (List.mem_of_getElem? (i := 8) rfl)) rfl
set_option maxRecDepth 100000 in
theorem tw_560 : Cond.methodLink "ControlledStation" 283 ⟨"ControlledStation$Receiver", "forget", "()V"⟩ ∈ eT := eT_of (in_3 _ (List.mem_of_getElem? (i := 9) rfl)) rfl
set_option maxRecDepth 100000 in
theorem tw_561 : Cond.instanceMethod ⟨"ControlledStation$Receiver", "forget", "()V"⟩ ∈ eT := eT_of (in_3 _ (List.mem_of_getElem? (i := 10) rfl)) rfl
set_option maxRecDepth 100000 in
theorem tw_562 : Cond.selects "ControlledStation$Receiver" ⟨"ControlledStation$Receiver", "forget", "()V"⟩ ⟨"ControlledStation$Receiver", "forget", "()V"⟩ ∈ eT := eT_of (in_3 _ (List.mem_of_getElem? (i := 11) rfl)) rfl
set_option maxRecDepth 100000 in
theorem tw_563 : Cond.code ⟨"ControlledStation$Receiver", "forget", "()V"⟩ prog_10_method_3_code 1 (Option.none : Option FieldType) ∈ eT := eT_of (in_3 _ (List.mem_of_getElem? (i := 12) rfl)) rfl
set_option maxRecDepth 100000 in
theorem tw_564 : Cond.methodLink "ControlledStation" 316 ⟨"ControlledStation$OutBytes", "add", "(I)V"⟩ ∈ eT := eT_of (in_3 _ (List.mem_of_getElem? (i := 13) rfl)) rfl
set_option maxRecDepth 100000 in
theorem tw_565 : Cond.instanceMethod ⟨"ControlledStation$OutBytes", "add", "(I)V"⟩ ∈ eT := eT_of (in_3 _ (List.mem_of_getElem? (i := 14) rfl)) rfl
set_option maxRecDepth 100000 in
theorem tw_566 : Cond.selects "ControlledStation$OutBytes" ⟨"ControlledStation$OutBytes", "add", "(I)V"⟩ ⟨"ControlledStation$OutBytes", "add", "(I)V"⟩ ∈ eT := eT_of (in_3 _ (List.mem_of_getElem? (i := 15) rfl)) rfl
set_option maxRecDepth 100000 in
theorem tw_567 : Cond.code ⟨"ControlledStation$OutBytes", "add", "(I)V"⟩ prog_7_method_3_code 2 (Option.none : Option FieldType) ∈ eT := eT_of (in_3 _ (List.mem_of_getElem? (i := 16) rfl)) rfl
set_option maxRecDepth 100000 in
theorem tw_568 : Cond.methodLink "ControlledStation" 318 ⟨"ControlledStation$Message", "at", "(I)I"⟩ ∈ eT := eT_of (in_3 _ (List.mem_of_getElem? (i := 17) rfl)) rfl
set_option maxRecDepth 100000 in
theorem tw_569 : Cond.instanceMethod ⟨"ControlledStation$Message", "at", "(I)I"⟩ ∈ eT := eT_of (in_3 _ (List.mem_of_getElem? (i := 18) rfl)) rfl
set_option maxRecDepth 100000 in
theorem tw_570 : Cond.selects "ControlledStation$Message" ⟨"ControlledStation$Message", "at", "(I)I"⟩ ⟨"ControlledStation$Message", "at", "(I)I"⟩ ∈ eT := eT_of (in_3 _ (List.mem_of_getElem? (i := 19) rfl)) rfl
set_option maxRecDepth 100000 in
theorem tw_571 : Cond.code ⟨"ControlledStation$Message", "at", "(I)I"⟩ prog_6_method_6_code 2 (Option.some FieldType.int) ∈ eT := eT_of (in_3 _ (List.mem_of_getElem? (i := 20) rfl)) rfl
set_option maxRecDepth 100000 in
theorem tw_572 : Cond.methodLink "ControlledStation" 310 ⟨"ControlledStation$SentFrames", "add", "(IZ)V"⟩ ∈ eT := eT_of (in_3 _ (List.mem_of_getElem? (i := 21) rfl)) rfl
set_option maxRecDepth 100000 in
theorem tw_573 : Cond.instanceMethod ⟨"ControlledStation$SentFrames", "add", "(IZ)V"⟩ ∈ eT := eT_of (in_3 _ (List.mem_of_getElem? (i := 22) rfl)) rfl
set_option maxRecDepth 100000 in
theorem tw_574 : Cond.selects "ControlledStation$SentFrames" ⟨"ControlledStation$SentFrames", "add", "(IZ)V"⟩ ⟨"ControlledStation$SentFrames", "add", "(IZ)V"⟩ ∈ eT := eT_of (in_3 _ (List.mem_of_getElem? (i := 23) rfl)) rfl
set_option maxRecDepth 100000 in
theorem tw_575 : Cond.code ⟨"ControlledStation$SentFrames", "add", "(IZ)V"⟩ prog_12_method_4_code 4 (Option.none : Option FieldType) ∈ eT := eT_of (in_3 _ (List.mem_of_getElem? (i := 24) rfl)) rfl
set_option maxRecDepth 100000 in
theorem tw_576 : Cond.methodLink "ControlledStation" 327 ⟨"ControlledStation$AnswerQueue", "dropFirst", "()V"⟩ ∈ eT := eT_of (in_3 _ (List.mem_of_getElem? (i := 25) rfl)) rfl
set_option maxRecDepth 100000 in
theorem tw_577 : Cond.instanceMethod ⟨"ControlledStation$AnswerQueue", "dropFirst", "()V"⟩ ∈ eT := eT_of (in_3 _ (List.mem_of_getElem? (i := 26) rfl)) rfl
set_option maxRecDepth 100000 in
theorem tw_578 : Cond.selects "ControlledStation$AnswerQueue" ⟨"ControlledStation$AnswerQueue", "dropFirst", "()V"⟩ ⟨"ControlledStation$AnswerQueue", "dropFirst", "()V"⟩ ∈ eT := eT_of (in_3 _ (List.mem_of_getElem? (i := 27) rfl)) rfl
set_option maxRecDepth 100000 in
theorem tw_579 : Cond.code ⟨"ControlledStation$AnswerQueue", "dropFirst", "()V"⟩ prog_2_method_5_code 1 (Option.none : Option FieldType) ∈ eT := eT_of (in_3 _ (List.mem_of_getElem? (i := 28) rfl)) rfl
set_option maxRecDepth 100000 in
theorem tw_580 : Cond.methodLink "ControlledStation" 329 ⟨"ControlledStation$EventQueue", "next", "(I)LControlledStation$Message;"⟩ ∈ eT := eT_of (in_3 _ (List.mem_of_getElem? (i := 29) rfl)) rfl
set_option maxRecDepth 100000 in
theorem tw_581 : Cond.instanceMethod ⟨"ControlledStation$EventQueue", "next", "(I)LControlledStation$Message;"⟩ ∈ eT := eT_of (in_3 _ (List.mem_of_getElem? (i := 30) rfl)) rfl
set_option maxRecDepth 100000 in
theorem tw_582 : Cond.selects "ControlledStation$EventQueue" ⟨"ControlledStation$EventQueue", "next", "(I)LControlledStation$Message;"⟩ ⟨"ControlledStation$EventQueue", "next", "(I)LControlledStation$Message;"⟩ ∈ eT := eT_of (in_3 _ (List.mem_of_getElem? (i := 31) rfl)) rfl
set_option maxRecDepth 100000 in
theorem tw_583 : Cond.code ⟨"ControlledStation$EventQueue", "next", "(I)LControlledStation$Message;"⟩ prog_5_method_4_code 5 (Option.some (FieldType.object "ControlledStation$Message")) ∈ eT := eT_of (in_3 _ (List.mem_of_getElem? (i := 32) rfl)) rfl
set_option maxRecDepth 100000 in
theorem tw_584 : Cond.methodLink "ControlledStation$EventQueue" 41 ⟨"ControlledStation$Message", "clear", "()V"⟩ ∈ eT := eT_of (in_3 _ (List.mem_of_getElem? (i := 33) rfl)) rfl
set_option maxRecDepth 100000 in
theorem tw_585 : Cond.instanceMethod ⟨"ControlledStation$Message", "clear", "()V"⟩ ∈ eT := eT_of (in_3 _ (List.mem_of_getElem? (i := 34) rfl)) rfl
set_option maxRecDepth 100000 in
theorem tw_586 : Cond.selects "ControlledStation$Message" ⟨"ControlledStation$Message", "clear", "()V"⟩ ⟨"ControlledStation$Message", "clear", "()V"⟩ ∈ eT := eT_of (in_3 _ (List.mem_of_getElem? (i := 35) rfl)) rfl
set_option maxRecDepth 100000 in
theorem tw_587 : Cond.code ⟨"ControlledStation$Message", "clear", "()V"⟩ prog_6_method_2_code 1 (Option.none : Option FieldType) ∈ eT := eT_of (in_3 _ (List.mem_of_getElem? (i := 36) rfl)) rfl
set_option maxRecDepth 100000 in
theorem tw_588 : Cond.fieldLinkNest "ControlledStation$EventQueue" 48 "ControlledStation" "TIMED_TYPES" "[I" "ControlledStation" ∈ eN := eN_of (in_3 _ (List.mem_of_getElem? (i := 37) rfl)) rfl
set_option maxRecDepth 100000 in
theorem tw_590 : Cond.fieldLinkNest "ControlledStation$EventQueue" 55 "ControlledStation" "TYPES" "[I" "ControlledStation" ∈ eN := eN_of (in_3 _ (List.mem_of_getElem? (i := 39) rfl)) rfl
set_option maxRecDepth 100000 in
theorem tw_592 : Cond.methodLinkNest "ControlledStation$EventQueue" 58 ⟨"ControlledStation", "objectHead", "(IIII)J"⟩ "ControlledStation" ∈ eN := eN_of (in_3 _ (List.mem_of_getElem? (i := 41) rfl)) rfl
set_option maxRecDepth 100000 in
theorem tw_593 : Cond.static ⟨"ControlledStation", "objectHead", "(IIII)J"⟩ ∈ eT := eT_of (in_3 _ (List.mem_of_getElem? (i := 42) rfl)) rfl
set_option maxRecDepth 100000 in
theorem tw_594 : Cond.code ⟨"ControlledStation", "objectHead", "(IIII)J"⟩ prog_1_method_48_code 4 (Option.some FieldType.long) ∈ eT := eT_of (in_3 _ (List.mem_of_getElem? (i := 43) rfl)) rfl
set_option maxRecDepth 100000 in
theorem tw_595 : Cond.methodLink "ControlledStation$EventQueue" 62 ⟨"ControlledStation$Message", "add", "(JI)V"⟩ ∈ eT := eT_of (in_3 _ (List.mem_of_getElem? (i := 44) rfl)) rfl
set_option maxRecDepth 100000 in
theorem tw_596 : Cond.instanceMethod ⟨"ControlledStation$Message", "add", "(JI)V"⟩ ∈ eT := eT_of (in_3 _ (List.mem_of_getElem? (i := 45) rfl)) rfl
set_option maxRecDepth 100000 in
theorem tw_597 : Cond.selects "ControlledStation$Message" ⟨"ControlledStation$Message", "add", "(JI)V"⟩ ⟨"ControlledStation$Message", "add", "(JI)V"⟩ ∈ eT := eT_of (in_3 _ (List.mem_of_getElem? (i := 46) rfl)) rfl
set_option maxRecDepth 100000 in
theorem tw_598 : Cond.code ⟨"ControlledStation$Message", "add", "(JI)V"⟩ prog_6_method_3_code 5 (Option.none : Option FieldType) ∈ eT := eT_of (in_3 _ (List.mem_of_getElem? (i := 47) rfl)) rfl
set_option maxRecDepth 100000 in
theorem tw_599 : Cond.methodLink "ControlledStation$EventQueue" 66 ⟨"ControlledStation$Point", "objectBytes", "()I"⟩ ∈ eT := eT_of (in_3 _ (List.mem_of_getElem? (i := 48) rfl)) rfl
set_option maxRecDepth 100000 in
theorem tw_600 : Cond.instanceMethod ⟨"ControlledStation$Point", "objectBytes", "()I"⟩ ∈ eT := eT_of (in_3 _ (List.mem_of_getElem? (i := 49) rfl)) rfl
set_option maxRecDepth 100000 in
theorem tw_601 : Cond.selects "ControlledStation$Point" ⟨"ControlledStation$Point", "objectBytes", "()I"⟩ ⟨"ControlledStation$Point", "objectBytes", "()I"⟩ ∈ eT := eT_of (in_3 _ (List.mem_of_getElem? (i := 50) rfl)) rfl
set_option maxRecDepth 100000 in
theorem tw_602 : Cond.code ⟨"ControlledStation$Point", "objectBytes", "()I"⟩ prog_8_method_4_code 1 (Option.some FieldType.int) ∈ eT := eT_of (in_3 _ (List.mem_of_getElem? (i := 51) rfl)) rfl
set_option maxRecDepth 100000 in
theorem tw_603 : Cond.methodLink "ControlledStation" 333 ⟨"ControlledStation$EventQueue", "nextWasSent", "()V"⟩ ∈ eT := eT_of (in_3 _ (List.mem_of_getElem? (i := 52) rfl)) rfl
set_option maxRecDepth 100000 in
theorem tw_604 : Cond.instanceMethod ⟨"ControlledStation$EventQueue", "nextWasSent", "()V"⟩ ∈ eT := eT_of (in_3 _ (List.mem_of_getElem? (i := 53) rfl)) rfl
set_option maxRecDepth 100000 in
theorem tw_605 : Cond.selects "ControlledStation$EventQueue" ⟨"ControlledStation$EventQueue", "nextWasSent", "()V"⟩ ⟨"ControlledStation$EventQueue", "nextWasSent", "()V"⟩ ∈ eT := eT_of (in_3 _ (List.mem_of_getElem? (i := 54) rfl)) rfl
set_option maxRecDepth 100000 in
theorem tw_606 : Cond.code ⟨"ControlledStation$EventQueue", "nextWasSent", "()V"⟩ prog_5_method_5_code 1 (Option.none : Option FieldType) ∈ eT := eT_of (in_3 _ (List.mem_of_getElem? (i := 55) rfl)) rfl
set_option maxRecDepth 100000 in
theorem tw_607 : Cond.methodLink "ControlledStationLaw" 32 ⟨"ControlledStation", "open", "()I"⟩ ∈ eT := eT_of (in_3 _ (List.mem_of_getElem? (i := 56) rfl)) rfl
set_option maxRecDepth 100000 in
theorem tw_608 : Cond.instanceMethod ⟨"ControlledStation", "open", "()I"⟩ ∈ eT := eT_of (in_3 _ (List.mem_of_getElem? (i := 57) rfl)) rfl
set_option maxRecDepth 100000 in
theorem tw_609 : Cond.selects "ControlledStation" ⟨"ControlledStation", "open", "()I"⟩ ⟨"ControlledStation", "open", "()I"⟩ ∈ eT := eT_of (in_3 _ (List.mem_of_getElem? (i := 58) rfl)) rfl
set_option maxRecDepth 100000 in
theorem tw_610 : Cond.code ⟨"ControlledStation", "open", "()I"⟩ prog_1_method_6_code 1 (Option.some FieldType.int) ∈ eT := eT_of (in_3 _ (List.mem_of_getElem? (i := 59) rfl)) rfl
set_option maxRecDepth 100000 in
theorem tw_611 : Cond.methodLink "ControlledStation" 148 ⟨"ControlledStation$OutBytes", "clear", "()V"⟩ ∈ eT := eT_of (in_3 _ (List.mem_of_getElem? (i := 60) rfl)) rfl
set_option maxRecDepth 100000 in
theorem tw_612 : Cond.instanceMethod ⟨"ControlledStation$OutBytes", "clear", "()V"⟩ ∈ eT := eT_of (in_3 _ (List.mem_of_getElem? (i := 61) rfl)) rfl
set_option maxRecDepth 100000 in
theorem tw_613 : Cond.selects "ControlledStation$OutBytes" ⟨"ControlledStation$OutBytes", "clear", "()V"⟩ ⟨"ControlledStation$OutBytes", "clear", "()V"⟩ ∈ eT := eT_of (in_3 _ (List.mem_of_getElem? (i := 62) rfl)) rfl
set_option maxRecDepth 100000 in
theorem tw_614 : Cond.code ⟨"ControlledStation$OutBytes", "clear", "()V"⟩ prog_7_method_2_code 1 (Option.none : Option FieldType) ∈ eT := eT_of (in_3 _ (List.mem_of_getElem? (i := 63) rfl)) rfl
set_option maxRecDepth 100000 in
theorem tw_615 : Cond.methodLink "ControlledStation" 151 ⟨"ControlledStation$SentFrames", "restart", "()V"⟩ ∈ eT := eT_of (in_3 _ (List.mem_of_getElem? (i := 64) rfl)) rfl
set_option maxRecDepth 100000 in
theorem tw_616 : Cond.instanceMethod ⟨"ControlledStation$SentFrames", "restart", "()V"⟩ ∈ eT := eT_of (in_3 _ (List.mem_of_getElem? (i := 65) rfl)) rfl
set_option maxRecDepth 100000 in
theorem tw_617 : Cond.selects "ControlledStation$SentFrames" ⟨"ControlledStation$SentFrames", "restart", "()V"⟩ ⟨"ControlledStation$SentFrames", "restart", "()V"⟩ ∈ eT := eT_of (in_3 _ (List.mem_of_getElem? (i := 66) rfl)) rfl
set_option maxRecDepth 100000 in
theorem tw_618 : Cond.code ⟨"ControlledStation$SentFrames", "restart", "()V"⟩ prog_12_method_2_code 1 (Option.none : Option FieldType) ∈ eT := eT_of (in_3 _ (List.mem_of_getElem? (i := 67) rfl)) rfl
set_option maxRecDepth 100000 in
theorem tw_619 : Cond.methodLink "ControlledStation$SentFrames" 23 ⟨"ControlledStation$SentFrames", "forget", "()V"⟩ ∈ eT := eT_of (in_3 _ (List.mem_of_getElem? (i := 68) rfl)) rfl
set_option maxRecDepth 100000 in
theorem tw_620 : Cond.methodLink "ControlledStation" 154 ⟨"ControlledStation$Receiver", "restart", "()V"⟩ ∈ eT := eT_of (in_3 _ (List.mem_of_getElem? (i := 69) rfl)) rfl
set_option maxRecDepth 100000 in
theorem tw_621 : Cond.instanceMethod ⟨"ControlledStation$Receiver", "restart", "()V"⟩ ∈ eT := eT_of (in_3 _ (List.mem_of_getElem? (i := 70) rfl)) rfl
set_option maxRecDepth 100000 in
theorem tw_622 : Cond.selects "ControlledStation$Receiver" ⟨"ControlledStation$Receiver", "restart", "()V"⟩ ⟨"ControlledStation$Receiver", "restart", "()V"⟩ ∈ eT := eT_of (in_3 _ (List.mem_of_getElem? (i := 71) rfl)) rfl
set_option maxRecDepth 100000 in
theorem tw_623 : Cond.code ⟨"ControlledStation$Receiver", "restart", "()V"⟩ prog_10_method_2_code 1 (Option.none : Option FieldType) ∈ eT := eT_of (in_3 _ (List.mem_of_getElem? (i := 72) rfl)) rfl
set_option maxRecDepth 100000 in
theorem tw_624 : Cond.methodLink "ControlledStation$Receiver" 22 ⟨"ControlledStation$Receiver", "forget", "()V"⟩ ∈ eT := eT_of (in_3 _ (List.mem_of_getElem? (i := 73) rfl)) rfl
set_option maxRecDepth 100000 in
theorem tw_625 : Cond.methodLink "ControlledStationLaw" 37 ⟨"ControlledStation", "close", "()I"⟩ ∈ eT := eT_of (in_3 _ (List.mem_of_getElem? (i := 74) rfl)) rfl
set_option maxRecDepth 100000 in
theorem tw_626 : Cond.instanceMethod ⟨"ControlledStation", "close", "()I"⟩ ∈ eT := eT_of (in_3 _ (List.mem_of_getElem? (i := 75) rfl)) rfl
set_option maxRecDepth 100000 in
theorem tw_627 : Cond.selects "ControlledStation" ⟨"ControlledStation", "close", "()I"⟩ ⟨"ControlledStation", "close", "()I"⟩ ∈ eT := eT_of (in_3 _ (List.mem_of_getElem? (i := 76) rfl)) rfl
set_option maxRecDepth 100000 in
theorem tw_628 : Cond.code ⟨"ControlledStation", "close", "()I"⟩ prog_1_method_7_code 1 (Option.some FieldType.int) ∈ eT := eT_of (in_3 _ (List.mem_of_getElem? (i := 77) rfl)) rfl
set_option maxRecDepth 100000 in
theorem tw_629 : Cond.methodLink "ControlledStationLaw" 43 ⟨"ControlledStation", "come", "(IJ)I"⟩ ∈ eT := eT_of (in_3 _ (List.mem_of_getElem? (i := 78) rfl)) rfl
set_option maxRecDepth 100000 in
theorem tw_630 : Cond.instanceMethod ⟨"ControlledStation", "come", "(IJ)I"⟩ ∈ eT := eT_of (in_3 _ (List.mem_of_getElem? (i := 79) rfl)) rfl
set_option maxRecDepth 100000 in
theorem tw_631 : Cond.selects "ControlledStation" ⟨"ControlledStation", "come", "(IJ)I"⟩ ⟨"ControlledStation", "come", "(IJ)I"⟩ ∈ eT := eT_of (in_3 _ (List.mem_of_getElem? (i := 80) rfl)) rfl
set_option maxRecDepth 100000 in
theorem tw_632 : Cond.code ⟨"ControlledStation", "come", "(IJ)I"⟩ prog_1_method_8_code 7 (Option.some FieldType.int) ∈ eT := eT_of (in_3 _ (List.mem_of_getElem? (i := 81) rfl)) rfl
set_option maxRecDepth 100000 in
theorem tw_633 : Cond.methodLink "ControlledStation" 165 ⟨"ControlledStation$Receiver", "accept", "(I)I"⟩ ∈ eT := eT_of (in_3 _ (List.mem_of_getElem? (i := 82) rfl)) rfl
set_option maxRecDepth 100000 in
theorem tw_634 : Cond.instanceMethod ⟨"ControlledStation$Receiver", "accept", "(I)I"⟩ ∈ eT := eT_of (in_3 _ (List.mem_of_getElem? (i := 83) rfl)) rfl
set_option maxRecDepth 100000 in
theorem tw_635 : Cond.selects "ControlledStation$Receiver" ⟨"ControlledStation$Receiver", "accept", "(I)I"⟩ ⟨"ControlledStation$Receiver", "accept", "(I)I"⟩ ∈ eT := eT_of (in_3 _ (List.mem_of_getElem? (i := 84) rfl)) rfl
set_option maxRecDepth 100000 in
theorem tw_636 : Cond.code ⟨"ControlledStation$Receiver", "accept", "(I)I"⟩ prog_10_method_4_code 2 (Option.some FieldType.int) ∈ eT := eT_of (in_3 _ (List.mem_of_getElem? (i := 85) rfl)) rfl
set_option maxRecDepth 100000 in
theorem tw_637 : Cond.methodLink "ControlledStation$Receiver" 37 ⟨"ControlledStation$Message", "clear", "()V"⟩ ∈ eT := eT_of (in_3 _ (List.mem_of_getElem? (i := 86) rfl)) rfl
set_option maxRecDepth 100000 in
theorem tw_638 : Cond.methodLink "ControlledStation$Receiver" 40 ⟨"ControlledStation$Message", "add", "(JI)V"⟩ ∈ eT := eT_of (in_3 _ (List.mem_of_getElem? (i := 87) rfl)) rfl
set_option maxRecDepth 100000 in
theorem tw_639 : Cond.methodLink "ControlledStation$Receiver" 44 ⟨"ControlledStation$Receiver", "isControl", "()Z"⟩ ∈ eT := eT_of (in_3 _ (List.mem_of_getElem? (i := 88) rfl)) rfl
set_option maxRecDepth 100000 in
theorem tw_641 : Cond.instanceMethod ⟨"ControlledStation$Receiver", "isControl", "()Z"⟩ ∈ eT := eT_of (in_3 _ (List.mem_of_getElem? (i := 90) rfl)) rfl
set_option maxRecDepth 100000 in
theorem tw_642 : Cond.code ⟨"ControlledStation$Receiver", "isControl", "()Z"⟩ prog_10_method_5_code 3 (Option.some FieldType.boolean) ∈ eT := eT_of (in_3 _ (List.mem_of_getElem? (i := 91) rfl)) rfl
set_option maxRecDepth 100000 in
theorem tw_643 : Cond.methodLink "ControlledStation" 169 ⟨"ControlledStation", "acceptFrame", "()Z"⟩ ∈ eT := eT_of (in_3 _ (List.mem_of_getElem? (i := 92) rfl)) rfl
set_option maxRecDepth 100000 in
theorem tw_645 : Cond.instanceMethod ⟨"ControlledStation", "acceptFrame", "()Z"⟩ ∈ eT := eT_of (in_3 _ (List.mem_of_getElem? (i := 94) rfl)) rfl
set_option maxRecDepth 100000 in
theorem tw_646 : Cond.code ⟨"ControlledStation", "acceptFrame", "()Z"⟩ prog_1_method_26_code 2 (Option.some FieldType.boolean) ∈ eT := eT_of (in_3 _ (List.mem_of_getElem? (i := 95) rfl)) rfl
set_option maxRecDepth 100000 in
theorem tw_647 : Cond.methodLink "ControlledStation" 339 ⟨"ControlledStation", "acceptData", "()Z"⟩ ∈ eT := eT_of (in_3 _ (List.mem_of_getElem? (i := 96) rfl)) rfl
set_option maxRecDepth 100000 in
theorem tw_649 : Cond.instanceMethod ⟨"ControlledStation", "acceptData", "()Z"⟩ ∈ eT := eT_of (in_3 _ (List.mem_of_getElem? (i := 98) rfl)) rfl
set_option maxRecDepth 100000 in
theorem tw_650 : Cond.code ⟨"ControlledStation", "acceptData", "()Z"⟩ prog_1_method_31_code 1 (Option.some FieldType.boolean) ∈ eT := eT_of (in_3 _ (List.mem_of_getElem? (i := 99) rfl)) rfl
set_option maxRecDepth 100000 in
theorem tw_651 : Cond.methodLink "ControlledStation" 362 ⟨"ControlledStation$Receiver", "number", "()I"⟩ ∈ eT := eT_of (in_3 _ (List.mem_of_getElem? (i := 100) rfl)) rfl
set_option maxRecDepth 100000 in
theorem tw_652 : Cond.instanceMethod ⟨"ControlledStation$Receiver", "number", "()I"⟩ ∈ eT := eT_of (in_3 _ (List.mem_of_getElem? (i := 101) rfl)) rfl
set_option maxRecDepth 100000 in
theorem tw_653 : Cond.selects "ControlledStation$Receiver" ⟨"ControlledStation$Receiver", "number", "()I"⟩ ⟨"ControlledStation$Receiver", "number", "()I"⟩ ∈ eT := eT_of (in_3 _ (List.mem_of_getElem? (i := 102) rfl)) rfl
set_option maxRecDepth 100000 in
theorem tw_654 : Cond.code ⟨"ControlledStation$Receiver", "number", "()I"⟩ prog_10_method_6_code 1 (Option.some FieldType.int) ∈ eT := eT_of (in_3 _ (List.mem_of_getElem? (i := 103) rfl)) rfl
set_option maxRecDepth 100000 in
theorem tw_655 : Cond.methodLink "ControlledStation" 345 ⟨"ControlledStation$Receiver", "ack", "()I"⟩ ∈ eT := eT_of (in_3 _ (List.mem_of_getElem? (i := 104) rfl)) rfl
set_option maxRecDepth 100000 in
theorem tw_656 : Cond.instanceMethod ⟨"ControlledStation$Receiver", "ack", "()I"⟩ ∈ eT := eT_of (in_3 _ (List.mem_of_getElem? (i := 105) rfl)) rfl
set_option maxRecDepth 100000 in
theorem tw_657 : Cond.selects "ControlledStation$Receiver" ⟨"ControlledStation$Receiver", "ack", "()I"⟩ ⟨"ControlledStation$Receiver", "ack", "()I"⟩ ∈ eT := eT_of (in_3 _ (List.mem_of_getElem? (i := 106) rfl)) rfl
set_option maxRecDepth 100000 in
theorem tw_658 : Cond.code ⟨"ControlledStation$Receiver", "ack", "()I"⟩ prog_10_method_7_code 1 (Option.some FieldType.int) ∈ eT := eT_of (in_3 _ (List.mem_of_getElem? (i := 107) rfl)) rfl
set_option maxRecDepth 100000 in
theorem tw_659 : Cond.methodLink "ControlledStation" 348 ⟨"ControlledStation", "acknowledge", "(I)Z"⟩ ∈ eT := eT_of (in_3 _ (List.mem_of_getElem? (i := 108) rfl)) rfl
set_option maxRecDepth 100000 in
theorem tw_661 : Cond.instanceMethod ⟨"ControlledStation", "acknowledge", "(I)Z"⟩ ∈ eT := eT_of (in_3 _ (List.mem_of_getElem? (i := 110) rfl)) rfl
set_option maxRecDepth 100000 in
theorem tw_662 : Cond.code ⟨"ControlledStation", "acknowledge", "(I)Z"⟩ prog_1_method_28_code 4 (Option.some FieldType.boolean) ∈ eT := eT_of (in_3 _ (List.mem_of_getElem? (i := 111) rfl)) rfl
set_option maxRecDepth 100000 in
theorem tw_663 : Cond.methodLink "ControlledStation" 351 ⟨"ControlledStation$SentFrames", "newlyAcknowledged", "(I)I"⟩ ∈ eT := eT_of (in_3 _ (List.mem_of_getElem? (i := 112) rfl)) rfl
set_option maxRecDepth 100000 in
theorem tw_664 : Cond.instanceMethod ⟨"ControlledStation$SentFrames", "newlyAcknowledged", "(I)I"⟩ ∈ eT := eT_of (in_3 _ (List.mem_of_getElem? (i := 113) rfl)) rfl
set_option maxRecDepth 100000 in
theorem tw_665 : Cond.selects "ControlledStation$SentFrames" ⟨"ControlledStation$SentFrames", "newlyAcknowledged", "(I)I"⟩ ⟨"ControlledStation$SentFrames", "newlyAcknowledged", "(I)I"⟩ ∈ eT := eT_of (in_3 _ (List.mem_of_getElem? (i := 114) rfl)) rfl
set_option maxRecDepth 100000 in
theorem tw_666 : Cond.code ⟨"ControlledStation$SentFrames", "newlyAcknowledged", "(I)I"⟩ prog_12_method_6_code 2 (Option.some FieldType.int) ∈ eT := eT_of (in_3 _ (List.mem_of_getElem? (i := 115) rfl)) rfl
set_option maxRecDepth 100000 in
theorem tw_667 : Cond.methodLink "ControlledStation" 354 ⟨"ControlledStation$SentFrames", "dropEldest", "()Z"⟩ ∈ eT := eT_of (in_3 _ (List.mem_of_getElem? (i := 116) rfl)) rfl
set_option maxRecDepth 100000 in
theorem tw_668 : Cond.instanceMethod ⟨"ControlledStation$SentFrames", "dropEldest", "()Z"⟩ ∈ eT := eT_of (in_3 _ (List.mem_of_getElem? (i := 117) rfl)) rfl
set_option maxRecDepth 100000 in
theorem tw_669 : Cond.selects "ControlledStation$SentFrames" ⟨"ControlledStation$SentFrames", "dropEldest", "()Z"⟩ ⟨"ControlledStation$SentFrames", "dropEldest", "()Z"⟩ ∈ eT := eT_of (in_3 _ (List.mem_of_getElem? (i := 118) rfl)) rfl
set_option maxRecDepth 100000 in
theorem tw_670 : Cond.code ⟨"ControlledStation$SentFrames", "dropEldest", "()Z"⟩ prog_12_method_7_code 2 (Option.some FieldType.boolean) ∈ eT := eT_of (in_3 _ (List.mem_of_getElem? (i := 119) rfl)) rfl
set_option maxRecDepth 100000 in
theorem tw_671 : Cond.methodLink "ControlledStation" 357 ⟨"ControlledStation$EventQueue", "dropEldest", "()V"⟩ ∈ eT := eT_of (in_3 _ (List.mem_of_getElem? (i := 120) rfl)) rfl
set_option maxRecDepth 100000 in
theorem tw_672 : Cond.instanceMethod ⟨"ControlledStation$EventQueue", "dropEldest", "()V"⟩ ∈ eT := eT_of (in_3 _ (List.mem_of_getElem? (i := 121) rfl)) rfl
set_option maxRecDepth 100000 in
theorem tw_673 : Cond.selects "ControlledStation$EventQueue" ⟨"ControlledStation$EventQueue", "dropEldest", "()V"⟩ ⟨"ControlledStation$EventQueue", "dropEldest", "()V"⟩ ∈ eT := eT_of (in_3 _ (List.mem_of_getElem? (i := 122) rfl)) rfl
set_option maxRecDepth 100000 in
theorem tw_674 : Cond.code ⟨"ControlledStation$EventQueue", "dropEldest", "()V"⟩ prog_5_method_6_code 1 (Option.none : Option FieldType) ∈ eT := eT_of (in_3 _ (List.mem_of_getElem? (i := 123) rfl)) rfl
set_option maxRecDepth 100000 in
theorem tw_675 : Cond.methodLink "ControlledStation" 364 ⟨"ControlledStation$Receiver", "countData", "(I)V"⟩ ∈ eT := eT_of (in_3 _ (List.mem_of_getElem? (i := 124) rfl)) rfl
set_option maxRecDepth 100000 in
theorem tw_676 : Cond.instanceMethod ⟨"ControlledStation$Receiver", "countData", "(I)V"⟩ ∈ eT := eT_of (in_3 _ (List.mem_of_getElem? (i := 125) rfl)) rfl
set_option maxRecDepth 100000 in
theorem tw_677 : Cond.selects "ControlledStation$Receiver" ⟨"ControlledStation$Receiver", "countData", "(I)V"⟩ ⟨"ControlledStation$Receiver", "countData", "(I)V"⟩ ∈ eT := eT_of (in_3 _ (List.mem_of_getElem? (i := 126) rfl)) rfl
set_option maxRecDepth 100000 in
theorem tw_678 : Cond.code ⟨"ControlledStation$Receiver", "countData", "(I)V"⟩ prog_10_method_9_code 2 (Option.none : Option FieldType) ∈ eT := eT_of (in_3 _ (List.mem_of_getElem? (i := 127) rfl)) rfl
set_option maxRecDepth 100000 in
theorem tw_679 : Cond.methodLink "ControlledStation" 342 ⟨"ControlledStation", "controlCame", "(I)V"⟩ ∈ eT := eT_of (in_3 _ (List.mem_of_getElem? (i := 128) rfl)) rfl
set_option maxRecDepth 100000 in
theorem tw_681 : Cond.instanceMethod ⟨"ControlledStation", "controlCame", "(I)V"⟩ ∈ eT := eT_of (in_3 _ (List.mem_of_getElem? (i := 130) rfl)) rfl
set_option maxRecDepth 100000 in
theorem tw_682 : Cond.code ⟨"ControlledStation", "controlCame", "(I)V"⟩ prog_1_method_29_code 2 (Option.none : Option FieldType) ∈ eT := eT_of (in_3 _ (List.mem_of_getElem? (i := 131) rfl)) rfl
set_option maxRecDepth 100000 in
theorem tw_683 : Cond.methodLink "ControlledStation" 359 ⟨"ControlledStation", "stopCame", "()V"⟩ ∈ eT := eT_of (in_3 _ (List.mem_of_getElem? (i := 132) rfl)) rfl
set_option maxRecDepth 100000 in
theorem tw_685 : Cond.instanceMethod ⟨"ControlledStation", "stopCame", "()V"⟩ ∈ eT := eT_of (in_3 _ (List.mem_of_getElem? (i := 134) rfl)) rfl
set_option maxRecDepth 100000 in
theorem tw_686 : Cond.code ⟨"ControlledStation", "stopCame", "()V"⟩ prog_1_method_30_code 1 (Option.none : Option FieldType) ∈ eT := eT_of (in_3 _ (List.mem_of_getElem? (i := 135) rfl)) rfl
set_option maxRecDepth 100000 in
theorem tw_687 : Cond.methodLink "ControlledStation" 296 ⟨"ControlledStation", "sendAck", "()V"⟩ ∈ eT := eT_of (in_3 _ (List.mem_of_getElem? (i := 136) rfl)) rfl
set_option maxRecDepth 100000 in
theorem tw_689 : Cond.instanceMethod ⟨"ControlledStation", "sendAck", "()V"⟩ ∈ eT := eT_of (in_3 _ (List.mem_of_getElem? (i := 138) rfl)) rfl
set_option maxRecDepth 100000 in
theorem tw_690 : Cond.code ⟨"ControlledStation", "sendAck", "()V"⟩ prog_1_method_22_code 1 (Option.none : Option FieldType) ∈ eT := eT_of (in_3 _ (List.mem_of_getElem? (i := 139) rfl)) rfl
set_option maxRecDepth 100000 in
theorem tw_691 : Cond.methodLink "ControlledStation" 177 ⟨"ControlledStation", "takeRest", "(LControlledStation$Message;)V"⟩ ∈ eT := eT_of (in_3 _ (List.mem_of_getElem? (i := 140) rfl)) rfl
set_option maxRecDepth 100000 in
theorem tw_693 : Cond.instanceMethod ⟨"ControlledStation", "takeRest", "(LControlledStation$Message;)V"⟩ ∈ eT := eT_of (in_3 _ (List.mem_of_getElem? (i := 142) rfl)) rfl
set_option maxRecDepth 100000 in
theorem tw_694 : Cond.code ⟨"ControlledStation", "takeRest", "(LControlledStation$Message;)V"⟩ prog_1_method_32_code 5 (Option.none : Option FieldType) ∈ eT := eT_of (in_3 _ (List.mem_of_getElem? (i := 143) rfl)) rfl
set_option maxRecDepth 100000 in
theorem tw_695 : Cond.methodLink "ControlledStation" 367 ⟨"ControlledStation", "faultOf", "(LControlledStation$Message;II)I"⟩ ∈ eT := eT_of (in_3 _ (List.mem_of_getElem? (i := 144) rfl)) rfl
set_option maxRecDepth 100000 in
theorem tw_697 : Cond.instanceMethod ⟨"ControlledStation", "faultOf", "(LControlledStation$Message;II)I"⟩ ∈ eT := eT_of (in_3 _ (List.mem_of_getElem? (i := 146) rfl)) rfl
set_option maxRecDepth 100000 in
theorem tw_698 : Cond.code ⟨"ControlledStation", "faultOf", "(LControlledStation$Message;II)I"⟩ prog_1_method_33_code 6 (Option.some FieldType.int) ∈ eT := eT_of (in_3 _ (List.mem_of_getElem? (i := 147) rfl)) rfl
set_option maxRecDepth 100000 in
theorem tw_699 : Cond.methodLink "ControlledStation" 401 ⟨"ControlledStation", "restLength", "(I)I"⟩ ∈ eT := eT_of (in_3 _ (List.mem_of_getElem? (i := 148) rfl)) rfl
set_option maxRecDepth 100000 in
theorem tw_700 : Cond.static ⟨"ControlledStation", "restLength", "(I)I"⟩ ∈ eT := eT_of (in_3 _ (List.mem_of_getElem? (i := 149) rfl)) rfl
set_option maxRecDepth 100000 in
theorem tw_701 : Cond.code ⟨"ControlledStation", "restLength", "(I)I"⟩ prog_1_method_34_code 1 (Option.some FieldType.int) ∈ eT := eT_of (in_3 _ (List.mem_of_getElem? (i := 150) rfl)) rfl
set_option maxRecDepth 100000 in
theorem tw_702 : Cond.methodLink "ControlledStation" 404 ⟨"ControlledStation", "isCauseOf", "(II)Z"⟩ ∈ eT := eT_of (in_3 _ (List.mem_of_getElem? (i := 151) rfl)) rfl
set_option maxRecDepth 100000 in
theorem tw_703 : Cond.static ⟨"ControlledStation", "isCauseOf", "(II)Z"⟩ ∈ eT := eT_of (in_3 _ (List.mem_of_getElem? (i := 152) rfl)) rfl
set_option maxRecDepth 100000 in
theorem tw_704 : Cond.code ⟨"ControlledStation", "isCauseOf", "(II)Z"⟩ prog_1_method_35_code 2 (Option.some FieldType.boolean) ∈ eT := eT_of (in_3 _ (List.mem_of_getElem? (i := 153) rfl)) rfl
set_option maxRecDepth 100000 in
theorem tw_705 : Cond.methodLink "ControlledStation" 386 ⟨"ControlledStation$Message", "number", "(II)J"⟩ ∈ eT := eT_of (in_3 _ (List.mem_of_getElem? (i := 154) rfl)) rfl
set_option maxRecDepth 100000 in
theorem tw_706 : Cond.instanceMethod ⟨"ControlledStation$Message", "number", "(II)J"⟩ ∈ eT := eT_of (in_3 _ (List.mem_of_getElem? (i := 155) rfl)) rfl
set_option maxRecDepth 100000 in
theorem tw_707 : Cond.selects "ControlledStation$Message" ⟨"ControlledStation$Message", "number", "(II)J"⟩ ⟨"ControlledStation$Message", "number", "(II)J"⟩ ∈ eT := eT_of (in_3 _ (List.mem_of_getElem? (i := 156) rfl)) rfl
set_option maxRecDepth 100000 in
theorem tw_708 : Cond.code ⟨"ControlledStation$Message", "number", "(II)J"⟩ prog_6_method_7_code 6 (Option.some FieldType.long) ∈ eT := eT_of (in_3 _ (List.mem_of_getElem? (i := 157) rfl)) rfl
set_option maxRecDepth 100000 in
theorem tw_709 : Cond.methodLink "ControlledStation$Message" 34 ⟨"ControlledStation$Message", "at", "(I)I"⟩ ∈ eT := eT_of (in_3 _ (List.mem_of_getElem? (i := 158) rfl)) rfl
set_option maxRecDepth 100000 in
theorem tw_710 : Cond.constantLong "ControlledStation" 407 (65535 : Int64) ∈ eT := eT_of (in_3 _ (List.mem_of_getElem? (i := 159) rfl)) rfl
set_option maxRecDepth 100000 in
theorem tw_711 : Cond.methodLink "ControlledStation" 374 ⟨"ControlledStation$Message", "address", "()I"⟩ ∈ eT := eT_of (in_3 _ (List.mem_of_getElem? (i := 160) rfl)) rfl
set_option maxRecDepth 100000 in
theorem tw_712 : Cond.instanceMethod ⟨"ControlledStation$Message", "address", "()I"⟩ ∈ eT := eT_of (in_3 _ (List.mem_of_getElem? (i := 161) rfl)) rfl
set_option maxRecDepth 100000 in
theorem tw_713 : Cond.selects "ControlledStation$Message" ⟨"ControlledStation$Message", "address", "()I"⟩ ⟨"ControlledStation$Message", "address", "()I"⟩ ∈ eT := eT_of (in_3 _ (List.mem_of_getElem? (i := 162) rfl)) rfl
set_option maxRecDepth 100000 in
theorem tw_714 : Cond.code ⟨"ControlledStation$Message", "address", "()I"⟩ prog_6_method_8_code 1 (Option.some FieldType.int) ∈ eT := eT_of (in_3 _ (List.mem_of_getElem? (i := 163) rfl)) rfl
set_option maxRecDepth 100000 in
theorem tw_715 : Cond.methodLink "ControlledStation$Message" 38 ⟨"ControlledStation$Message", "number", "(II)J"⟩ ∈ eT := eT_of (in_3 _ (List.mem_of_getElem? (i := 164) rfl)) rfl
set_option maxRecDepth 100000 in
theorem tw_716 : Cond.methodLink "ControlledStation" 409 ⟨"ControlledStation", "isAddressOf", "(II)Z"⟩ ∈ eT := eT_of (in_3 _ (List.mem_of_getElem? (i := 165) rfl)) rfl
set_option maxRecDepth 100000 in
theorem tw_718 : Cond.instanceMethod ⟨"ControlledStation", "isAddressOf", "(II)Z"⟩ ∈ eT := eT_of (in_3 _ (List.mem_of_getElem? (i := 167) rfl)) rfl
set_option maxRecDepth 100000 in
theorem tw_719 : Cond.code ⟨"ControlledStation", "isAddressOf", "(II)Z"⟩ prog_1_method_36_code 4 (Option.some FieldType.boolean) ∈ eT := eT_of (in_3 _ (List.mem_of_getElem? (i := 168) rfl)) rfl
set_option maxRecDepth 100000 in
theorem tw_720 : Cond.fieldLink "ControlledStation" 412 "ControlledStation" "COMMAND_TYPES" "[I" ∈ eT := eT_of (in_3 _ (List.mem_of_getElem? (i := 169) rfl)) rfl
set_option maxRecDepth 100000 in
theorem tw_722 : Cond.methodLink "ControlledStation" 371 ⟨"ControlledStation", "answerSame", "(I)Z"⟩ ∈ eT := eT_of (in_3 _ (List.mem_of_getElem? (i := 171) rfl)) rfl
set_option maxRecDepth 100000 in
theorem tw_724 : Cond.instanceMethod ⟨"ControlledStation", "answerSame", "(I)Z"⟩ ∈ eT := eT_of (in_3 _ (List.mem_of_getElem? (i := 173) rfl)) rfl
set_option maxRecDepth 100000 in
theorem tw_725 : Cond.code ⟨"ControlledStation", "answerSame", "(I)Z"⟩ prog_1_method_46_code 3 (Option.some FieldType.boolean) ∈ eT := eT_of (in_3 _ (List.mem_of_getElem? (i := 174) rfl)) rfl
set_option maxRecDepth 100000 in
theorem tw_726 : Cond.methodLink "ControlledStation" 484 ⟨"ControlledStation$AnswerQueue", "next", "()LControlledStation$Message;"⟩ ∈ eT := eT_of (in_3 _ (List.mem_of_getElem? (i := 175) rfl)) rfl
set_option maxRecDepth 100000 in
theorem tw_727 : Cond.instanceMethod ⟨"ControlledStation$AnswerQueue", "next", "()LControlledStation$Message;"⟩ ∈ eT := eT_of (in_3 _ (List.mem_of_getElem? (i := 176) rfl)) rfl
set_option maxRecDepth 100000 in
theorem tw_728 : Cond.selects "ControlledStation$AnswerQueue" ⟨"ControlledStation$AnswerQueue", "next", "()LControlledStation$Message;"⟩ ⟨"ControlledStation$AnswerQueue", "next", "()LControlledStation$Message;"⟩ ∈ eT := eT_of (in_3 _ (List.mem_of_getElem? (i := 177) rfl)) rfl
set_option maxRecDepth 100000 in
theorem tw_729 : Cond.code ⟨"ControlledStation$AnswerQueue", "next", "()LControlledStation$Message;"⟩ prog_2_method_3_code 2 (Option.some (FieldType.object "ControlledStation$Message")) ∈ eT := eT_of (in_3 _ (List.mem_of_getElem? (i := 178) rfl)) rfl
set_option maxRecDepth 100000 in
theorem tw_730 : Cond.methodLink "ControlledStation$AnswerQueue" 33 ⟨"ControlledStation$Message", "clear", "()V"⟩ ∈ eT := eT_of (in_3 _ (List.mem_of_getElem? (i := 179) rfl)) rfl
set_option maxRecDepth 100000 in
theorem tw_731 : Cond.methodLink "ControlledStation" 486 ⟨"ControlledStation$Message", "copy", "(LControlledStation$Message;)V"⟩ ∈ eT := eT_of (in_3 _ (List.mem_of_getElem? (i := 180) rfl)) rfl
set_option maxRecDepth 100000 in
theorem tw_732 : Cond.instanceMethod ⟨"ControlledStation$Message", "copy", "(LControlledStation$Message;)V"⟩ ∈ eT := eT_of (in_3 _ (List.mem_of_getElem? (i := 181) rfl)) rfl
set_option maxRecDepth 100000 in
theorem tw_733 : Cond.selects "ControlledStation$Message" ⟨"ControlledStation$Message", "copy", "(LControlledStation$Message;)V"⟩ ⟨"ControlledStation$Message", "copy", "(LControlledStation$Message;)V"⟩ ∈ eT := eT_of (in_3 _ (List.mem_of_getElem? (i := 182) rfl)) rfl
set_option maxRecDepth 100000 in
theorem tw_734 : Cond.code ⟨"ControlledStation$Message", "copy", "(LControlledStation$Message;)V"⟩ prog_6_method_4_code 2 (Option.none : Option FieldType) ∈ eT := eT_of (in_3 _ (List.mem_of_getElem? (i := 183) rfl)) rfl
set_option maxRecDepth 100000 in
theorem tw_735 : Cond.methodLink "ControlledStation$Message" 19 ⟨"java/lang/Math", "min", "(II)I"⟩ ∈ eT := eT_of (in_3 _ (List.mem_of_getElem? (i := 184) rfl)) rfl
set_option maxRecDepth 100000 in
theorem tw_736 : Cond.static ⟨"java/lang/Math", "min", "(II)I"⟩ ∈ eT := eT_of (in_3 _ (List.mem_of_getElem? (i := 185) rfl)) rfl
set_option maxRecDepth 100000 in
theorem tw_737 : Cond.code ⟨"java/lang/Math", "min", "(II)I"⟩ prog_15_method_69_code 2 (Option.some FieldType.int) ∈ eT := eT_of (in_3 _ (List.mem_of_getElem? (i := 186) rfl)) rfl
set_option maxRecDepth 100000 in
theorem tw_738 : Cond.methodLink "ControlledStation$Message" 25 ⟨"java/lang/Math", "max", "(II)I"⟩ ∈ eT := eT_of (in_3 _ (List.mem_of_getElem? (i := 187) rfl)) rfl
set_option maxRecDepth 100000 in
theorem tw_739 : Cond.static ⟨"java/lang/Math", "max", "(II)I"⟩ ∈ eT := eT_of (in_3 _ (List.mem_of_getElem? (i := 188) rfl)) rfl
set_option maxRecDepth 100000 in
theorem tw_740 : Cond.code ⟨"java/lang/Math", "max", "(II)I"⟩ prog_15_method_65_code 2 (Option.some FieldType.int) ∈ eT := eT_of (in_3 _ (List.mem_of_getElem? (i := 189) rfl)) rfl
set_option maxRecDepth 100000 in
theorem tw_741 : Cond.methodLink "ControlledStation$Message" 28 ⟨"java/lang/System", "arraycopy", "(Ljava/lang/Object;ILjava/lang/Object;II)V"⟩ ∈ eT := eT_of (in_3 _ (List.mem_of_getElem? (i := 190) rfl)) rfl
set_option maxRecDepth 100000 in
theorem tw_742 : Cond.static ⟨"java/lang/System", "arraycopy", "(Ljava/lang/Object;ILjava/lang/Object;II)V"⟩ ∈ eT := eT_of (in_3 _ (List.mem_of_getElem? (i := 191) rfl)) rfl
set_option maxRecDepth 100000 in
theorem tw_743 : Cond.native ⟨"java/lang/System", "arraycopy", "(Ljava/lang/Object;ILjava/lang/Object;II)V"⟩ ∈ eT := eT_of (in_3 _ (List.mem_of_getElem? (i := 192) rfl)) rfl
set_option maxRecDepth 100000 in
theorem tw_744 : Cond.methodLink "ControlledStation" 489 ⟨"ControlledStation$Message", "replace", "(II)V"⟩ ∈ eT := eT_of (in_3 _ (List.mem_of_getElem? (i := 193) rfl)) rfl
set_option maxRecDepth 100000 in
theorem tw_745 : Cond.instanceMethod ⟨"ControlledStation$Message", "replace", "(II)V"⟩ ∈ eT := eT_of (in_3 _ (List.mem_of_getElem? (i := 194) rfl)) rfl
set_option maxRecDepth 100000 in
theorem tw_746 : Cond.selects "ControlledStation$Message" ⟨"ControlledStation$Message", "replace", "(II)V"⟩ ⟨"ControlledStation$Message", "replace", "(II)V"⟩ ∈ eT := eT_of (in_3 _ (List.mem_of_getElem? (i := 195) rfl)) rfl
set_option maxRecDepth 100000 in
theorem tw_747 : Cond.code ⟨"ControlledStation$Message", "replace", "(II)V"⟩ prog_6_method_5_code 3 (Option.none : Option FieldType) ∈ eT := eT_of (in_3 _ (List.mem_of_getElem? (i := 196) rfl)) rfl
set_option maxRecDepth 100000 in
theorem tw_748 : Cond.methodLink "ControlledStation" 376 ⟨"ControlledStation", "readCame", "(LControlledStation$Point;)V"⟩ ∈ eT := eT_of (in_3 _ (List.mem_of_getElem? (i := 197) rfl)) rfl
set_option maxRecDepth 100000 in
theorem tw_750 : Cond.instanceMethod ⟨"ControlledStation", "readCame", "(LControlledStation$Point;)V"⟩ ∈ eT := eT_of (in_3 _ (List.mem_of_getElem? (i := 199) rfl)) rfl
set_option maxRecDepth 100000 in
theorem tw_751 : Cond.code ⟨"ControlledStation", "readCame", "(LControlledStation$Point;)V"⟩ prog_1_method_41_code 2 (Option.none : Option FieldType) ∈ eT := eT_of (in_3 _ (List.mem_of_getElem? (i := 200) rfl)) rfl
set_option maxRecDepth 100000 in
theorem tw_752 : Cond.methodLink "ControlledStation" 416 ⟨"ControlledStation$Receiver", "isTrial", "()Z"⟩ ∈ eT := eT_of (in_3 _ (List.mem_of_getElem? (i := 201) rfl)) rfl
set_option maxRecDepth 100000 in
theorem tw_753 : Cond.instanceMethod ⟨"ControlledStation$Receiver", "isTrial", "()Z"⟩ ∈ eT := eT_of (in_3 _ (List.mem_of_getElem? (i := 202) rfl)) rfl
set_option maxRecDepth 100000 in
theorem tw_754 : Cond.selects "ControlledStation$Receiver" ⟨"ControlledStation$Receiver", "isTrial", "()Z"⟩ ⟨"ControlledStation$Receiver", "isTrial", "()Z"⟩ ∈ eT := eT_of (in_3 _ (List.mem_of_getElem? (i := 203) rfl)) rfl
set_option maxRecDepth 100000 in
theorem tw_755 : Cond.code ⟨"ControlledStation$Receiver", "isTrial", "()Z"⟩ prog_10_method_11_code 1 (Option.some FieldType.boolean) ∈ eT := eT_of (in_3 _ (List.mem_of_getElem? (i := 204) rfl)) rfl
set_option maxRecDepth 100000 in
theorem tw_756 : Cond.methodLink "ControlledStation$Receiver" 51 ⟨"ControlledStation$Message", "at", "(I)I"⟩ ∈ eT := eT_of (in_3 _ (List.mem_of_getElem? (i := 205) rfl)) rfl
set_option maxRecDepth 100000 in
theorem tw_757 : Cond.methodLink "ControlledStation" 461 ⟨"ControlledStation", "answerObject", "(LControlledStation$Point;I)V"⟩ ∈ eT := eT_of (in_3 _ (List.mem_of_getElem? (i := 206) rfl)) rfl
set_option maxRecDepth 100000 in
theorem tw_759 : Cond.instanceMethod ⟨"ControlledStation", "answerObject", "(LControlledStation$Point;I)V"⟩ ∈ eT := eT_of (in_3 _ (List.mem_of_getElem? (i := 208) rfl)) rfl
set_option maxRecDepth 100000 in
theorem tw_760 : Cond.code ⟨"ControlledStation", "answerObject", "(LControlledStation$Point;I)V"⟩ prog_1_method_47_code 4 (Option.none : Option FieldType) ∈ eT := eT_of (in_3 _ (List.mem_of_getElem? (i := 209) rfl)) rfl
set_option maxRecDepth 100000 in
theorem tw_761 : Cond.fieldLink "ControlledStation" 492 "ControlledStation" "TYPES" "[I" ∈ eT := eT_of (in_3 _ (List.mem_of_getElem? (i := 210) rfl)) rfl
set_option maxRecDepth 100000 in
theorem tw_762 : Cond.methodLink "ControlledStation" 442 ⟨"ControlledStation$Receiver", "originator", "()I"⟩ ∈ eT := eT_of (in_3 _ (List.mem_of_getElem? (i := 211) rfl)) rfl
set_option maxRecDepth 100000 in
theorem tw_763 : Cond.instanceMethod ⟨"ControlledStation$Receiver", "originator", "()I"⟩ ∈ eT := eT_of (in_3 _ (List.mem_of_getElem? (i := 212) rfl)) rfl
set_option maxRecDepth 100000 in
theorem tw_764 : Cond.selects "ControlledStation$Receiver" ⟨"ControlledStation$Receiver", "originator", "()I"⟩ ⟨"ControlledStation$Receiver", "originator", "()I"⟩ ∈ eT := eT_of (in_3 _ (List.mem_of_getElem? (i := 213) rfl)) rfl
set_option maxRecDepth 100000 in
theorem tw_765 : Cond.code ⟨"ControlledStation$Receiver", "originator", "()I"⟩ prog_10_method_10_code 1 (Option.some FieldType.int) ∈ eT := eT_of (in_3 _ (List.mem_of_getElem? (i := 214) rfl)) rfl
set_option maxRecDepth 100000 in
theorem tw_766 : Cond.methodLink "ControlledStation" 495 ⟨"ControlledStation", "objectHead", "(IIII)J"⟩ ∈ eT := eT_of (in_3 _ (List.mem_of_getElem? (i := 215) rfl)) rfl
set_option maxRecDepth 100000 in
theorem tw_767 : Cond.methodLink "ControlledStation" 499 ⟨"ControlledStation$Message", "add", "(JI)V"⟩ ∈ eT := eT_of (in_3 _ (List.mem_of_getElem? (i := 216) rfl)) rfl
set_option maxRecDepth 100000 in
theorem tw_768 : Cond.methodLink "ControlledStation" 502 ⟨"ControlledStation$Point", "objectBytes", "()I"⟩ ∈ eT := eT_of (in_3 _ (List.mem_of_getElem? (i := 217) rfl)) rfl
set_option maxRecDepth 100000 in
theorem tw_769 : Cond.methodLink "ControlledStation" 379 ⟨"ControlledStation", "interrogationCame", "(II)V"⟩ ∈ eT := eT_of (in_3 _ (List.mem_of_getElem? (i := 218) rfl)) rfl
set_option maxRecDepth 100000 in
theorem tw_771 : Cond.instanceMethod ⟨"ControlledStation", "interrogationCame", "(II)V"⟩ ∈ eT := eT_of (in_3 _ (List.mem_of_getElem? (i := 220) rfl)) rfl
set_option maxRecDepth 100000 in
theorem tw_772 : Cond.code ⟨"ControlledStation", "interrogationCame", "(II)V"⟩ prog_1_method_42_code 3 (Option.none : Option FieldType) ∈ eT := eT_of (in_3 _ (List.mem_of_getElem? (i := 221) rfl)) rfl
set_option maxRecDepth 100000 in
theorem tw_773 : Cond.methodLink "ControlledStation" 465 ⟨"ControlledStation", "answerPoints", "(I)V"⟩ ∈ eT := eT_of (in_3 _ (List.mem_of_getElem? (i := 222) rfl)) rfl
set_option maxRecDepth 100000 in
theorem tw_775 : Cond.instanceMethod ⟨"ControlledStation", "answerPoints", "(I)V"⟩ ∈ eT := eT_of (in_3 _ (List.mem_of_getElem? (i := 224) rfl)) rfl
set_option maxRecDepth 100000 in
theorem tw_776 : Cond.code ⟨"ControlledStation", "answerPoints", "(I)V"⟩ prog_1_method_49_code 8 (Option.none : Option FieldType) ∈ eT := eT_of (in_3 _ (List.mem_of_getElem? (i := 225) rfl)) rfl
set_option maxRecDepth 100000 in
theorem tw_777 : Cond.methodLink "ControlledStation" 505 ⟨"ControlledStation$PointTable", "atPlace", "(I)LControlledStation$Point;"⟩ ∈ eT := eT_of (in_3 _ (List.mem_of_getElem? (i := 226) rfl)) rfl
set_option maxRecDepth 100000 in
theorem tw_778 : Cond.instanceMethod ⟨"ControlledStation$PointTable", "atPlace", "(I)LControlledStation$Point;"⟩ ∈ eT := eT_of (in_3 _ (List.mem_of_getElem? (i := 227) rfl)) rfl
set_option maxRecDepth 100000 in
theorem tw_779 : Cond.selects "ControlledStation$PointTable" ⟨"ControlledStation$PointTable", "atPlace", "(I)LControlledStation$Point;"⟩ ⟨"ControlledStation$PointTable", "atPlace", "(I)LControlledStation$Point;"⟩ ∈ eT := eT_of (in_3 _ (List.mem_of_getElem? (i := 228) rfl)) rfl
set_option maxRecDepth 100000 in
theorem tw_780 : Cond.code ⟨"ControlledStation$PointTable", "atPlace", "(I)LControlledStation$Point;"⟩ prog_9_method_4_code 2 (Option.some (FieldType.object "ControlledStation$Point")) ∈ eT := eT_of (in_3 _ (List.mem_of_getElem? (i := 229) rfl)) rfl
set_option maxRecDepth 100000 in
theorem tw_781 : Cond.methodLink "ControlledStation" 508 ⟨"ControlledStation$Point", "isAskedBy", "(I)Z"⟩ ∈ eT := eT_of (in_3 _ (List.mem_of_getElem? (i := 230) rfl)) rfl
set_option maxRecDepth 100000 in
theorem tw_782 : Cond.instanceMethod ⟨"ControlledStation$Point", "isAskedBy", "(I)Z"⟩ ∈ eT := eT_of (in_3 _ (List.mem_of_getElem? (i := 231) rfl)) rfl
set_option maxRecDepth 100000 in
theorem tw_783 : Cond.selects "ControlledStation$Point" ⟨"ControlledStation$Point", "isAskedBy", "(I)Z"⟩ ⟨"ControlledStation$Point", "isAskedBy", "(I)Z"⟩ ∈ eT := eT_of (in_3 _ (List.mem_of_getElem? (i := 232) rfl)) rfl
set_option maxRecDepth 100000 in
theorem tw_784 : Cond.code ⟨"ControlledStation$Point", "isAskedBy", "(I)Z"⟩ prog_8_method_3_code 2 (Option.some FieldType.boolean) ∈ eT := eT_of (in_3 _ (List.mem_of_getElem? (i := 233) rfl)) rfl
set_option maxRecDepth 100000 in
theorem tw_785 : Cond.methodLink "ControlledStation" 383 ⟨"ControlledStation", "countersOrderCame", "(I)V"⟩ ∈ eT := eT_of (in_3 _ (List.mem_of_getElem? (i := 234) rfl)) rfl
set_option maxRecDepth 100000 in
theorem tw_787 : Cond.instanceMethod ⟨"ControlledStation", "countersOrderCame", "(I)V"⟩ ∈ eT := eT_of (in_3 _ (List.mem_of_getElem? (i := 236) rfl)) rfl
set_option maxRecDepth 100000 in
theorem tw_788 : Cond.code ⟨"ControlledStation", "countersOrderCame", "(I)V"⟩ prog_1_method_43_code 2 (Option.none : Option FieldType) ∈ eT := eT_of (in_3 _ (List.mem_of_getElem? (i := 237) rfl)) rfl
set_option maxRecDepth 100000 in
theorem tw_789 : Cond.methodLink "ControlledStation" 468 ⟨"ControlledStation", "orderCounters", "(I)V"⟩ ∈ eT := eT_of (in_3 _ (List.mem_of_getElem? (i := 238) rfl)) rfl
set_option maxRecDepth 100000 in
theorem tw_791 : Cond.instanceMethod ⟨"ControlledStation", "orderCounters", "(I)V"⟩ ∈ eT := eT_of (in_4 _ (List.mem_of_getElem? (i := 0) rfl)) rfl
set_option maxRecDepth 100000 in
theorem tw_792 : Cond.code ⟨"ControlledStation", "orderCounters", "(I)V"⟩ prog_1_method_44_code 2 (Option.none : Option FieldType) ∈ eT := eT_of (in_4 _ (List.mem_of_getElem? (i := 1) rfl)) rfl
set_option maxRecDepth 100000 in
theorem tw_793 : Cond.methodLink "ControlledStation" 471 ⟨"ControlledStation$PointTable", "freezeCounters", "()V"⟩ ∈ eT := eT_of (in_4 _ (List.mem_of_getElem? (i := 2) rfl)) rfl
set_option maxRecDepth 100000 in
theorem tw_794 : Cond.instanceMethod ⟨"ControlledStation$PointTable", "freezeCounters", "()V"⟩ ∈ eT := eT_of (in_4 _ (List.mem_of_getElem? (i := 3) rfl)) rfl
set_option maxRecDepth 100000 in
theorem tw_795 : Cond.selects "ControlledStation$PointTable" ⟨"ControlledStation$PointTable", "freezeCounters", "()V"⟩ ⟨"ControlledStation$PointTable", "freezeCounters", "()V"⟩ ∈ eT := eT_of (in_4 _ (List.mem_of_getElem? (i := 4) rfl)) rfl
set_option maxRecDepth 100000 in
theorem tw_796 : Cond.code ⟨"ControlledStation$PointTable", "freezeCounters", "()V"⟩ prog_9_method_6_code 3 (Option.none : Option FieldType) ∈ eT := eT_of (in_4 _ (List.mem_of_getElem? (i := 5) rfl)) rfl
set_option maxRecDepth 100000 in
theorem tw_797 : Cond.methodLink "ControlledStation" 474 ⟨"ControlledStation$PointTable", "resetCounters", "()V"⟩ ∈ eT := eT_of (in_4 _ (List.mem_of_getElem? (i := 6) rfl)) rfl
set_option maxRecDepth 100000 in
theorem tw_798 : Cond.instanceMethod ⟨"ControlledStation$PointTable", "resetCounters", "()V"⟩ ∈ eT := eT_of (in_4 _ (List.mem_of_getElem? (i := 7) rfl)) rfl
set_option maxRecDepth 100000 in
theorem tw_799 : Cond.selects "ControlledStation$PointTable" ⟨"ControlledStation$PointTable", "resetCounters", "()V"⟩ ⟨"ControlledStation$PointTable", "resetCounters", "()V"⟩ ∈ eT := eT_of (in_4 _ (List.mem_of_getElem? (i := 8) rfl)) rfl
set_option maxRecDepth 100000 in
theorem tw_800 : Cond.code ⟨"ControlledStation$PointTable", "resetCounters", "()V"⟩ prog_9_method_7_code 3 (Option.none : Option FieldType) ∈ eT := eT_of (in_4 _ (List.mem_of_getElem? (i := 9) rfl)) rfl
set_option maxRecDepth 100000 in
theorem tw_801 : Cond.methodLink "ControlledStation" 388 ⟨"ControlledStation", "clockOrderCame", "(J)V"⟩ ∈ eT := eT_of (in_4 _ (List.mem_of_getElem? (i := 10) rfl)) rfl
set_option maxRecDepth 100000 in
theorem tw_803 : Cond.instanceMethod ⟨"ControlledStation", "clockOrderCame", "(J)V"⟩ ∈ eT := eT_of (in_4 _ (List.mem_of_getElem? (i := 12) rfl)) rfl
set_option maxRecDepth 100000 in
theorem tw_804 : Cond.code ⟨"ControlledStation", "clockOrderCame", "(J)V"⟩ prog_1_method_45_code 3 (Option.none : Option FieldType) ∈ eT := eT_of (in_4 _ (List.mem_of_getElem? (i := 13) rfl)) rfl
set_option maxRecDepth 100000 in
theorem tw_805 : Cond.methodLink "ControlledStation" 477 ⟨"ControlledStation$Calendar", "isTime", "(J)Z"⟩ ∈ eT := eT_of (in_4 _ (List.mem_of_getElem? (i := 14) rfl)) rfl
set_option maxRecDepth 100000 in
theorem tw_806 : Cond.static ⟨"ControlledStation$Calendar", "isTime", "(J)Z"⟩ ∈ eT := eT_of (in_4 _ (List.mem_of_getElem? (i := 15) rfl)) rfl
set_option maxRecDepth 100000 in
theorem tw_807 : Cond.code ⟨"ControlledStation$Calendar", "isTime", "(J)Z"⟩ prog_3_method_5_code 5 (Option.some FieldType.boolean) ∈ eT := eT_of (in_4 _ (List.mem_of_getElem? (i := 16) rfl)) rfl
set_option maxRecDepth 100000 in
theorem tw_808 : Cond.constantLong "ControlledStation$Calendar" 40 (65535 : Int64) ∈ eT := eT_of (in_4 _ (List.mem_of_getElem? (i := 17) rfl)) rfl
set_option maxRecDepth 100000 in
theorem tw_809 : Cond.constantLong "ControlledStation$Calendar" 42 (60000 : Int64) ∈ eT := eT_of (in_4 _ (List.mem_of_getElem? (i := 18) rfl)) rfl
set_option maxRecDepth 100000 in
theorem tw_810 : Cond.constantLong "ControlledStation$Calendar" 44 (255 : Int64) ∈ eT := eT_of (in_4 _ (List.mem_of_getElem? (i := 19) rfl)) rfl
set_option maxRecDepth 100000 in
theorem tw_811 : Cond.constantLong "ControlledStation$Calendar" 46 (60 : Int64) ∈ eT := eT_of (in_4 _ (List.mem_of_getElem? (i := 20) rfl)) rfl
set_option maxRecDepth 100000 in
theorem tw_812 : Cond.constantLong "ControlledStation$Calendar" 48 (24 : Int64) ∈ eT := eT_of (in_4 _ (List.mem_of_getElem? (i := 21) rfl)) rfl
set_option maxRecDepth 100000 in
theorem tw_813 : Cond.methodLink "ControlledStation$Calendar" 31 ⟨"ControlledStation$Calendar", "daysOf", "(II)I"⟩ ∈ eT := eT_of (in_4 _ (List.mem_of_getElem? (i := 22) rfl)) rfl
set_option maxRecDepth 100000 in
theorem tw_814 : Cond.static ⟨"ControlledStation$Calendar", "daysOf", "(II)I"⟩ ∈ eT := eT_of (in_4 _ (List.mem_of_getElem? (i := 23) rfl)) rfl
set_option maxRecDepth 100000 in
theorem tw_815 : Cond.code ⟨"ControlledStation$Calendar", "daysOf", "(II)I"⟩ prog_3_method_6_code 2 (Option.some FieldType.int) ∈ eT := eT_of (in_4 _ (List.mem_of_getElem? (i := 24) rfl)) rfl
set_option maxRecDepth 100000 in
theorem tw_816 : Cond.fieldLinkNest "ControlledStation$Calendar" 50 "ControlledStation" "DAYS" "[I" "ControlledStation" ∈ eN := eN_of (in_4 _ (List.mem_of_getElem? (i := 25) rfl)) rfl
set_option maxRecDepth 100000 in
theorem tw_818 : Cond.methodLink "ControlledStation" 481 ⟨"ControlledStation$Calendar", "become", "(J)V"⟩ ∈ eT := eT_of (in_4 _ (List.mem_of_getElem? (i := 27) rfl)) rfl
set_option maxRecDepth 100000 in
theorem tw_819 : Cond.instanceMethod ⟨"ControlledStation$Calendar", "become", "(J)V"⟩ ∈ eT := eT_of (in_4 _ (List.mem_of_getElem? (i := 28) rfl)) rfl
set_option maxRecDepth 100000 in
theorem tw_820 : Cond.selects "ControlledStation$Calendar" ⟨"ControlledStation$Calendar", "become", "(J)V"⟩ ⟨"ControlledStation$Calendar", "become", "(J)V"⟩ ∈ eT := eT_of (in_4 _ (List.mem_of_getElem? (i := 29) rfl)) rfl
set_option maxRecDepth 100000 in
theorem tw_821 : Cond.code ⟨"ControlledStation$Calendar", "become", "(J)V"⟩ prog_3_method_4_code 3 (Option.none : Option FieldType) ∈ eT := eT_of (in_4 _ (List.mem_of_getElem? (i := 30) rfl)) rfl
set_option maxRecDepth 100000 in
theorem tw_822 : Cond.constant "ControlledStation$Calendar" 39 (65535 : Int32) ∈ eT := eT_of (in_4 _ (List.mem_of_getElem? (i := 31) rfl)) rfl
set_option maxRecDepth 100000 in
theorem tw_823 : Cond.constantLong "ControlledStation" 392 (21930 : Int64) ∈ eT := eT_of (in_4 _ (List.mem_of_getElem? (i := 32) rfl)) rfl
set_option maxRecDepth 100000 in
theorem tw_824 : Cond.methodLink "ControlledStation" 394 ⟨"ControlledStation", "commandCame", "(LControlledStation$Command;I)V"⟩ ∈ eT := eT_of (in_4 _ (List.mem_of_getElem? (i := 33) rfl)) rfl
set_option maxRecDepth 100000 in
theorem tw_826 : Cond.instanceMethod ⟨"ControlledStation", "commandCame", "(LControlledStation$Command;I)V"⟩ ∈ eT := eT_of (in_4 _ (List.mem_of_getElem? (i := 35) rfl)) rfl
set_option maxRecDepth 100000 in
theorem tw_827 : Cond.code ⟨"ControlledStation", "commandCame", "(LControlledStation$Command;I)V"⟩ prog_1_method_37_code 7 (Option.none : Option FieldType) ∈ eT := eT_of (in_4 _ (List.mem_of_getElem? (i := 36) rfl)) rfl
set_option maxRecDepth 100000 in
theorem tw_828 : Cond.methodLink "ControlledStation" 211 ⟨"ControlledStation$Selection", "isOf", "(LControlledStation$Command;)Z"⟩ ∈ eT := eT_of (in_4 _ (List.mem_of_getElem? (i := 37) rfl)) rfl
set_option maxRecDepth 100000 in
theorem tw_829 : Cond.instanceMethod ⟨"ControlledStation$Selection", "isOf", "(LControlledStation$Command;)Z"⟩ ∈ eT := eT_of (in_4 _ (List.mem_of_getElem? (i := 38) rfl)) rfl
set_option maxRecDepth 100000 in
theorem tw_830 : Cond.selects "ControlledStation$Selection" ⟨"ControlledStation$Selection", "isOf", "(LControlledStation$Command;)Z"⟩ ⟨"ControlledStation$Selection", "isOf", "(LControlledStation$Command;)Z"⟩ ∈ eT := eT_of (in_4 _ (List.mem_of_getElem? (i := 39) rfl)) rfl
set_option maxRecDepth 100000 in
theorem tw_831 : Cond.code ⟨"ControlledStation$Selection", "isOf", "(LControlledStation$Command;)Z"⟩ prog_11_method_5_code 2 (Option.some FieldType.boolean) ∈ eT := eT_of (in_4 _ (List.mem_of_getElem? (i := 40) rfl)) rfl
set_option maxRecDepth 100000 in
theorem tw_832 : Cond.fieldLink "ControlledStation" 419 "ControlledStation" "COMMAND_BYTES" "[I" ∈ eT := eT_of (in_4 _ (List.mem_of_getElem? (i := 41) rfl)) rfl
set_option maxRecDepth 100000 in
theorem tw_834 : Cond.methodLink "ControlledStation" 422 ⟨"ControlledStation$Command", "isOrder", "(I)Z"⟩ ∈ eT := eT_of (in_4 _ (List.mem_of_getElem? (i := 43) rfl)) rfl
set_option maxRecDepth 100000 in
theorem tw_835 : Cond.instanceMethod ⟨"ControlledStation$Command", "isOrder", "(I)Z"⟩ ∈ eT := eT_of (in_4 _ (List.mem_of_getElem? (i := 44) rfl)) rfl
set_option maxRecDepth 100000 in
theorem tw_836 : Cond.selects "ControlledStation$Command" ⟨"ControlledStation$Command", "isOrder", "(I)Z"⟩ ⟨"ControlledStation$Command", "isOrder", "(I)Z"⟩ ∈ eT := eT_of (in_4 _ (List.mem_of_getElem? (i := 45) rfl)) rfl
set_option maxRecDepth 100000 in
theorem tw_837 : Cond.code ⟨"ControlledStation$Command", "isOrder", "(I)Z"⟩ prog_4_method_2_code 2 (Option.some FieldType.boolean) ∈ eT := eT_of (in_4 _ (List.mem_of_getElem? (i := 46) rfl)) rfl
set_option maxRecDepth 100000 in
theorem tw_838 : Cond.methodLink "ControlledStation" 425 ⟨"ControlledStation", "selectCame", "(LControlledStation$Command;IZ)V"⟩ ∈ eT := eT_of (in_4 _ (List.mem_of_getElem? (i := 47) rfl)) rfl
set_option maxRecDepth 100000 in
theorem tw_840 : Cond.instanceMethod ⟨"ControlledStation", "selectCame", "(LControlledStation$Command;IZ)V"⟩ ∈ eT := eT_of (in_4 _ (List.mem_of_getElem? (i := 49) rfl)) rfl
set_option maxRecDepth 100000 in
theorem tw_841 : Cond.code ⟨"ControlledStation", "selectCame", "(LControlledStation$Command;IZ)V"⟩ prog_1_method_38_code 4 (Option.none : Option FieldType) ∈ eT := eT_of (in_4 _ (List.mem_of_getElem? (i := 50) rfl)) rfl
set_option maxRecDepth 100000 in
theorem tw_842 : Cond.methodLink "ControlledStation" 439 ⟨"ControlledStation$Selection", "isOfSome", "()Z"⟩ ∈ eT := eT_of (in_4 _ (List.mem_of_getElem? (i := 51) rfl)) rfl
set_option maxRecDepth 100000 in
theorem tw_843 : Cond.instanceMethod ⟨"ControlledStation$Selection", "isOfSome", "()Z"⟩ ∈ eT := eT_of (in_4 _ (List.mem_of_getElem? (i := 52) rfl)) rfl
set_option maxRecDepth 100000 in
theorem tw_844 : Cond.selects "ControlledStation$Selection" ⟨"ControlledStation$Selection", "isOfSome", "()Z"⟩ ⟨"ControlledStation$Selection", "isOfSome", "()Z"⟩ ∈ eT := eT_of (in_4 _ (List.mem_of_getElem? (i := 53) rfl)) rfl
set_option maxRecDepth 100000 in
theorem tw_845 : Cond.code ⟨"ControlledStation$Selection", "isOfSome", "()Z"⟩ prog_11_method_4_code 1 (Option.some FieldType.boolean) ∈ eT := eT_of (in_4 _ (List.mem_of_getElem? (i := 54) rfl)) rfl
set_option maxRecDepth 100000 in
theorem tw_846 : Cond.methodLink "ControlledStation" 445 ⟨"ControlledStation$Selection", "begin", "(LControlledStation$Command;III)V"⟩ ∈ eT := eT_of (in_4 _ (List.mem_of_getElem? (i := 55) rfl)) rfl
set_option maxRecDepth 100000 in
theorem tw_847 : Cond.instanceMethod ⟨"ControlledStation$Selection", "begin", "(LControlledStation$Command;III)V"⟩ ∈ eT := eT_of (in_4 _ (List.mem_of_getElem? (i := 56) rfl)) rfl
set_option maxRecDepth 100000 in
theorem tw_848 : Cond.selects "ControlledStation$Selection" ⟨"ControlledStation$Selection", "begin", "(LControlledStation$Command;III)V"⟩ ⟨"ControlledStation$Selection", "begin", "(LControlledStation$Command;III)V"⟩ ∈ eT := eT_of (in_4 _ (List.mem_of_getElem? (i := 57) rfl)) rfl
set_option maxRecDepth 100000 in
theorem tw_849 : Cond.code ⟨"ControlledStation$Selection", "begin", "(LControlledStation$Command;III)V"⟩ prog_11_method_2_code 5 (Option.none : Option FieldType) ∈ eT := eT_of (in_4 _ (List.mem_of_getElem? (i := 58) rfl)) rfl
set_option maxRecDepth 100000 in
theorem tw_850 : Cond.methodLink "ControlledStation" 432 ⟨"ControlledStation", "endSelection", "(LControlledStation$Command;IZ)Z"⟩ ∈ eT := eT_of (in_4 _ (List.mem_of_getElem? (i := 59) rfl)) rfl
set_option maxRecDepth 100000 in
theorem tw_852 : Cond.instanceMethod ⟨"ControlledStation", "endSelection", "(LControlledStation$Command;IZ)Z"⟩ ∈ eT := eT_of (in_4 _ (List.mem_of_getElem? (i := 61) rfl)) rfl
set_option maxRecDepth 100000 in
theorem tw_853 : Cond.code ⟨"ControlledStation", "endSelection", "(LControlledStation$Command;IZ)Z"⟩ prog_1_method_39_code 5 (Option.some FieldType.boolean) ∈ eT := eT_of (in_4 _ (List.mem_of_getElem? (i := 62) rfl)) rfl
set_option maxRecDepth 100000 in
theorem tw_854 : Cond.methodLink "ControlledStation" 436 ⟨"ControlledStation", "carryOut", "(LControlledStation$Command;IZ)V"⟩ ∈ eT := eT_of (in_4 _ (List.mem_of_getElem? (i := 63) rfl)) rfl
set_option maxRecDepth 100000 in
theorem tw_856 : Cond.instanceMethod ⟨"ControlledStation", "carryOut", "(LControlledStation$Command;IZ)V"⟩ ∈ eT := eT_of (in_4 _ (List.mem_of_getElem? (i := 65) rfl)) rfl
set_option maxRecDepth 100000 in
theorem tw_857 : Cond.code ⟨"ControlledStation", "carryOut", "(LControlledStation$Command;IZ)V"⟩ prog_1_method_40_code 5 (Option.none : Option FieldType) ∈ eT := eT_of (in_4 _ (List.mem_of_getElem? (i := 66) rfl)) rfl
set_option maxRecDepth 100000 in
theorem tw_858 : Cond.methodLink "ControlledStation" 458 ⟨"ControlledStation$Command", "valueOf", "(I)I"⟩ ∈ eT := eT_of (in_4 _ (List.mem_of_getElem? (i := 67) rfl)) rfl
set_option maxRecDepth 100000 in
theorem tw_859 : Cond.instanceMethod ⟨"ControlledStation$Command", "valueOf", "(I)I"⟩ ∈ eT := eT_of (in_4 _ (List.mem_of_getElem? (i := 68) rfl)) rfl
set_option maxRecDepth 100000 in
theorem tw_860 : Cond.selects "ControlledStation$Command" ⟨"ControlledStation$Command", "valueOf", "(I)I"⟩ ⟨"ControlledStation$Command", "valueOf", "(I)I"⟩ ∈ eT := eT_of (in_4 _ (List.mem_of_getElem? (i := 69) rfl)) rfl
set_option maxRecDepth 100000 in
theorem tw_861 : Cond.code ⟨"ControlledStation$Command", "valueOf", "(I)I"⟩ prog_4_method_3_code 2 (Option.some FieldType.int) ∈ eT := eT_of (in_4 _ (List.mem_of_getElem? (i := 70) rfl)) rfl
set_option maxRecDepth 100000 in
theorem tw_862 : Cond.methodLink "ControlledStation" 181 ⟨"ControlledStation", "behindFrame", "()V"⟩ ∈ eT := eT_of (in_4 _ (List.mem_of_getElem? (i := 71) rfl)) rfl
set_option maxRecDepth 100000 in
theorem tw_864 : Cond.instanceMethod ⟨"ControlledStation", "behindFrame", "()V"⟩ ∈ eT := eT_of (in_4 _ (List.mem_of_getElem? (i := 73) rfl)) rfl
set_option maxRecDepth 100000 in
theorem tw_865 : Cond.code ⟨"ControlledStation", "behindFrame", "()V"⟩ prog_1_method_27_code 1 (Option.none : Option FieldType) ∈ eT := eT_of (in_4 _ (List.mem_of_getElem? (i := 74) rfl)) rfl
set_option maxRecDepth 100000 in
theorem tw_866 : Cond.methodLink "ControlledStationLaw" 48 ⟨"ControlledStation", "tick", "(I)I"⟩ ∈ eT := eT_of (in_4 _ (List.mem_of_getElem? (i := 75) rfl)) rfl
set_option maxRecDepth 100000 in
theorem tw_867 : Cond.instanceMethod ⟨"ControlledStation", "tick", "(I)I"⟩ ∈ eT := eT_of (in_4 _ (List.mem_of_getElem? (i := 76) rfl)) rfl
set_option maxRecDepth 100000 in
theorem tw_868 : Cond.selects "ControlledStation" ⟨"ControlledStation", "tick", "(I)I"⟩ ⟨"ControlledStation", "tick", "(I)I"⟩ ∈ eT := eT_of (in_4 _ (List.mem_of_getElem? (i := 77) rfl)) rfl
set_option maxRecDepth 100000 in
theorem tw_869 : Cond.code ⟨"ControlledStation", "tick", "(I)I"⟩ prog_1_method_9_code 3 (Option.some FieldType.int) ∈ eT := eT_of (in_4 _ (List.mem_of_getElem? (i := 78) rfl)) rfl
set_option maxRecDepth 100000 in
theorem tw_870 : Cond.methodLink "ControlledStation" 184 ⟨"ControlledStation$Calendar", "goOn", "()V"⟩ ∈ eT := eT_of (in_4 _ (List.mem_of_getElem? (i := 79) rfl)) rfl
set_option maxRecDepth 100000 in
theorem tw_871 : Cond.instanceMethod ⟨"ControlledStation$Calendar", "goOn", "()V"⟩ ∈ eT := eT_of (in_4 _ (List.mem_of_getElem? (i := 80) rfl)) rfl
set_option maxRecDepth 100000 in
theorem tw_872 : Cond.selects "ControlledStation$Calendar" ⟨"ControlledStation$Calendar", "goOn", "()V"⟩ ⟨"ControlledStation$Calendar", "goOn", "()V"⟩ ∈ eT := eT_of (in_4 _ (List.mem_of_getElem? (i := 81) rfl)) rfl
set_option maxRecDepth 100000 in
theorem tw_873 : Cond.code ⟨"ControlledStation$Calendar", "goOn", "()V"⟩ prog_3_method_2_code 1 (Option.none : Option FieldType) ∈ eT := eT_of (in_4 _ (List.mem_of_getElem? (i := 82) rfl)) rfl
set_option maxRecDepth 100000 in
theorem tw_874 : Cond.constant "ControlledStation$Calendar" 21 (60000 : Int32) ∈ eT := eT_of (in_4 _ (List.mem_of_getElem? (i := 83) rfl)) rfl
set_option maxRecDepth 100000 in
theorem tw_875 : Cond.methodLink "ControlledStation" 187 ⟨"ControlledStation", "runTimers", "()V"⟩ ∈ eT := eT_of (in_4 _ (List.mem_of_getElem? (i := 84) rfl)) rfl
set_option maxRecDepth 100000 in
theorem tw_877 : Cond.instanceMethod ⟨"ControlledStation", "runTimers", "()V"⟩ ∈ eT := eT_of (in_4 _ (List.mem_of_getElem? (i := 86) rfl)) rfl
set_option maxRecDepth 100000 in
theorem tw_878 : Cond.code ⟨"ControlledStation", "runTimers", "()V"⟩ prog_1_method_19_code 3 (Option.none : Option FieldType) ∈ eT := eT_of (in_4 _ (List.mem_of_getElem? (i := 87) rfl)) rfl
set_option maxRecDepth 100000 in
theorem tw_879 : Cond.methodLink "ControlledStation" 284 ⟨"ControlledStation$SentFrames", "eldestAt", "()I"⟩ ∈ eT := eT_of (in_4 _ (List.mem_of_getElem? (i := 88) rfl)) rfl
set_option maxRecDepth 100000 in
theorem tw_880 : Cond.instanceMethod ⟨"ControlledStation$SentFrames", "eldestAt", "()I"⟩ ∈ eT := eT_of (in_4 _ (List.mem_of_getElem? (i := 89) rfl)) rfl
set_option maxRecDepth 100000 in
theorem tw_881 : Cond.selects "ControlledStation$SentFrames" ⟨"ControlledStation$SentFrames", "eldestAt", "()I"⟩ ⟨"ControlledStation$SentFrames", "eldestAt", "()I"⟩ ∈ eT := eT_of (in_4 _ (List.mem_of_getElem? (i := 90) rfl)) rfl
set_option maxRecDepth 100000 in
theorem tw_882 : Cond.code ⟨"ControlledStation$SentFrames", "eldestAt", "()I"⟩ prog_12_method_5_code 1 (Option.some FieldType.int) ∈ eT := eT_of (in_4 _ (List.mem_of_getElem? (i := 91) rfl)) rfl
set_option maxRecDepth 100000 in
theorem tw_883 : Cond.methodLink "ControlledStation" 287 ⟨"ControlledStation", "isOver", "(II)Z"⟩ ∈ eT := eT_of (in_4 _ (List.mem_of_getElem? (i := 92) rfl)) rfl
set_option maxRecDepth 100000 in
theorem tw_885 : Cond.instanceMethod ⟨"ControlledStation", "isOver", "(II)Z"⟩ ∈ eT := eT_of (in_4 _ (List.mem_of_getElem? (i := 94) rfl)) rfl
set_option maxRecDepth 100000 in
theorem tw_886 : Cond.code ⟨"ControlledStation", "isOver", "(II)Z"⟩ prog_1_method_20_code 3 (Option.some FieldType.boolean) ∈ eT := eT_of (in_4 _ (List.mem_of_getElem? (i := 95) rfl)) rfl
set_option maxRecDepth 100000 in
theorem tw_887 : Cond.methodLink "ControlledStation" 299 ⟨"ControlledStation", "sendTest", "()V"⟩ ∈ eT := eT_of (in_4 _ (List.mem_of_getElem? (i := 96) rfl)) rfl
set_option maxRecDepth 100000 in
theorem tw_889 : Cond.instanceMethod ⟨"ControlledStation", "sendTest", "()V"⟩ ∈ eT := eT_of (in_4 _ (List.mem_of_getElem? (i := 98) rfl)) rfl
set_option maxRecDepth 100000 in
theorem tw_890 : Cond.code ⟨"ControlledStation", "sendTest", "()V"⟩ prog_1_method_21_code 1 (Option.none : Option FieldType) ∈ eT := eT_of (in_4 _ (List.mem_of_getElem? (i := 99) rfl)) rfl
set_option maxRecDepth 100000 in
theorem tw_891 : Cond.methodLink "ControlledStation" 302 ⟨"ControlledStation$Selection", "goOn", "()V"⟩ ∈ eT := eT_of (in_4 _ (List.mem_of_getElem? (i := 100) rfl)) rfl
set_option maxRecDepth 100000 in
theorem tw_892 : Cond.instanceMethod ⟨"ControlledStation$Selection", "goOn", "()V"⟩ ∈ eT := eT_of (in_4 _ (List.mem_of_getElem? (i := 101) rfl)) rfl
set_option maxRecDepth 100000 in
theorem tw_893 : Cond.selects "ControlledStation$Selection" ⟨"ControlledStation$Selection", "goOn", "()V"⟩ ⟨"ControlledStation$Selection", "goOn", "()V"⟩ ∈ eT := eT_of (in_4 _ (List.mem_of_getElem? (i := 102) rfl)) rfl
set_option maxRecDepth 100000 in
theorem tw_894 : Cond.code ⟨"ControlledStation$Selection", "goOn", "()V"⟩ prog_11_method_6_code 1 (Option.none : Option FieldType) ∈ eT := eT_of (in_4 _ (List.mem_of_getElem? (i := 103) rfl)) rfl
set_option maxRecDepth 100000 in
theorem tw_895 : Cond.methodLink "ControlledStationLaw" 53 ⟨"ControlledStation", "out", "(I)I"⟩ ∈ eT := eT_of (in_4 _ (List.mem_of_getElem? (i := 104) rfl)) rfl
set_option maxRecDepth 100000 in
theorem tw_896 : Cond.instanceMethod ⟨"ControlledStation", "out", "(I)I"⟩ ∈ eT := eT_of (in_4 _ (List.mem_of_getElem? (i := 105) rfl)) rfl
set_option maxRecDepth 100000 in
theorem tw_897 : Cond.selects "ControlledStation" ⟨"ControlledStation", "out", "(I)I"⟩ ⟨"ControlledStation", "out", "(I)I"⟩ ∈ eT := eT_of (in_4 _ (List.mem_of_getElem? (i := 106) rfl)) rfl
set_option maxRecDepth 100000 in
theorem tw_898 : Cond.code ⟨"ControlledStation", "out", "(I)I"⟩ prog_1_method_10_code 2 (Option.some FieldType.int) ∈ eT := eT_of (in_4 _ (List.mem_of_getElem? (i := 107) rfl)) rfl
set_option maxRecDepth 100000 in
theorem tw_899 : Cond.methodLink "ControlledStation" 193 ⟨"ControlledStation$OutBytes", "at", "(I)I"⟩ ∈ eT := eT_of (in_4 _ (List.mem_of_getElem? (i := 108) rfl)) rfl
set_option maxRecDepth 100000 in
theorem tw_900 : Cond.instanceMethod ⟨"ControlledStation$OutBytes", "at", "(I)I"⟩ ∈ eT := eT_of (in_4 _ (List.mem_of_getElem? (i := 109) rfl)) rfl
set_option maxRecDepth 100000 in
theorem tw_901 : Cond.selects "ControlledStation$OutBytes" ⟨"ControlledStation$OutBytes", "at", "(I)I"⟩ ⟨"ControlledStation$OutBytes", "at", "(I)I"⟩ ∈ eT := eT_of (in_4 _ (List.mem_of_getElem? (i := 110) rfl)) rfl
set_option maxRecDepth 100000 in
theorem tw_902 : Cond.code ⟨"ControlledStation$OutBytes", "at", "(I)I"⟩ prog_7_method_4_code 2 (Option.some FieldType.int) ∈ eT := eT_of (in_4 _ (List.mem_of_getElem? (i := 111) rfl)) rfl
set_option maxRecDepth 100000 in
theorem tw_903 : Cond.methodLink "ControlledStationLaw" 57 ⟨"ControlledStation", "take", "(I)I"⟩ ∈ eT := eT_of (in_4 _ (List.mem_of_getElem? (i := 112) rfl)) rfl
set_option maxRecDepth 100000 in
theorem tw_904 : Cond.instanceMethod ⟨"ControlledStation", "take", "(I)I"⟩ ∈ eT := eT_of (in_4 _ (List.mem_of_getElem? (i := 113) rfl)) rfl
set_option maxRecDepth 100000 in
theorem tw_905 : Cond.selects "ControlledStation" ⟨"ControlledStation", "take", "(I)I"⟩ ⟨"ControlledStation", "take", "(I)I"⟩ ∈ eT := eT_of (in_4 _ (List.mem_of_getElem? (i := 114) rfl)) rfl
set_option maxRecDepth 100000 in
theorem tw_906 : Cond.code ⟨"ControlledStation", "take", "(I)I"⟩ prog_1_method_11_code 2 (Option.some FieldType.int) ∈ eT := eT_of (in_4 _ (List.mem_of_getElem? (i := 115) rfl)) rfl
set_option maxRecDepth 100000 in
theorem tw_907 : Cond.methodLink "ControlledStation" 195 ⟨"ControlledStation$OutBytes", "dropFirst", "(I)V"⟩ ∈ eT := eT_of (in_4 _ (List.mem_of_getElem? (i := 116) rfl)) rfl
set_option maxRecDepth 100000 in
theorem tw_908 : Cond.instanceMethod ⟨"ControlledStation$OutBytes", "dropFirst", "(I)V"⟩ ∈ eT := eT_of (in_4 _ (List.mem_of_getElem? (i := 117) rfl)) rfl
set_option maxRecDepth 100000 in
theorem tw_909 : Cond.selects "ControlledStation$OutBytes" ⟨"ControlledStation$OutBytes", "dropFirst", "(I)V"⟩ ⟨"ControlledStation$OutBytes", "dropFirst", "(I)V"⟩ ∈ eT := eT_of (in_4 _ (List.mem_of_getElem? (i := 118) rfl)) rfl
set_option maxRecDepth 100000 in
theorem tw_910 : Cond.code ⟨"ControlledStation$OutBytes", "dropFirst", "(I)V"⟩ prog_7_method_5_code 2 (Option.none : Option FieldType) ∈ eT := eT_of (in_4 _ (List.mem_of_getElem? (i := 119) rfl)) rfl
set_option maxRecDepth 100000 in
theorem tw_911 : Cond.methodLink "ControlledStationLaw" 61 ⟨"ControlledStation", "told", "(II)I"⟩ ∈ eT := eT_of (in_4 _ (List.mem_of_getElem? (i := 120) rfl)) rfl
set_option maxRecDepth 100000 in
theorem tw_912 : Cond.instanceMethod ⟨"ControlledStation", "told", "(II)I"⟩ ∈ eT := eT_of (in_4 _ (List.mem_of_getElem? (i := 121) rfl)) rfl
set_option maxRecDepth 100000 in
theorem tw_913 : Cond.selects "ControlledStation" ⟨"ControlledStation", "told", "(II)I"⟩ ⟨"ControlledStation", "told", "(II)I"⟩ ∈ eT := eT_of (in_4 _ (List.mem_of_getElem? (i := 122) rfl)) rfl
set_option maxRecDepth 100000 in
theorem tw_914 : Cond.code ⟨"ControlledStation", "told", "(II)I"⟩ prog_1_method_12_code 4 (Option.some FieldType.int) ∈ eT := eT_of (in_4 _ (List.mem_of_getElem? (i := 123) rfl)) rfl
set_option maxRecDepth 100000 in
theorem tw_915 : Cond.methodLink "ControlledStationLaw" 65 ⟨"ControlledStation", "ordered", "(II)I"⟩ ∈ eT := eT_of (in_4 _ (List.mem_of_getElem? (i := 124) rfl)) rfl
set_option maxRecDepth 100000 in
theorem tw_916 : Cond.instanceMethod ⟨"ControlledStation", "ordered", "(II)I"⟩ ∈ eT := eT_of (in_4 _ (List.mem_of_getElem? (i := 125) rfl)) rfl
set_option maxRecDepth 100000 in
theorem tw_917 : Cond.selects "ControlledStation" ⟨"ControlledStation", "ordered", "(II)I"⟩ ⟨"ControlledStation", "ordered", "(II)I"⟩ ∈ eT := eT_of (in_4 _ (List.mem_of_getElem? (i := 126) rfl)) rfl
set_option maxRecDepth 100000 in
theorem tw_918 : Cond.code ⟨"ControlledStation", "ordered", "(II)I"⟩ prog_1_method_13_code 5 (Option.some FieldType.int) ∈ eT := eT_of (in_4 _ (List.mem_of_getElem? (i := 127) rfl)) rfl
set_option maxRecDepth 100000 in
theorem tw_919 : Cond.methodLink "ControlledStationLaw" 69 ⟨"ControlledStation", "clock", "(I)I"⟩ ∈ eT := eT_of (in_4 _ (List.mem_of_getElem? (i := 128) rfl)) rfl
set_option maxRecDepth 100000 in
theorem tw_920 : Cond.instanceMethod ⟨"ControlledStation", "clock", "(I)I"⟩ ∈ eT := eT_of (in_4 _ (List.mem_of_getElem? (i := 129) rfl)) rfl
set_option maxRecDepth 100000 in
theorem tw_921 : Cond.selects "ControlledStation" ⟨"ControlledStation", "clock", "(I)I"⟩ ⟨"ControlledStation", "clock", "(I)I"⟩ ∈ eT := eT_of (in_4 _ (List.mem_of_getElem? (i := 130) rfl)) rfl
set_option maxRecDepth 100000 in
theorem tw_922 : Cond.code ⟨"ControlledStation", "clock", "(I)I"⟩ prog_1_method_14_code 2 (Option.some FieldType.int) ∈ eT := eT_of (in_4 _ (List.mem_of_getElem? (i := 131) rfl)) rfl
set_option maxRecDepth 100000 in
theorem tw_923 : Cond.methodLink "ControlledStationLaw" 73 ⟨"ControlledStation", "count", "(I)I"⟩ ∈ eT := eT_of (in_4 _ (List.mem_of_getElem? (i := 132) rfl)) rfl
set_option maxRecDepth 100000 in
theorem tw_924 : Cond.instanceMethod ⟨"ControlledStation", "count", "(I)I"⟩ ∈ eT := eT_of (in_4 _ (List.mem_of_getElem? (i := 133) rfl)) rfl
set_option maxRecDepth 100000 in
theorem tw_925 : Cond.selects "ControlledStation" ⟨"ControlledStation", "count", "(I)I"⟩ ⟨"ControlledStation", "count", "(I)I"⟩ ∈ eT := eT_of (in_4 _ (List.mem_of_getElem? (i := 134) rfl)) rfl
set_option maxRecDepth 100000 in
theorem tw_926 : Cond.code ⟨"ControlledStation", "count", "(I)I"⟩ prog_1_method_15_code 2 (Option.some FieldType.int) ∈ eT := eT_of (in_4 _ (List.mem_of_getElem? (i := 135) rfl)) rfl
set_option maxRecDepth 100000 in
theorem tw_927 : Cond.classLink "ControlledStationLaw" 10 "ControlledStationModel" ∈ eT := eT_of (in_4 _ (List.mem_of_getElem? (i := 136) rfl)) rfl
set_option maxRecDepth 100000 in
theorem tw_928 : Cond.instantiable "ControlledStationModel" 55 ∈ eT := eT_of (in_4 _ (List.mem_of_getElem? (i := 137) rfl)) rfl
set_option maxRecDepth 100000 in
theorem tw_929 : Cond.methodLink "ControlledStationLaw" 12 ⟨"ControlledStationModel", "<init>", "()V"⟩ ∈ eT := eT_of (in_4 _ (List.mem_of_getElem? (i := 138) rfl)) rfl
set_option maxRecDepth 100000 in
theorem tw_930 : Cond.instanceMethod ⟨"ControlledStationModel", "<init>", "()V"⟩ ∈ eT := eT_of (in_4 _ (List.mem_of_getElem? (i := 139) rfl)) rfl
set_option maxRecDepth 100000 in
theorem tw_931 : Cond.code ⟨"ControlledStationModel", "<init>", "()V"⟩ prog_14_method_1_code 1 (Option.none : Option FieldType) ∈ eT := eT_of (in_4 _ (List.mem_of_getElem? (i := 140) rfl)) rfl
set_option maxRecDepth 100000 in
theorem tw_932 : Cond.methodLink "ControlledStationModel" 1 ⟨"java/lang/Object", "<init>", "()V"⟩ ∈ eT := eT_of (in_4 _ (List.mem_of_getElem? (i := 141) rfl)) rfl
set_option maxRecDepth 100000 in
theorem tw_933 : Cond.fieldLink "ControlledStationModel" 7 "ControlledStationModel" "setting" "[I" ∈ eT := eT_of (in_4 _ (List.mem_of_getElem? (i := 142) rfl)) rfl
set_option maxRecDepth 100000 in
theorem tw_934 : Cond.fieldLink "ControlledStationModel" 108 "ControlledStationModel" "points" "I" ∈ eT := eT_of (in_4 _ (List.mem_of_getElem? (i := 143) rfl)) rfl
set_option maxRecDepth 100000 in
theorem tw_935 : Cond.fieldLink "ControlledStationModel" 13 "ControlledStationModel" "sort" "[I" ∈ eT := eT_of (in_4 _ (List.mem_of_getElem? (i := 144) rfl)) rfl
set_option maxRecDepth 100000 in
theorem tw_936 : Cond.fieldLink "ControlledStationModel" 16 "ControlledStationModel" "address" "[I" ∈ eT := eT_of (in_4 _ (List.mem_of_getElem? (i := 145) rfl)) rfl
set_option maxRecDepth 100000 in
theorem tw_937 : Cond.fieldLink "ControlledStationModel" 19 "ControlledStationModel" "group" "[I" ∈ eT := eT_of (in_4 _ (List.mem_of_getElem? (i := 146) rfl)) rfl
set_option maxRecDepth 100000 in
theorem tw_938 : Cond.fieldLink "ControlledStationModel" 22 "ControlledStationModel" "timed" "[Z" ∈ eT := eT_of (in_4 _ (List.mem_of_getElem? (i := 147) rfl)) rfl
set_option maxRecDepth 100000 in
theorem tw_939 : Cond.fieldLink "ControlledStationModel" 26 "ControlledStationModel" "value" "[I" ∈ eT := eT_of (in_4 _ (List.mem_of_getElem? (i := 148) rfl)) rfl
set_option maxRecDepth 100000 in
theorem tw_940 : Cond.fieldLink "ControlledStationModel" 29 "ControlledStationModel" "quality" "[I" ∈ eT := eT_of (in_4 _ (List.mem_of_getElem? (i := 149) rfl)) rfl
set_option maxRecDepth 100000 in
theorem tw_941 : Cond.fieldLink "ControlledStationModel" 32 "ControlledStationModel" "frozen" "[I" ∈ eT := eT_of (in_4 _ (List.mem_of_getElem? (i := 150) rfl)) rfl
set_option maxRecDepth 100000 in
theorem tw_942 : Cond.fieldLink "ControlledStationModel" 130 "ControlledStationModel" "commands" "I" ∈ eT := eT_of (in_4 _ (List.mem_of_getElem? (i := 151) rfl)) rfl
set_option maxRecDepth 100000 in
theorem tw_943 : Cond.fieldLink "ControlledStationModel" 35 "ControlledStationModel" "order" "[I" ∈ eT := eT_of (in_4 _ (List.mem_of_getElem? (i := 152) rfl)) rfl
set_option maxRecDepth 100000 in
theorem tw_944 : Cond.fieldLink "ControlledStationModel" 38 "ControlledStationModel" "orderAddress" "[I" ∈ eT := eT_of (in_4 _ (List.mem_of_getElem? (i := 153) rfl)) rfl
set_option maxRecDepth 100000 in
theorem tw_945 : Cond.fieldLink "ControlledStationModel" 41 "ControlledStationModel" "orderPoint" "[I" ∈ eT := eT_of (in_4 _ (List.mem_of_getElem? (i := 154) rfl)) rfl
set_option maxRecDepth 100000 in
theorem tw_946 : Cond.fieldLink "ControlledStationModel" 44 "ControlledStationModel" "mustSelect" "[Z" ∈ eT := eT_of (in_4 _ (List.mem_of_getElem? (i := 155) rfl)) rfl
set_option maxRecDepth 100000 in
theorem tw_947 : Cond.fieldLink "ControlledStationModel" 47 "ControlledStationModel" "carried" "[I" ∈ eT := eT_of (in_4 _ (List.mem_of_getElem? (i := 156) rfl)) rfl
set_option maxRecDepth 100000 in
theorem tw_948 : Cond.fieldLink "ControlledStationModel" 50 "ControlledStationModel" "selected" "I" ∈ eT := eT_of (in_4 _ (List.mem_of_getElem? (i := 157) rfl)) rfl
set_option maxRecDepth 100000 in
theorem tw_949 : Cond.fieldLink "ControlledStationModel" 333 "ControlledStationModel" "selectedAt" "I" ∈ eT := eT_of (in_4 _ (List.mem_of_getElem? (i := 158) rfl)) rfl
set_option maxRecDepth 100000 in
theorem tw_950 : Cond.fieldLink "ControlledStationModel" 336 "ControlledStationModel" "selectedBy" "I" ∈ eT := eT_of (in_4 _ (List.mem_of_getElem? (i := 159) rfl)) rfl
set_option maxRecDepth 100000 in
theorem tw_951 : Cond.fieldLink "ControlledStationModel" 54 "ControlledStationModel" "selectedBytes" "[I" ∈ eT := eT_of (in_4 _ (List.mem_of_getElem? (i := 160) rfl)) rfl
set_option maxRecDepth 100000 in
theorem tw_952 : Cond.fieldLink "ControlledStationModel" 219 "ControlledStationModel" "freezes" "I" ∈ eT := eT_of (in_4 _ (List.mem_of_getElem? (i := 161) rfl)) rfl
set_option maxRecDepth 100000 in
theorem tw_953 : Cond.fieldLink "ControlledStationModel" 209 "ControlledStationModel" "ticks" "I" ∈ eT := eT_of (in_4 _ (List.mem_of_getElem? (i := 162) rfl)) rfl
set_option maxRecDepth 100000 in
theorem tw_954 : Cond.fieldLink "ControlledStationModel" 57 "ControlledStationModel" "clock" "[I" ∈ eT := eT_of (in_4 _ (List.mem_of_getElem? (i := 163) rfl)) rfl
set_option maxRecDepth 100000 in
theorem tw_955 : Cond.fieldLink "ControlledStationModel" 168 "ControlledStationModel" "isSet" "Z" ∈ eT := eT_of (in_4 _ (List.mem_of_getElem? (i := 164) rfl)) rfl
set_option maxRecDepth 100000 in
theorem tw_956 : Cond.fieldLink "ControlledStationModel" 158 "ControlledStationModel" "events" "I" ∈ eT := eT_of (in_4 _ (List.mem_of_getElem? (i := 165) rfl)) rfl
set_option maxRecDepth 100000 in
theorem tw_957 : Cond.fieldLink "ControlledStationModel" 60 "ControlledStationModel" "eventPoint" "[I" ∈ eT := eT_of (in_4 _ (List.mem_of_getElem? (i := 166) rfl)) rfl
set_option maxRecDepth 100000 in
theorem tw_958 : Cond.fieldLink "ControlledStationModel" 63 "ControlledStationModel" "eventValue" "[I" ∈ eT := eT_of (in_4 _ (List.mem_of_getElem? (i := 167) rfl)) rfl
set_option maxRecDepth 100000 in
theorem tw_959 : Cond.fieldLink "ControlledStationModel" 66 "ControlledStationModel" "eventQuality" "[I" ∈ eT := eT_of (in_4 _ (List.mem_of_getElem? (i := 168) rfl)) rfl
set_option maxRecDepth 100000 in
theorem tw_960 : Cond.fieldLink "ControlledStationModel" 69 "ControlledStationModel" "eventTime" "[I" ∈ eT := eT_of (in_4 _ (List.mem_of_getElem? (i := 169) rfl)) rfl
set_option maxRecDepth 100000 in
theorem tw_961 : Cond.fieldLink "ControlledStationModel" 206 "ControlledStationModel" "sentMany" "I" ∈ eT := eT_of (in_4 _ (List.mem_of_getElem? (i := 170) rfl)) rfl
set_option maxRecDepth 100000 in
theorem tw_962 : Cond.fieldLink "ControlledStationModel" 72 "ControlledStationModel" "sentAt" "[I" ∈ eT := eT_of (in_4 _ (List.mem_of_getElem? (i := 171) rfl)) rfl
set_option maxRecDepth 100000 in
theorem tw_963 : Cond.fieldLink "ControlledStationModel" 75 "ControlledStationModel" "sentEvent" "[Z" ∈ eT := eT_of (in_4 _ (List.mem_of_getElem? (i := 172) rfl)) rfl
set_option maxRecDepth 100000 in
theorem tw_964 : Cond.fieldLink "ControlledStationModel" 78 "ControlledStationModel" "sentPoint" "[I" ∈ eT := eT_of (in_4 _ (List.mem_of_getElem? (i := 173) rfl)) rfl
set_option maxRecDepth 100000 in
theorem tw_965 : Cond.fieldLink "ControlledStationModel" 81 "ControlledStationModel" "sentValue" "[I" ∈ eT := eT_of (in_4 _ (List.mem_of_getElem? (i := 174) rfl)) rfl
set_option maxRecDepth 100000 in
theorem tw_966 : Cond.fieldLink "ControlledStationModel" 84 "ControlledStationModel" "sentQuality" "[I" ∈ eT := eT_of (in_4 _ (List.mem_of_getElem? (i := 175) rfl)) rfl
set_option maxRecDepth 100000 in
theorem tw_967 : Cond.fieldLink "ControlledStationModel" 87 "ControlledStationModel" "sentTime" "[I" ∈ eT := eT_of (in_4 _ (List.mem_of_getElem? (i := 176) rfl)) rfl
set_option maxRecDepth 100000 in
theorem tw_968 : Cond.fieldLink "ControlledStationModel" 125 "ControlledStationModel" "link" "I" ∈ eT := eT_of (in_4 _ (List.mem_of_getElem? (i := 177) rfl)) rfl
set_option maxRecDepth 100000 in
theorem tw_969 : Cond.fieldLink "ControlledStationModel" 252 "ControlledStationModel" "reason" "I" ∈ eT := eT_of (in_4 _ (List.mem_of_getElem? (i := 178) rfl)) rfl
set_option maxRecDepth 100000 in
theorem tw_970 : Cond.fieldLink "ControlledStationModel" 200 "ControlledStationModel" "sent" "I" ∈ eT := eT_of (in_4 _ (List.mem_of_getElem? (i := 179) rfl)) rfl
set_option maxRecDepth 100000 in
theorem tw_971 : Cond.fieldLink "ControlledStationModel" 182 "ControlledStationModel" "came" "I" ∈ eT := eT_of (in_4 _ (List.mem_of_getElem? (i := 180) rfl)) rfl
set_option maxRecDepth 100000 in
theorem tw_972 : Cond.fieldLink "ControlledStationModel" 197 "ControlledStationModel" "told" "I" ∈ eT := eT_of (in_4 _ (List.mem_of_getElem? (i := 181) rfl)) rfl
set_option maxRecDepth 100000 in
theorem tw_973 : Cond.fieldLink "ControlledStationModel" 290 "ControlledStationModel" "firstAt" "I" ∈ eT := eT_of (in_4 _ (List.mem_of_getElem? (i := 182) rfl)) rfl
set_option maxRecDepth 100000 in
theorem tw_974 : Cond.fieldLink "ControlledStationModel" 261 "ControlledStationModel" "frameAt" "I" ∈ eT := eT_of (in_4 _ (List.mem_of_getElem? (i := 183) rfl)) rfl
set_option maxRecDepth 100000 in
theorem tw_975 : Cond.fieldLink "ControlledStationModel" 258 "ControlledStationModel" "tests" "Z" ∈ eT := eT_of (in_4 _ (List.mem_of_getElem? (i := 184) rfl)) rfl
set_option maxRecDepth 100000 in
theorem tw_976 : Cond.fieldLink "ControlledStationModel" 369 "ControlledStationModel" "testAt" "I" ∈ eT := eT_of (in_4 _ (List.mem_of_getElem? (i := 185) rfl)) rfl
set_option maxRecDepth 100000 in
theorem tw_977 : Cond.fieldLink "ControlledStationModel" 302 "ControlledStationModel" "passed" "I" ∈ eT := eT_of (in_4 _ (List.mem_of_getElem? (i := 186) rfl)) rfl
set_option maxRecDepth 100000 in
theorem tw_978 : Cond.fieldLink "ControlledStationModel" 222 "ControlledStationModel" "answers" "I" ∈ eT := eT_of (in_4 _ (List.mem_of_getElem? (i := 187) rfl)) rfl
set_option maxRecDepth 100000 in
theorem tw_979 : Cond.fieldLink "ControlledStationModel" 90 "ControlledStationModel" "answerSize" "[I" ∈ eT := eT_of (in_4 _ (List.mem_of_getElem? (i := 188) rfl)) rfl
set_option maxRecDepth 100000 in
theorem tw_980 : Cond.fieldLink "ControlledStationModel" 93 "ControlledStationModel" "answer" "[I" ∈ eT := eT_of (in_4 _ (List.mem_of_getElem? (i := 189) rfl)) rfl
set_option maxRecDepth 100000 in
theorem tw_981 : Cond.fieldLink "ControlledStationModel" 96 "ControlledStationModel" "out" "[I" ∈ eT := eT_of (in_4 _ (List.mem_of_getElem? (i := 190) rfl)) rfl
set_option maxRecDepth 100000 in
theorem tw_982 : Cond.fieldLink "ControlledStationModel" 172 "ControlledStationModel" "outSize" "I" ∈ eT := eT_of (in_4 _ (List.mem_of_getElem? (i := 191) rfl)) rfl
set_option maxRecDepth 100000 in
theorem tw_983 : Cond.fieldLink "ControlledStationModel" 99 "ControlledStationModel" "frame" "[I" ∈ eT := eT_of (in_4 _ (List.mem_of_getElem? (i := 192) rfl)) rfl
set_option maxRecDepth 100000 in
theorem tw_984 : Cond.fieldLink "ControlledStationModel" 255 "ControlledStationModel" "framed" "I" ∈ eT := eT_of (in_4 _ (List.mem_of_getElem? (i := 193) rfl)) rfl
set_option maxRecDepth 100000 in
theorem tw_985 : Cond.fieldLink "ControlledStationModel" 102 "ControlledStationModel" "draft" "[I" ∈ eT := eT_of (in_4 _ (List.mem_of_getElem? (i := 194) rfl)) rfl
set_option maxRecDepth 100000 in
theorem tw_986 : Cond.fieldLink "ControlledStationModel" 203 "ControlledStationModel" "drafted" "I" ∈ eT := eT_of (in_4 _ (List.mem_of_getElem? (i := 195) rfl)) rfl
set_option maxRecDepth 100000 in
theorem tw_987 : Cond.fieldLink "ControlledStationModel" 105 "ControlledStationModel" "row" "[I" ∈ eT := eT_of (in_4 _ (List.mem_of_getElem? (i := 196) rfl)) rfl
set_option maxRecDepth 100000 in
theorem tw_1099 : Cond.methodLink "ControlledStationLaw" 17 ⟨"ControlledStationModel", "set", "(II)I"⟩ ∈ eT := eT_of (in_5 _ (List.mem_of_getElem? (i := 68) rfl)) rfl
set_option maxRecDepth 100000 in
theorem tw_1100 : Cond.instanceMethod ⟨"ControlledStationModel", "set", "(II)I"⟩ ∈ eT := eT_of (in_5 _ (List.mem_of_getElem? (i := 69) rfl)) rfl
set_option maxRecDepth 100000 in
theorem tw_1101 : Cond.selects "ControlledStationModel" ⟨"ControlledStationModel", "set", "(II)I"⟩ ⟨"ControlledStationModel", "set", "(II)I"⟩ ∈ eT := eT_of (in_5 _ (List.mem_of_getElem? (i := 70) rfl)) rfl
set_option maxRecDepth 100000 in
theorem tw_1102 : Cond.code ⟨"ControlledStationModel", "set", "(II)I"⟩ prog_14_method_5_code 5 (Option.some FieldType.int) ∈ eT := eT_of (in_5 _ (List.mem_of_getElem? (i := 71) rfl)) rfl
set_option maxRecDepth 100000 in
theorem tw_1103 : Cond.constantLong "ControlledStationModel" 115 (65534 : Int64) ∈ eT := eT_of (in_5 _ (List.mem_of_getElem? (i := 72) rfl)) rfl
set_option maxRecDepth 100000 in
theorem tw_1104 : Cond.methodLink "ControlledStationModel" 111 ⟨"ControlledStationModel", "in", "(JJJ)Z"⟩ ∈ eT := eT_of (in_5 _ (List.mem_of_getElem? (i := 73) rfl)) rfl
set_option maxRecDepth 100000 in
theorem tw_1105 : Cond.static ⟨"ControlledStationModel", "in", "(JJJ)Z"⟩ ∈ eT := eT_of (in_5 _ (List.mem_of_getElem? (i := 74) rfl)) rfl
set_option maxRecDepth 100000 in
theorem tw_1106 : Cond.code ⟨"ControlledStationModel", "in", "(JJJ)Z"⟩ prog_14_method_3_code 6 (Option.some FieldType.boolean) ∈ eT := eT_of (in_5 _ (List.mem_of_getElem? (i := 75) rfl)) rfl
set_option maxRecDepth 100000 in
theorem tw_1107 : Cond.constantLong "ControlledStationModel" 117 (12 : Int64) ∈ eT := eT_of (in_5 _ (List.mem_of_getElem? (i := 76) rfl)) rfl
set_option maxRecDepth 100000 in
theorem tw_1108 : Cond.constantLong "ControlledStationModel" 119 (3 : Int64) ∈ eT := eT_of (in_5 _ (List.mem_of_getElem? (i := 77) rfl)) rfl
set_option maxRecDepth 100000 in
theorem tw_1109 : Cond.constantLong "ControlledStationModel" 121 (6 : Int64) ∈ eT := eT_of (in_5 _ (List.mem_of_getElem? (i := 78) rfl)) rfl
set_option maxRecDepth 100000 in
theorem tw_1110 : Cond.constantLong "ControlledStationModel" 123 (1000 : Int64) ∈ eT := eT_of (in_5 _ (List.mem_of_getElem? (i := 79) rfl)) rfl
set_option maxRecDepth 100000 in
theorem tw_1111 : Cond.methodLink "ControlledStationLaw" 22 ⟨"ControlledStationModel", "point", "(IIIZ)I"⟩ ∈ eT := eT_of (in_5 _ (List.mem_of_getElem? (i := 80) rfl)) rfl
set_option maxRecDepth 100000 in
theorem tw_1112 : Cond.instanceMethod ⟨"ControlledStationModel", "point", "(IIIZ)I"⟩ ∈ eT := eT_of (in_5 _ (List.mem_of_getElem? (i := 81) rfl)) rfl
set_option maxRecDepth 100000 in
theorem tw_1113 : Cond.selects "ControlledStationModel" ⟨"ControlledStationModel", "point", "(IIIZ)I"⟩ ⟨"ControlledStationModel", "point", "(IIIZ)I"⟩ ∈ eT := eT_of (in_5 _ (List.mem_of_getElem? (i := 82) rfl)) rfl
set_option maxRecDepth 100000 in
theorem tw_1114 : Cond.code ⟨"ControlledStationModel", "point", "(IIIZ)I"⟩ prog_14_method_7_code 5 (Option.some FieldType.int) ∈ eT := eT_of (in_5 _ (List.mem_of_getElem? (i := 83) rfl)) rfl
set_option maxRecDepth 100000 in
theorem tw_1115 : Cond.constantLong "ControlledStationModel" 133 (16 : Int64) ∈ eT := eT_of (in_5 _ (List.mem_of_getElem? (i := 84) rfl)) rfl
set_option maxRecDepth 100000 in
theorem tw_1116 : Cond.methodLink "ControlledStationModel" 135 ⟨"ControlledStationModel", "isFree", "(I)Z"⟩ ∈ eT := eT_of (in_5 _ (List.mem_of_getElem? (i := 85) rfl)) rfl
set_option maxRecDepth 100000 in
theorem tw_1118 : Cond.instanceMethod ⟨"ControlledStationModel", "isFree", "(I)Z"⟩ ∈ eT := eT_of (in_5 _ (List.mem_of_getElem? (i := 87) rfl)) rfl
set_option maxRecDepth 100000 in
theorem tw_1119 : Cond.code ⟨"ControlledStationModel", "isFree", "(I)Z"⟩ prog_14_method_6_code 4 (Option.some FieldType.boolean) ∈ eT := eT_of (in_5 _ (List.mem_of_getElem? (i := 88) rfl)) rfl
set_option maxRecDepth 100000 in
theorem tw_1120 : Cond.constantLong "ControlledStationModel" 128 (16777215 : Int64) ∈ eT := eT_of (in_5 _ (List.mem_of_getElem? (i := 89) rfl)) rfl
set_option maxRecDepth 100000 in
theorem tw_1121 : Cond.methodLink "ControlledStationLaw" 26 ⟨"ControlledStationModel", "command", "(IIIZ)I"⟩ ∈ eT := eT_of (in_5 _ (List.mem_of_getElem? (i := 90) rfl)) rfl
set_option maxRecDepth 100000 in
theorem tw_1122 : Cond.instanceMethod ⟨"ControlledStationModel", "command", "(IIIZ)I"⟩ ∈ eT := eT_of (in_5 _ (List.mem_of_getElem? (i := 91) rfl)) rfl
set_option maxRecDepth 100000 in
theorem tw_1123 : Cond.selects "ControlledStationModel" ⟨"ControlledStationModel", "command", "(IIIZ)I"⟩ ⟨"ControlledStationModel", "command", "(IIIZ)I"⟩ ∈ eT := eT_of (in_5 _ (List.mem_of_getElem? (i := 92) rfl)) rfl
set_option maxRecDepth 100000 in
theorem tw_1124 : Cond.code ⟨"ControlledStationModel", "command", "(IIIZ)I"⟩ prog_14_method_8_code 5 (Option.some FieldType.int) ∈ eT := eT_of (in_5 _ (List.mem_of_getElem? (i := 93) rfl)) rfl
set_option maxRecDepth 100000 in
theorem tw_1125 : Cond.constantLong "ControlledStationModel" 139 (2 : Int64) ∈ eT := eT_of (in_5 _ (List.mem_of_getElem? (i := 94) rfl)) rfl
set_option maxRecDepth 100000 in
theorem tw_1126 : Cond.methodLink "ControlledStationModel" 141 ⟨"ControlledStationModel", "isPoint", "(I)Z"⟩ ∈ eT := eT_of (in_5 _ (List.mem_of_getElem? (i := 95) rfl)) rfl
set_option maxRecDepth 100000 in
theorem tw_1128 : Cond.instanceMethod ⟨"ControlledStationModel", "isPoint", "(I)Z"⟩ ∈ eT := eT_of (in_5 _ (List.mem_of_getElem? (i := 97) rfl)) rfl
set_option maxRecDepth 100000 in
theorem tw_1129 : Cond.code ⟨"ControlledStationModel", "isPoint", "(I)Z"⟩ prog_14_method_4_code 2 (Option.some FieldType.boolean) ∈ eT := eT_of (in_5 _ (List.mem_of_getElem? (i := 98) rfl)) rfl
set_option maxRecDepth 100000 in
theorem tw_1130 : Cond.methodLink "ControlledStationLaw" 31 ⟨"ControlledStationModel", "change", "(III)I"⟩ ∈ eT := eT_of (in_5 _ (List.mem_of_getElem? (i := 99) rfl)) rfl
set_option maxRecDepth 100000 in
theorem tw_1131 : Cond.instanceMethod ⟨"ControlledStationModel", "change", "(III)I"⟩ ∈ eT := eT_of (in_5 _ (List.mem_of_getElem? (i := 100) rfl)) rfl
set_option maxRecDepth 100000 in
theorem tw_1132 : Cond.selects "ControlledStationModel" ⟨"ControlledStationModel", "change", "(III)I"⟩ ⟨"ControlledStationModel", "change", "(III)I"⟩ ∈ eT := eT_of (in_5 _ (List.mem_of_getElem? (i := 101) rfl)) rfl
set_option maxRecDepth 100000 in
theorem tw_1133 : Cond.code ⟨"ControlledStationModel", "change", "(III)I"⟩ prog_14_method_10_code 6 (Option.some FieldType.int) ∈ eT := eT_of (in_5 _ (List.mem_of_getElem? (i := 102) rfl)) rfl
set_option maxRecDepth 100000 in
theorem tw_1134 : Cond.methodLink "ControlledStationModel" 154 ⟨"ControlledStationModel", "isValue", "(II)Z"⟩ ∈ eT := eT_of (in_5 _ (List.mem_of_getElem? (i := 103) rfl)) rfl
set_option maxRecDepth 100000 in
theorem tw_1135 : Cond.static ⟨"ControlledStationModel", "isValue", "(II)Z"⟩ ∈ eT := eT_of (in_5 _ (List.mem_of_getElem? (i := 104) rfl)) rfl
set_option maxRecDepth 100000 in
theorem tw_1136 : Cond.code ⟨"ControlledStationModel", "isValue", "(II)Z"⟩ prog_14_method_9_code 2 (Option.some FieldType.boolean) ∈ eT := eT_of (in_5 _ (List.mem_of_getElem? (i := 105) rfl)) rfl
set_option maxRecDepth 100000 in
theorem tw_1137 : Cond.constantLong "ControlledStationModel" 144 (-64 : Int64) ∈ eT := eT_of (in_5 _ (List.mem_of_getElem? (i := 106) rfl)) rfl
set_option maxRecDepth 100000 in
theorem tw_1138 : Cond.constantLong "ControlledStationModel" 146 (63 : Int64) ∈ eT := eT_of (in_5 _ (List.mem_of_getElem? (i := 107) rfl)) rfl
set_option maxRecDepth 100000 in
theorem tw_1139 : Cond.constantLong "ControlledStationModel" 148 (-32768 : Int64) ∈ eT := eT_of (in_5 _ (List.mem_of_getElem? (i := 108) rfl)) rfl
set_option maxRecDepth 100000 in
theorem tw_1140 : Cond.constantLong "ControlledStationModel" 150 (32767 : Int64) ∈ eT := eT_of (in_5 _ (List.mem_of_getElem? (i := 109) rfl)) rfl
set_option maxRecDepth 100000 in
theorem tw_1141 : Cond.constant "ControlledStationModel" 152 (2147483647 : Int32) ∈ eT := eT_of (in_5 _ (List.mem_of_getElem? (i := 110) rfl)) rfl
set_option maxRecDepth 100000 in
theorem tw_1142 : Cond.constant "ControlledStationModel" 153 (2139095040 : Int32) ∈ eT := eT_of (in_5 _ (List.mem_of_getElem? (i := 111) rfl)) rfl
set_option maxRecDepth 100000 in
theorem tw_1143 : Cond.methodLink "ControlledStationModel" 161 ⟨"ControlledStationModel", "timeByte", "(I)I"⟩ ∈ eT := eT_of (in_5 _ (List.mem_of_getElem? (i := 112) rfl)) rfl
set_option maxRecDepth 100000 in
theorem tw_1145 : Cond.instanceMethod ⟨"ControlledStationModel", "timeByte", "(I)I"⟩ ∈ eT := eT_of (in_5 _ (List.mem_of_getElem? (i := 114) rfl)) rfl
set_option maxRecDepth 100000 in
theorem tw_1146 : Cond.code ⟨"ControlledStationModel", "timeByte", "(I)I"⟩ prog_14_method_11_code 2 (Option.some FieldType.int) ∈ eT := eT_of (in_5 _ (List.mem_of_getElem? (i := 115) rfl)) rfl
set_option maxRecDepth 100000 in
theorem tw_1147 : Cond.methodLink "ControlledStationModel" 165 ⟨"ControlledStationModel", "sends", "()V"⟩ ∈ eT := eT_of (in_5 _ (List.mem_of_getElem? (i := 116) rfl)) rfl
set_option maxRecDepth 100000 in
theorem tw_1149 : Cond.instanceMethod ⟨"ControlledStationModel", "sends", "()V"⟩ ∈ eT := eT_of (in_5 _ (List.mem_of_getElem? (i := 118) rfl)) rfl
set_option maxRecDepth 100000 in
theorem tw_1150 : Cond.code ⟨"ControlledStationModel", "sends", "()V"⟩ prog_14_method_24_code 2 (Option.none : Option FieldType) ∈ eT := eT_of (in_5 _ (List.mem_of_getElem? (i := 119) rfl)) rfl
set_option maxRecDepth 100000 in
theorem tw_1151 : Cond.methodLink "ControlledStationModel" 225 ⟨"ControlledStationModel", "sendsDraft", "()Z"⟩ ∈ eT := eT_of (in_5 _ (List.mem_of_getElem? (i := 120) rfl)) rfl
set_option maxRecDepth 100000 in
theorem tw_1153 : Cond.instanceMethod ⟨"ControlledStationModel", "sendsDraft", "()Z"⟩ ∈ eT := eT_of (in_5 _ (List.mem_of_getElem? (i := 122) rfl)) rfl
set_option maxRecDepth 100000 in
theorem tw_1154 : Cond.code ⟨"ControlledStationModel", "sendsDraft", "()Z"⟩ prog_14_method_17_code 2 (Option.some FieldType.boolean) ∈ eT := eT_of (in_5 _ (List.mem_of_getElem? (i := 123) rfl)) rfl
set_option maxRecDepth 100000 in
theorem tw_1155 : Cond.constant "ControlledStationModel" 185 (32768 : Int32) ∈ eT := eT_of (in_5 _ (List.mem_of_getElem? (i := 124) rfl)) rfl
set_option maxRecDepth 100000 in
theorem tw_1156 : Cond.methodLink "ControlledStationModel" 186 ⟨"ControlledStationModel", "ackLow", "()I"⟩ ∈ eT := eT_of (in_5 _ (List.mem_of_getElem? (i := 125) rfl)) rfl
set_option maxRecDepth 100000 in
theorem tw_1158 : Cond.instanceMethod ⟨"ControlledStationModel", "ackLow", "()I"⟩ ∈ eT := eT_of (in_5 _ (List.mem_of_getElem? (i := 127) rfl)) rfl
set_option maxRecDepth 100000 in
theorem tw_1159 : Cond.code ⟨"ControlledStationModel", "ackLow", "()I"⟩ prog_14_method_14_code 1 (Option.some FieldType.int) ∈ eT := eT_of (in_5 _ (List.mem_of_getElem? (i := 128) rfl)) rfl
set_option maxRecDepth 100000 in
theorem tw_1160 : Cond.methodLink "ControlledStationModel" 190 ⟨"ControlledStationModel", "ackHigh", "()I"⟩ ∈ eT := eT_of (in_5 _ (List.mem_of_getElem? (i := 129) rfl)) rfl
set_option maxRecDepth 100000 in
theorem tw_1162 : Cond.instanceMethod ⟨"ControlledStationModel", "ackHigh", "()I"⟩ ∈ eT := eT_of (in_5 _ (List.mem_of_getElem? (i := 131) rfl)) rfl
set_option maxRecDepth 100000 in
theorem tw_1163 : Cond.code ⟨"ControlledStationModel", "ackHigh", "()I"⟩ prog_14_method_15_code 1 (Option.some FieldType.int) ∈ eT := eT_of (in_5 _ (List.mem_of_getElem? (i := 132) rfl)) rfl
set_option maxRecDepth 100000 in
theorem tw_1164 : Cond.methodLink "ControlledStationModel" 193 ⟨"ControlledStationModel", "frames", "(IIIII)Z"⟩ ∈ eT := eT_of (in_5 _ (List.mem_of_getElem? (i := 133) rfl)) rfl
set_option maxRecDepth 100000 in
theorem tw_1166 : Cond.instanceMethod ⟨"ControlledStationModel", "frames", "(IIIII)Z"⟩ ∈ eT := eT_of (in_5 _ (List.mem_of_getElem? (i := 135) rfl)) rfl
set_option maxRecDepth 100000 in
theorem tw_1167 : Cond.code ⟨"ControlledStationModel", "frames", "(IIIII)Z"⟩ prog_14_method_13_code 7 (Option.some FieldType.boolean) ∈ eT := eT_of (in_5 _ (List.mem_of_getElem? (i := 136) rfl)) rfl
set_option maxRecDepth 100000 in
theorem tw_1168 : Cond.methodLink "ControlledStationModel" 175 ⟨"ControlledStationModel", "closes", "(I)V"⟩ ∈ eT := eT_of (in_5 _ (List.mem_of_getElem? (i := 137) rfl)) rfl
set_option maxRecDepth 100000 in
theorem tw_1170 : Cond.instanceMethod ⟨"ControlledStationModel", "closes", "(I)V"⟩ ∈ eT := eT_of (in_5 _ (List.mem_of_getElem? (i := 139) rfl)) rfl
set_option maxRecDepth 100000 in
theorem tw_1171 : Cond.code ⟨"ControlledStationModel", "closes", "(I)V"⟩ prog_14_method_28_code 4 (Option.none : Option FieldType) ∈ eT := eT_of (in_5 _ (List.mem_of_getElem? (i := 140) rfl)) rfl
set_option maxRecDepth 100000 in
theorem tw_1172 : Cond.methodLink "ControlledStationModel" 249 ⟨"ControlledStationModel", "moveEvent", "(II)V"⟩ ∈ eT := eT_of (in_5 _ (List.mem_of_getElem? (i := 141) rfl)) rfl
set_option maxRecDepth 100000 in
theorem tw_1174 : Cond.instanceMethod ⟨"ControlledStationModel", "moveEvent", "(II)V"⟩ ∈ eT := eT_of (in_5 _ (List.mem_of_getElem? (i := 143) rfl)) rfl
set_option maxRecDepth 100000 in
theorem tw_1175 : Cond.code ⟨"ControlledStationModel", "moveEvent", "(II)V"⟩ prog_14_method_27_code 4 (Option.none : Option FieldType) ∈ eT := eT_of (in_5 _ (List.mem_of_getElem? (i := 144) rfl)) rfl
set_option maxRecDepth 100000 in
theorem tw_1176 : Cond.methodLink "ControlledStationModel" 179 ⟨"ControlledStationModel", "byteOut", "(I)V"⟩ ∈ eT := eT_of (in_5 _ (List.mem_of_getElem? (i := 145) rfl)) rfl
set_option maxRecDepth 100000 in
theorem tw_1178 : Cond.instanceMethod ⟨"ControlledStationModel", "byteOut", "(I)V"⟩ ∈ eT := eT_of (in_5 _ (List.mem_of_getElem? (i := 147) rfl)) rfl
set_option maxRecDepth 100000 in
theorem tw_1179 : Cond.code ⟨"ControlledStationModel", "byteOut", "(I)V"⟩ prog_14_method_12_code 2 (Option.none : Option FieldType) ∈ eT := eT_of (in_5 _ (List.mem_of_getElem? (i := 148) rfl)) rfl
set_option maxRecDepth 100000 in
theorem tw_1180 : Cond.methodLink "ControlledStationModel" 229 ⟨"ControlledStationModel", "firstAnswerGoes", "()V"⟩ ∈ eT := eT_of (in_5 _ (List.mem_of_getElem? (i := 149) rfl)) rfl
set_option maxRecDepth 100000 in
theorem tw_1182 : Cond.instanceMethod ⟨"ControlledStationModel", "firstAnswerGoes", "()V"⟩ ∈ eT := eT_of (in_5 _ (List.mem_of_getElem? (i := 151) rfl)) rfl
set_option maxRecDepth 100000 in
theorem tw_1183 : Cond.code ⟨"ControlledStationModel", "firstAnswerGoes", "()V"⟩ prog_14_method_25_code 3 (Option.none : Option FieldType) ∈ eT := eT_of (in_5 _ (List.mem_of_getElem? (i := 152) rfl)) rfl
set_option maxRecDepth 100000 in
theorem tw_1184 : Cond.methodLink "ControlledStationModel" 232 ⟨"ControlledStationModel", "sendsEvent", "()Z"⟩ ∈ eT := eT_of (in_5 _ (List.mem_of_getElem? (i := 153) rfl)) rfl
set_option maxRecDepth 100000 in
theorem tw_1186 : Cond.instanceMethod ⟨"ControlledStationModel", "sendsEvent", "()Z"⟩ ∈ eT := eT_of (in_5 _ (List.mem_of_getElem? (i := 155) rfl)) rfl
set_option maxRecDepth 100000 in
theorem tw_1187 : Cond.code ⟨"ControlledStationModel", "sendsEvent", "()Z"⟩ prog_14_method_26_code 4 (Option.some FieldType.boolean) ∈ eT := eT_of (in_5 _ (List.mem_of_getElem? (i := 156) rfl)) rfl
set_option maxRecDepth 100000 in
theorem tw_1188 : Cond.methodLink "ControlledStationModel" 235 ⟨"ControlledStationModel", "timedTypeOf", "(I)I"⟩ ∈ eT := eT_of (in_5 _ (List.mem_of_getElem? (i := 157) rfl)) rfl
set_option maxRecDepth 100000 in
theorem tw_1189 : Cond.static ⟨"ControlledStationModel", "timedTypeOf", "(I)I"⟩ ∈ eT := eT_of (in_5 _ (List.mem_of_getElem? (i := 158) rfl)) rfl
set_option maxRecDepth 100000 in
theorem tw_1190 : Cond.code ⟨"ControlledStationModel", "timedTypeOf", "(I)I"⟩ prog_14_method_21_code 1 (Option.some FieldType.int) ∈ eT := eT_of (in_5 _ (List.mem_of_getElem? (i := 159) rfl)) rfl
set_option maxRecDepth 100000 in
theorem tw_1191 : Cond.methodLink "ControlledStationModel" 238 ⟨"ControlledStationModel", "typeOf", "(I)I"⟩ ∈ eT := eT_of (in_5 _ (List.mem_of_getElem? (i := 160) rfl)) rfl
set_option maxRecDepth 100000 in
theorem tw_1192 : Cond.static ⟨"ControlledStationModel", "typeOf", "(I)I"⟩ ∈ eT := eT_of (in_5 _ (List.mem_of_getElem? (i := 161) rfl)) rfl
set_option maxRecDepth 100000 in
theorem tw_1193 : Cond.code ⟨"ControlledStationModel", "typeOf", "(I)I"⟩ prog_14_method_20_code 1 (Option.some FieldType.int) ∈ eT := eT_of (in_5 _ (List.mem_of_getElem? (i := 162) rfl)) rfl
set_option maxRecDepth 100000 in
theorem tw_1194 : Cond.methodLink "ControlledStationModel" 241 ⟨"ControlledStationModel", "head", "(IIII)V"⟩ ∈ eT := eT_of (in_5 _ (List.mem_of_getElem? (i := 163) rfl)) rfl
set_option maxRecDepth 100000 in
theorem tw_1196 : Cond.instanceMethod ⟨"ControlledStationModel", "head", "(IIII)V"⟩ ∈ eT := eT_of (in_5 _ (List.mem_of_getElem? (i := 165) rfl)) rfl
set_option maxRecDepth 100000 in
theorem tw_1197 : Cond.code ⟨"ControlledStationModel", "head", "(IIII)V"⟩ prog_14_method_22_code 5 (Option.none : Option FieldType) ∈ eT := eT_of (in_5 _ (List.mem_of_getElem? (i := 166) rfl)) rfl
set_option maxRecDepth 100000 in
theorem tw_1198 : Cond.methodLink "ControlledStationModel" 212 ⟨"ControlledStationModel", "put", "(I)V"⟩ ∈ eT := eT_of (in_5 _ (List.mem_of_getElem? (i := 167) rfl)) rfl
set_option maxRecDepth 100000 in
theorem tw_1200 : Cond.instanceMethod ⟨"ControlledStationModel", "put", "(I)V"⟩ ∈ eT := eT_of (in_5 _ (List.mem_of_getElem? (i := 169) rfl)) rfl
set_option maxRecDepth 100000 in
theorem tw_1201 : Cond.code ⟨"ControlledStationModel", "put", "(I)V"⟩ prog_14_method_18_code 2 (Option.none : Option FieldType) ∈ eT := eT_of (in_5 _ (List.mem_of_getElem? (i := 170) rfl)) rfl
set_option maxRecDepth 100000 in
theorem tw_1202 : Cond.methodLink "ControlledStationModel" 215 ⟨"ControlledStationModel", "putNumber", "(II)V"⟩ ∈ eT := eT_of (in_5 _ (List.mem_of_getElem? (i := 171) rfl)) rfl
set_option maxRecDepth 100000 in
theorem tw_1204 : Cond.instanceMethod ⟨"ControlledStationModel", "putNumber", "(II)V"⟩ ∈ eT := eT_of (in_5 _ (List.mem_of_getElem? (i := 173) rfl)) rfl
set_option maxRecDepth 100000 in
theorem tw_1205 : Cond.code ⟨"ControlledStationModel", "putNumber", "(II)V"⟩ prog_14_method_19_code 4 (Option.none : Option FieldType) ∈ eT := eT_of (in_5 _ (List.mem_of_getElem? (i := 174) rfl)) rfl
set_option maxRecDepth 100000 in
theorem tw_1206 : Cond.methodLink "ControlledStationModel" 245 ⟨"ControlledStationModel", "object", "(III)V"⟩ ∈ eT := eT_of (in_5 _ (List.mem_of_getElem? (i := 175) rfl)) rfl
set_option maxRecDepth 100000 in
theorem tw_1208 : Cond.instanceMethod ⟨"ControlledStationModel", "object", "(III)V"⟩ ∈ eT := eT_of (in_5 _ (List.mem_of_getElem? (i := 177) rfl)) rfl
set_option maxRecDepth 100000 in
theorem tw_1209 : Cond.code ⟨"ControlledStationModel", "object", "(III)V"⟩ prog_14_method_23_code 6 (Option.none : Option FieldType) ∈ eT := eT_of (in_5 _ (List.mem_of_getElem? (i := 178) rfl)) rfl
set_option maxRecDepth 100000 in
theorem tw_1210 : Cond.methodLink "ControlledStationLaw" 36 ⟨"ControlledStationModel", "open", "()I"⟩ ∈ eT := eT_of (in_5 _ (List.mem_of_getElem? (i := 179) rfl)) rfl
set_option maxRecDepth 100000 in
theorem tw_1211 : Cond.instanceMethod ⟨"ControlledStationModel", "open", "()I"⟩ ∈ eT := eT_of (in_5 _ (List.mem_of_getElem? (i := 180) rfl)) rfl
set_option maxRecDepth 100000 in
theorem tw_1212 : Cond.selects "ControlledStationModel" ⟨"ControlledStationModel", "open", "()I"⟩ ⟨"ControlledStationModel", "open", "()I"⟩ ∈ eT := eT_of (in_5 _ (List.mem_of_getElem? (i := 181) rfl)) rfl
set_option maxRecDepth 100000 in
theorem tw_1213 : Cond.code ⟨"ControlledStationModel", "open", "()I"⟩ prog_14_method_29_code 1 (Option.some FieldType.int) ∈ eT := eT_of (in_5 _ (List.mem_of_getElem? (i := 182) rfl)) rfl
set_option maxRecDepth 100000 in
theorem tw_1214 : Cond.methodLink "ControlledStationLaw" 40 ⟨"ControlledStationModel", "close", "()I"⟩ ∈ eT := eT_of (in_5 _ (List.mem_of_getElem? (i := 183) rfl)) rfl
set_option maxRecDepth 100000 in
theorem tw_1215 : Cond.instanceMethod ⟨"ControlledStationModel", "close", "()I"⟩ ∈ eT := eT_of (in_5 _ (List.mem_of_getElem? (i := 184) rfl)) rfl
set_option maxRecDepth 100000 in
theorem tw_1216 : Cond.selects "ControlledStationModel" ⟨"ControlledStationModel", "close", "()I"⟩ ⟨"ControlledStationModel", "close", "()I"⟩ ∈ eT := eT_of (in_5 _ (List.mem_of_getElem? (i := 185) rfl)) rfl
set_option maxRecDepth 100000 in
theorem tw_1217 : Cond.code ⟨"ControlledStationModel", "close", "()I"⟩ prog_14_method_30_code 1 (Option.some FieldType.int) ∈ eT := eT_of (in_5 _ (List.mem_of_getElem? (i := 186) rfl)) rfl
set_option maxRecDepth 100000 in
theorem tw_1218 : Cond.methodLink "ControlledStationLaw" 47 ⟨"ControlledStationModel", "come", "(IJ)I"⟩ ∈ eT := eT_of (in_5 _ (List.mem_of_getElem? (i := 187) rfl)) rfl
set_option maxRecDepth 100000 in
theorem tw_1219 : Cond.instanceMethod ⟨"ControlledStationModel", "come", "(IJ)I"⟩ ∈ eT := eT_of (in_5 _ (List.mem_of_getElem? (i := 188) rfl)) rfl
set_option maxRecDepth 100000 in
theorem tw_1220 : Cond.selects "ControlledStationModel" ⟨"ControlledStationModel", "come", "(IJ)I"⟩ ⟨"ControlledStationModel", "come", "(IJ)I"⟩ ∈ eT := eT_of (in_5 _ (List.mem_of_getElem? (i := 189) rfl)) rfl
set_option maxRecDepth 100000 in
theorem tw_1221 : Cond.code ⟨"ControlledStationModel", "come", "(IJ)I"⟩ prog_14_method_31_code 6 (Option.some FieldType.int) ∈ eT := eT_of (in_5 _ (List.mem_of_getElem? (i := 190) rfl)) rfl
set_option maxRecDepth 100000 in
theorem tw_1222 : Cond.constantLong "ControlledStationModel" 264 (8 : Int64) ∈ eT := eT_of (in_5 _ (List.mem_of_getElem? (i := 191) rfl)) rfl
set_option maxRecDepth 100000 in
theorem tw_1223 : Cond.constantLong "ControlledStationModel" 266 (255 : Int64) ∈ eT := eT_of (in_5 _ (List.mem_of_getElem? (i := 192) rfl)) rfl
set_option maxRecDepth 100000 in
theorem tw_1224 : Cond.methodLink "ControlledStationModel" 268 ⟨"ControlledStationModel", "canBe", "()Z"⟩ ∈ eT := eT_of (in_5 _ (List.mem_of_getElem? (i := 193) rfl)) rfl
set_option maxRecDepth 100000 in
theorem tw_1226 : Cond.instanceMethod ⟨"ControlledStationModel", "canBe", "()Z"⟩ ∈ eT := eT_of (in_5 _ (List.mem_of_getElem? (i := 195) rfl)) rfl
set_option maxRecDepth 100000 in
theorem tw_1227 : Cond.code ⟨"ControlledStationModel", "canBe", "()Z"⟩ prog_14_method_32_code 4 (Option.some FieldType.boolean) ∈ eT := eT_of (in_5 _ (List.mem_of_getElem? (i := 196) rfl)) rfl
set_option maxRecDepth 100000 in
theorem tw_1228 : Cond.constantLong "ControlledStationModel" 274 (4 : Int64) ∈ eT := eT_of (in_5 _ (List.mem_of_getElem? (i := 197) rfl)) rfl
set_option maxRecDepth 100000 in
theorem tw_1229 : Cond.constantLong "ControlledStationModel" 276 (253 : Int64) ∈ eT := eT_of (in_5 _ (List.mem_of_getElem? (i := 198) rfl)) rfl
set_option maxRecDepth 100000 in
theorem tw_1230 : Cond.methodLink "ControlledStationModel" 271 ⟨"ControlledStationModel", "takes", "()V"⟩ ∈ eT := eT_of (in_5 _ (List.mem_of_getElem? (i := 199) rfl)) rfl
set_option maxRecDepth 100000 in
theorem tw_1232 : Cond.instanceMethod ⟨"ControlledStationModel", "takes", "()V"⟩ ∈ eT := eT_of (in_5 _ (List.mem_of_getElem? (i := 201) rfl)) rfl
set_option maxRecDepth 100000 in
theorem tw_1233 : Cond.code ⟨"ControlledStationModel", "takes", "()V"⟩ prog_14_method_34_code 3 (Option.none : Option FieldType) ∈ eT := eT_of (in_5 _ (List.mem_of_getElem? (i := 202) rfl)) rfl
set_option maxRecDepth 100000 in
theorem tw_1234 : Cond.methodLink "ControlledStationModel" 278 ⟨"ControlledStationModel", "takesData", "()V"⟩ ∈ eT := eT_of (in_5 _ (List.mem_of_getElem? (i := 203) rfl)) rfl
set_option maxRecDepth 100000 in
theorem tw_1236 : Cond.instanceMethod ⟨"ControlledStationModel", "takesData", "()V"⟩ ∈ eT := eT_of (in_5 _ (List.mem_of_getElem? (i := 205) rfl)) rfl
set_option maxRecDepth 100000 in
theorem tw_1237 : Cond.code ⟨"ControlledStationModel", "takesData", "()V"⟩ prog_14_method_35_code 2 (Option.none : Option FieldType) ∈ eT := eT_of (in_5 _ (List.mem_of_getElem? (i := 206) rfl)) rfl
set_option maxRecDepth 100000 in
theorem tw_1238 : Cond.methodLink "ControlledStationModel" 281 ⟨"ControlledStationModel", "acknowledges", "()Z"⟩ ∈ eT := eT_of (in_5 _ (List.mem_of_getElem? (i := 207) rfl)) rfl
set_option maxRecDepth 100000 in
theorem tw_1240 : Cond.instanceMethod ⟨"ControlledStationModel", "acknowledges", "()Z"⟩ ∈ eT := eT_of (in_5 _ (List.mem_of_getElem? (i := 209) rfl)) rfl
set_option maxRecDepth 100000 in
theorem tw_1241 : Cond.code ⟨"ControlledStationModel", "acknowledges", "()Z"⟩ prog_14_method_33_code 6 (Option.some FieldType.boolean) ∈ eT := eT_of (in_5 _ (List.mem_of_getElem? (i := 210) rfl)) rfl
set_option maxRecDepth 100000 in
theorem tw_1242 : Cond.methodLink "ControlledStationModel" 293 ⟨"ControlledStationModel", "rest", "()V"⟩ ∈ eT := eT_of (in_5 _ (List.mem_of_getElem? (i := 211) rfl)) rfl
set_option maxRecDepth 100000 in
theorem tw_1244 : Cond.instanceMethod ⟨"ControlledStationModel", "rest", "()V"⟩ ∈ eT := eT_of (in_5 _ (List.mem_of_getElem? (i := 213) rfl)) rfl
set_option maxRecDepth 100000 in
theorem tw_1245 : Cond.code ⟨"ControlledStationModel", "rest", "()V"⟩ prog_14_method_42_code 7 (Option.none : Option FieldType) ∈ eT := eT_of (in_5 _ (List.mem_of_getElem? (i := 214) rfl)) rfl
set_option maxRecDepth 100000 in
theorem tw_1246 : Cond.methodLink "ControlledStationModel" 296 ⟨"ControlledStationModel", "at", "(I)I"⟩ ∈ eT := eT_of (in_5 _ (List.mem_of_getElem? (i := 215) rfl)) rfl
set_option maxRecDepth 100000 in
theorem tw_1248 : Cond.instanceMethod ⟨"ControlledStationModel", "at", "(I)I"⟩ ∈ eT := eT_of (in_5 _ (List.mem_of_getElem? (i := 217) rfl)) rfl
set_option maxRecDepth 100000 in
theorem tw_1249 : Cond.code ⟨"ControlledStationModel", "at", "(I)I"⟩ prog_14_method_37_code 2 (Option.some FieldType.int) ∈ eT := eT_of (in_5 _ (List.mem_of_getElem? (i := 218) rfl)) rfl
set_option maxRecDepth 100000 in
theorem tw_1250 : Cond.constant "ControlledStationModel" 305 (65536 : Int32) ∈ eT := eT_of (in_5 _ (List.mem_of_getElem? (i := 219) rfl)) rfl
set_option maxRecDepth 100000 in
theorem tw_1251 : Cond.methodLink "ControlledStationModel" 306 ⟨"ControlledStationModel", "isOrder", "(I)Z"⟩ ∈ eT := eT_of (in_5 _ (List.mem_of_getElem? (i := 220) rfl)) rfl
set_option maxRecDepth 100000 in
theorem tw_1252 : Cond.static ⟨"ControlledStationModel", "isOrder", "(I)Z"⟩ ∈ eT := eT_of (in_5 _ (List.mem_of_getElem? (i := 221) rfl)) rfl
set_option maxRecDepth 100000 in
theorem tw_1253 : Cond.code ⟨"ControlledStationModel", "isOrder", "(I)Z"⟩ prog_14_method_41_code 1 (Option.some FieldType.boolean) ∈ eT := eT_of (in_5 _ (List.mem_of_getElem? (i := 222) rfl)) rfl
set_option maxRecDepth 100000 in
theorem tw_1254 : Cond.constantLong "ControlledStationModel" 309 (100 : Int64) ∈ eT := eT_of (in_5 _ (List.mem_of_getElem? (i := 223) rfl)) rfl
set_option maxRecDepth 100000 in
theorem tw_1255 : Cond.constantLong "ControlledStationModel" 311 (104 : Int64) ∈ eT := eT_of (in_5 _ (List.mem_of_getElem? (i := 224) rfl)) rfl
set_option maxRecDepth 100000 in
theorem tw_1256 : Cond.methodLink "ControlledStationModel" 313 ⟨"ControlledStationModel", "same", "(IZ)V"⟩ ∈ eT := eT_of (in_5 _ (List.mem_of_getElem? (i := 225) rfl)) rfl
set_option maxRecDepth 100000 in
theorem tw_1258 : Cond.instanceMethod ⟨"ControlledStationModel", "same", "(IZ)V"⟩ ∈ eT := eT_of (in_5 _ (List.mem_of_getElem? (i := 227) rfl)) rfl
set_option maxRecDepth 100000 in
theorem tw_1259 : Cond.code ⟨"ControlledStationModel", "same", "(IZ)V"⟩ prog_14_method_39_code 4 (Option.none : Option FieldType) ∈ eT := eT_of (in_5 _ (List.mem_of_getElem? (i := 228) rfl)) rfl
set_option maxRecDepth 100000 in
theorem tw_1260 : Cond.methodLink "ControlledStationModel" 299 ⟨"ControlledStationModel", "waits", "()Z"⟩ ∈ eT := eT_of (in_5 _ (List.mem_of_getElem? (i := 229) rfl)) rfl
set_option maxRecDepth 100000 in
theorem tw_1262 : Cond.instanceMethod ⟨"ControlledStationModel", "waits", "()Z"⟩ ∈ eT := eT_of (in_5 _ (List.mem_of_getElem? (i := 231) rfl)) rfl
set_option maxRecDepth 100000 in
theorem tw_1263 : Cond.code ⟨"ControlledStationModel", "waits", "()Z"⟩ prog_14_method_38_code 2 (Option.some FieldType.boolean) ∈ eT := eT_of (in_5 _ (List.mem_of_getElem? (i := 232) rfl)) rfl
set_option maxRecDepth 100000 in
theorem tw_1264 : Cond.constant "ControlledStationModel" 317 (65535 : Int32) ∈ eT := eT_of (in_5 _ (List.mem_of_getElem? (i := 233) rfl)) rfl
set_option maxRecDepth 100000 in
theorem tw_1265 : Cond.methodLink "ControlledStationModel" 318 ⟨"ControlledStationModel", "lengthOf", "(I)I"⟩ ∈ eT := eT_of (in_5 _ (List.mem_of_getElem? (i := 234) rfl)) rfl
set_option maxRecDepth 100000 in
theorem tw_1266 : Cond.static ⟨"ControlledStationModel", "lengthOf", "(I)I"⟩ ∈ eT := eT_of (in_5 _ (List.mem_of_getElem? (i := 235) rfl)) rfl
set_option maxRecDepth 100000 in
theorem tw_1267 : Cond.code ⟨"ControlledStationModel", "lengthOf", "(I)I"⟩ prog_14_method_40_code 1 (Option.some FieldType.int) ∈ eT := eT_of (in_5 _ (List.mem_of_getElem? (i := 236) rfl)) rfl
set_option maxRecDepth 100000 in
theorem tw_1268 : Cond.methodLink "ControlledStationModel" 321 ⟨"ControlledStationModel", "commanded", "(III)V"⟩ ∈ eT := eT_of (in_5 _ (List.mem_of_getElem? (i := 237) rfl)) rfl
set_option maxRecDepth 100000 in
theorem tw_1270 : Cond.instanceMethod ⟨"ControlledStationModel", "commanded", "(III)V"⟩ ∈ eT := eT_of (in_5 _ (List.mem_of_getElem? (i := 239) rfl)) rfl
set_option maxRecDepth 100000 in
theorem tw_1271 : Cond.code ⟨"ControlledStationModel", "commanded", "(III)V"⟩ prog_14_method_44_code 9 (Option.none : Option FieldType) ∈ eT := eT_of (in_6 _ (List.mem_of_getElem? (i := 0) rfl)) rfl
set_option maxRecDepth 100000 in
theorem tw_1272 : Cond.methodLink "ControlledStationModel" 330 ⟨"ControlledStationModel", "isTest", "()Z"⟩ ∈ eT := eT_of (in_6 _ (List.mem_of_getElem? (i := 1) rfl)) rfl
set_option maxRecDepth 100000 in
theorem tw_1274 : Cond.instanceMethod ⟨"ControlledStationModel", "isTest", "()Z"⟩ ∈ eT := eT_of (in_6 _ (List.mem_of_getElem? (i := 3) rfl)) rfl
set_option maxRecDepth 100000 in
theorem tw_1275 : Cond.code ⟨"ControlledStationModel", "isTest", "()Z"⟩ prog_14_method_43_code 1 (Option.some FieldType.boolean) ∈ eT := eT_of (in_6 _ (List.mem_of_getElem? (i := 4) rfl)) rfl
set_option maxRecDepth 100000 in
theorem tw_1276 : Cond.methodLink "ControlledStationModel" 339 ⟨"ControlledStationModel", "keepBytes", "(I)V"⟩ ∈ eT := eT_of (in_6 _ (List.mem_of_getElem? (i := 5) rfl)) rfl
set_option maxRecDepth 100000 in
theorem tw_1278 : Cond.instanceMethod ⟨"ControlledStationModel", "keepBytes", "(I)V"⟩ ∈ eT := eT_of (in_6 _ (List.mem_of_getElem? (i := 7) rfl)) rfl
set_option maxRecDepth 100000 in
theorem tw_1279 : Cond.code ⟨"ControlledStationModel", "keepBytes", "(I)V"⟩ prog_14_method_45_code 3 (Option.none : Option FieldType) ∈ eT := eT_of (in_6 _ (List.mem_of_getElem? (i := 8) rfl)) rfl
set_option maxRecDepth 100000 in
theorem tw_1280 : Cond.methodLink "ControlledStationModel" 342 ⟨"ControlledStationModel", "areBytes", "(I)Z"⟩ ∈ eT := eT_of (in_6 _ (List.mem_of_getElem? (i := 9) rfl)) rfl
set_option maxRecDepth 100000 in
theorem tw_1282 : Cond.instanceMethod ⟨"ControlledStationModel", "areBytes", "(I)Z"⟩ ∈ eT := eT_of (in_6 _ (List.mem_of_getElem? (i := 11) rfl)) rfl
set_option maxRecDepth 100000 in
theorem tw_1283 : Cond.code ⟨"ControlledStationModel", "areBytes", "(I)Z"⟩ prog_14_method_46_code 4 (Option.some FieldType.boolean) ∈ eT := eT_of (in_6 _ (List.mem_of_getElem? (i := 12) rfl)) rfl
set_option maxRecDepth 100000 in
theorem tw_1284 : Cond.methodLink "ControlledStationModel" 345 ⟨"ControlledStationModel", "carriesOut", "(III)V"⟩ ∈ eT := eT_of (in_6 _ (List.mem_of_getElem? (i := 13) rfl)) rfl
set_option maxRecDepth 100000 in
theorem tw_1286 : Cond.instanceMethod ⟨"ControlledStationModel", "carriesOut", "(III)V"⟩ ∈ eT := eT_of (in_6 _ (List.mem_of_getElem? (i := 15) rfl)) rfl
set_option maxRecDepth 100000 in
theorem tw_1287 : Cond.code ⟨"ControlledStationModel", "carriesOut", "(III)V"⟩ prog_14_method_47_code 6 (Option.none : Option FieldType) ∈ eT := eT_of (in_6 _ (List.mem_of_getElem? (i := 16) rfl)) rfl
set_option maxRecDepth 100000 in
theorem tw_1288 : Cond.methodLink "ControlledStationModel" 324 ⟨"ControlledStationModel", "reads", "(I)V"⟩ ∈ eT := eT_of (in_6 _ (List.mem_of_getElem? (i := 17) rfl)) rfl
set_option maxRecDepth 100000 in
theorem tw_1290 : Cond.instanceMethod ⟨"ControlledStationModel", "reads", "(I)V"⟩ ∈ eT := eT_of (in_6 _ (List.mem_of_getElem? (i := 19) rfl)) rfl
set_option maxRecDepth 100000 in
theorem tw_1291 : Cond.code ⟨"ControlledStationModel", "reads", "(I)V"⟩ prog_14_method_48_code 4 (Option.none : Option FieldType) ∈ eT := eT_of (in_6 _ (List.mem_of_getElem? (i := 20) rfl)) rfl
set_option maxRecDepth 100000 in
theorem tw_1292 : Cond.methodLink "ControlledStationModel" 327 ⟨"ControlledStationModel", "asked", "(II)V"⟩ ∈ eT := eT_of (in_6 _ (List.mem_of_getElem? (i := 21) rfl)) rfl
set_option maxRecDepth 100000 in
theorem tw_1294 : Cond.instanceMethod ⟨"ControlledStationModel", "asked", "(II)V"⟩ ∈ eT := eT_of (in_6 _ (List.mem_of_getElem? (i := 23) rfl)) rfl
set_option maxRecDepth 100000 in
theorem tw_1295 : Cond.code ⟨"ControlledStationModel", "asked", "(II)V"⟩ prog_14_method_51_code 6 (Option.none : Option FieldType) ∈ eT := eT_of (in_6 _ (List.mem_of_getElem? (i := 24) rfl)) rfl
set_option maxRecDepth 100000 in
theorem tw_1296 : Cond.constantLong "ControlledStationModel" 348 (20 : Int64) ∈ eT := eT_of (in_6 _ (List.mem_of_getElem? (i := 25) rfl)) rfl
set_option maxRecDepth 100000 in
theorem tw_1297 : Cond.constantLong "ControlledStationModel" 350 (36 : Int64) ∈ eT := eT_of (in_6 _ (List.mem_of_getElem? (i := 26) rfl)) rfl
set_option maxRecDepth 100000 in
theorem tw_1298 : Cond.methodLink "ControlledStationModel" 352 ⟨"ControlledStationModel", "objects", "(IZI)V"⟩ ∈ eT := eT_of (in_6 _ (List.mem_of_getElem? (i := 27) rfl)) rfl
set_option maxRecDepth 100000 in
theorem tw_1300 : Cond.instanceMethod ⟨"ControlledStationModel", "objects", "(IZI)V"⟩ ∈ eT := eT_of (in_6 _ (List.mem_of_getElem? (i := 29) rfl)) rfl
set_option maxRecDepth 100000 in
theorem tw_1301 : Cond.code ⟨"ControlledStationModel", "objects", "(IZI)V"⟩ prog_14_method_49_code 8 (Option.none : Option FieldType) ∈ eT := eT_of (in_6 _ (List.mem_of_getElem? (i := 30) rfl)) rfl
set_option maxRecDepth 100000 in
theorem tw_1302 : Cond.methodLink "ControlledStationModel" 356 ⟨"ControlledStationModel", "freezes", "(I)V"⟩ ∈ eT := eT_of (in_6 _ (List.mem_of_getElem? (i := 31) rfl)) rfl
set_option maxRecDepth 100000 in
theorem tw_1304 : Cond.instanceMethod ⟨"ControlledStationModel", "freezes", "(I)V"⟩ ∈ eT := eT_of (in_6 _ (List.mem_of_getElem? (i := 33) rfl)) rfl
set_option maxRecDepth 100000 in
theorem tw_1305 : Cond.code ⟨"ControlledStationModel", "freezes", "(I)V"⟩ prog_14_method_50_code 3 (Option.none : Option FieldType) ∈ eT := eT_of (in_6 _ (List.mem_of_getElem? (i := 34) rfl)) rfl
set_option maxRecDepth 100000 in
theorem tw_1306 : Cond.methodLink "ControlledStationModel" 358 ⟨"ControlledStationModel", "isTime", "()Z"⟩ ∈ eT := eT_of (in_6 _ (List.mem_of_getElem? (i := 35) rfl)) rfl
set_option maxRecDepth 100000 in
theorem tw_1308 : Cond.instanceMethod ⟨"ControlledStationModel", "isTime", "()Z"⟩ ∈ eT := eT_of (in_6 _ (List.mem_of_getElem? (i := 37) rfl)) rfl
set_option maxRecDepth 100000 in
theorem tw_1309 : Cond.code ⟨"ControlledStationModel", "isTime", "()Z"⟩ prog_14_method_53_code 3 (Option.some FieldType.boolean) ∈ eT := eT_of (in_6 _ (List.mem_of_getElem? (i := 38) rfl)) rfl
set_option maxRecDepth 100000 in
theorem tw_1310 : Cond.constant "ControlledStationModel" 361 (60000 : Int32) ∈ eT := eT_of (in_6 _ (List.mem_of_getElem? (i := 39) rfl)) rfl
set_option maxRecDepth 100000 in
theorem tw_1311 : Cond.methodLink "ControlledStationModel" 362 ⟨"ControlledStationModel", "daysOf", "(II)I"⟩ ∈ eT := eT_of (in_6 _ (List.mem_of_getElem? (i := 40) rfl)) rfl
set_option maxRecDepth 100000 in
theorem tw_1312 : Cond.static ⟨"ControlledStationModel", "daysOf", "(II)I"⟩ ∈ eT := eT_of (in_6 _ (List.mem_of_getElem? (i := 41) rfl)) rfl
set_option maxRecDepth 100000 in
theorem tw_1313 : Cond.code ⟨"ControlledStationModel", "daysOf", "(II)I"⟩ prog_14_method_52_code 2 (Option.some FieldType.int) ∈ eT := eT_of (in_6 _ (List.mem_of_getElem? (i := 42) rfl)) rfl
set_option maxRecDepth 100000 in
theorem tw_1314 : Cond.methodLink "ControlledStationModel" 284 ⟨"ControlledStationModel", "takesOrder", "(I)V"⟩ ∈ eT := eT_of (in_6 _ (List.mem_of_getElem? (i := 43) rfl)) rfl
set_option maxRecDepth 100000 in
theorem tw_1316 : Cond.instanceMethod ⟨"ControlledStationModel", "takesOrder", "(I)V"⟩ ∈ eT := eT_of (in_6 _ (List.mem_of_getElem? (i := 45) rfl)) rfl
set_option maxRecDepth 100000 in
theorem tw_1317 : Cond.code ⟨"ControlledStationModel", "takesOrder", "(I)V"⟩ prog_14_method_36_code 3 (Option.none : Option FieldType) ∈ eT := eT_of (in_6 _ (List.mem_of_getElem? (i := 46) rfl)) rfl
set_option maxRecDepth 100000 in
theorem tw_1318 : Cond.methodLink "ControlledStationModel" 287 ⟨"ControlledStationModel", "tells", "()V"⟩ ∈ eT := eT_of (in_6 _ (List.mem_of_getElem? (i := 47) rfl)) rfl
set_option maxRecDepth 100000 in
theorem tw_1320 : Cond.instanceMethod ⟨"ControlledStationModel", "tells", "()V"⟩ ∈ eT := eT_of (in_6 _ (List.mem_of_getElem? (i := 49) rfl)) rfl
set_option maxRecDepth 100000 in
theorem tw_1321 : Cond.code ⟨"ControlledStationModel", "tells", "()V"⟩ prog_14_method_16_code 1 (Option.none : Option FieldType) ∈ eT := eT_of (in_6 _ (List.mem_of_getElem? (i := 50) rfl)) rfl
set_option maxRecDepth 100000 in
theorem tw_1322 : Cond.methodLink "ControlledStationLaw" 52 ⟨"ControlledStationModel", "tick", "(I)I"⟩ ∈ eT := eT_of (in_6 _ (List.mem_of_getElem? (i := 51) rfl)) rfl
set_option maxRecDepth 100000 in
theorem tw_1323 : Cond.instanceMethod ⟨"ControlledStationModel", "tick", "(I)I"⟩ ∈ eT := eT_of (in_6 _ (List.mem_of_getElem? (i := 52) rfl)) rfl
set_option maxRecDepth 100000 in
theorem tw_1324 : Cond.selects "ControlledStationModel" ⟨"ControlledStationModel", "tick", "(I)I"⟩ ⟨"ControlledStationModel", "tick", "(I)I"⟩ ∈ eT := eT_of (in_6 _ (List.mem_of_getElem? (i := 53) rfl)) rfl
set_option maxRecDepth 100000 in
theorem tw_1325 : Cond.code ⟨"ControlledStationModel", "tick", "(I)I"⟩ prog_14_method_56_code 3 (Option.some FieldType.int) ∈ eT := eT_of (in_6 _ (List.mem_of_getElem? (i := 54) rfl)) rfl
set_option maxRecDepth 100000 in
theorem tw_1326 : Cond.methodLink "ControlledStationModel" 372 ⟨"ControlledStationModel", "tickGoes", "()V"⟩ ∈ eT := eT_of (in_6 _ (List.mem_of_getElem? (i := 55) rfl)) rfl
set_option maxRecDepth 100000 in
theorem tw_1328 : Cond.instanceMethod ⟨"ControlledStationModel", "tickGoes", "()V"⟩ ∈ eT := eT_of (in_6 _ (List.mem_of_getElem? (i := 57) rfl)) rfl
set_option maxRecDepth 100000 in
theorem tw_1329 : Cond.code ⟨"ControlledStationModel", "tickGoes", "()V"⟩ prog_14_method_55_code 1 (Option.none : Option FieldType) ∈ eT := eT_of (in_6 _ (List.mem_of_getElem? (i := 58) rfl)) rfl
set_option maxRecDepth 100000 in
theorem tw_1330 : Cond.methodLink "ControlledStationModel" 366 ⟨"ControlledStationModel", "clockGoes", "()V"⟩ ∈ eT := eT_of (in_6 _ (List.mem_of_getElem? (i := 59) rfl)) rfl
set_option maxRecDepth 100000 in
theorem tw_1332 : Cond.instanceMethod ⟨"ControlledStationModel", "clockGoes", "()V"⟩ ∈ eT := eT_of (in_6 _ (List.mem_of_getElem? (i := 61) rfl)) rfl
set_option maxRecDepth 100000 in
theorem tw_1333 : Cond.code ⟨"ControlledStationModel", "clockGoes", "()V"⟩ prog_14_method_54_code 1 (Option.none : Option FieldType) ∈ eT := eT_of (in_6 _ (List.mem_of_getElem? (i := 62) rfl)) rfl
set_option maxRecDepth 100000 in
theorem tw_1334 : Cond.methodLink "ControlledStationLaw" 56 ⟨"ControlledStationModel", "out", "(I)I"⟩ ∈ eT := eT_of (in_6 _ (List.mem_of_getElem? (i := 63) rfl)) rfl
set_option maxRecDepth 100000 in
theorem tw_1335 : Cond.instanceMethod ⟨"ControlledStationModel", "out", "(I)I"⟩ ∈ eT := eT_of (in_6 _ (List.mem_of_getElem? (i := 64) rfl)) rfl
set_option maxRecDepth 100000 in
theorem tw_1336 : Cond.selects "ControlledStationModel" ⟨"ControlledStationModel", "out", "(I)I"⟩ ⟨"ControlledStationModel", "out", "(I)I"⟩ ∈ eT := eT_of (in_6 _ (List.mem_of_getElem? (i := 65) rfl)) rfl
set_option maxRecDepth 100000 in
theorem tw_1337 : Cond.code ⟨"ControlledStationModel", "out", "(I)I"⟩ prog_14_method_57_code 2 (Option.some FieldType.int) ∈ eT := eT_of (in_6 _ (List.mem_of_getElem? (i := 66) rfl)) rfl
set_option maxRecDepth 100000 in
theorem tw_1338 : Cond.methodLink "ControlledStationLaw" 60 ⟨"ControlledStationModel", "take", "(I)I"⟩ ∈ eT := eT_of (in_6 _ (List.mem_of_getElem? (i := 67) rfl)) rfl
set_option maxRecDepth 100000 in
theorem tw_1339 : Cond.instanceMethod ⟨"ControlledStationModel", "take", "(I)I"⟩ ∈ eT := eT_of (in_6 _ (List.mem_of_getElem? (i := 68) rfl)) rfl
set_option maxRecDepth 100000 in
theorem tw_1340 : Cond.selects "ControlledStationModel" ⟨"ControlledStationModel", "take", "(I)I"⟩ ⟨"ControlledStationModel", "take", "(I)I"⟩ ∈ eT := eT_of (in_6 _ (List.mem_of_getElem? (i := 69) rfl)) rfl
set_option maxRecDepth 100000 in
theorem tw_1341 : Cond.code ⟨"ControlledStationModel", "take", "(I)I"⟩ prog_14_method_58_code 3 (Option.some FieldType.int) ∈ eT := eT_of (in_6 _ (List.mem_of_getElem? (i := 70) rfl)) rfl
set_option maxRecDepth 100000 in
theorem tw_1342 : Cond.methodLink "ControlledStationLaw" 64 ⟨"ControlledStationModel", "told", "(II)I"⟩ ∈ eT := eT_of (in_6 _ (List.mem_of_getElem? (i := 71) rfl)) rfl
set_option maxRecDepth 100000 in
theorem tw_1343 : Cond.instanceMethod ⟨"ControlledStationModel", "told", "(II)I"⟩ ∈ eT := eT_of (in_6 _ (List.mem_of_getElem? (i := 72) rfl)) rfl
set_option maxRecDepth 100000 in
theorem tw_1344 : Cond.selects "ControlledStationModel" ⟨"ControlledStationModel", "told", "(II)I"⟩ ⟨"ControlledStationModel", "told", "(II)I"⟩ ∈ eT := eT_of (in_6 _ (List.mem_of_getElem? (i := 73) rfl)) rfl
set_option maxRecDepth 100000 in
theorem tw_1345 : Cond.code ⟨"ControlledStationModel", "told", "(II)I"⟩ prog_14_method_59_code 3 (Option.some FieldType.int) ∈ eT := eT_of (in_6 _ (List.mem_of_getElem? (i := 74) rfl)) rfl
set_option maxRecDepth 100000 in
theorem tw_1346 : Cond.methodLink "ControlledStationLaw" 68 ⟨"ControlledStationModel", "ordered", "(II)I"⟩ ∈ eT := eT_of (in_6 _ (List.mem_of_getElem? (i := 75) rfl)) rfl
set_option maxRecDepth 100000 in
theorem tw_1347 : Cond.instanceMethod ⟨"ControlledStationModel", "ordered", "(II)I"⟩ ∈ eT := eT_of (in_6 _ (List.mem_of_getElem? (i := 76) rfl)) rfl
set_option maxRecDepth 100000 in
theorem tw_1348 : Cond.selects "ControlledStationModel" ⟨"ControlledStationModel", "ordered", "(II)I"⟩ ⟨"ControlledStationModel", "ordered", "(II)I"⟩ ∈ eT := eT_of (in_6 _ (List.mem_of_getElem? (i := 77) rfl)) rfl
set_option maxRecDepth 100000 in
theorem tw_1349 : Cond.code ⟨"ControlledStationModel", "ordered", "(II)I"⟩ prog_14_method_60_code 4 (Option.some FieldType.int) ∈ eT := eT_of (in_6 _ (List.mem_of_getElem? (i := 78) rfl)) rfl
set_option maxRecDepth 100000 in
theorem tw_1350 : Cond.methodLink "ControlledStationLaw" 72 ⟨"ControlledStationModel", "clock", "(I)I"⟩ ∈ eT := eT_of (in_6 _ (List.mem_of_getElem? (i := 79) rfl)) rfl
set_option maxRecDepth 100000 in
theorem tw_1351 : Cond.instanceMethod ⟨"ControlledStationModel", "clock", "(I)I"⟩ ∈ eT := eT_of (in_6 _ (List.mem_of_getElem? (i := 80) rfl)) rfl
set_option maxRecDepth 100000 in
theorem tw_1352 : Cond.selects "ControlledStationModel" ⟨"ControlledStationModel", "clock", "(I)I"⟩ ⟨"ControlledStationModel", "clock", "(I)I"⟩ ∈ eT := eT_of (in_6 _ (List.mem_of_getElem? (i := 81) rfl)) rfl
set_option maxRecDepth 100000 in
theorem tw_1353 : Cond.code ⟨"ControlledStationModel", "clock", "(I)I"⟩ prog_14_method_61_code 2 (Option.some FieldType.int) ∈ eT := eT_of (in_6 _ (List.mem_of_getElem? (i := 82) rfl)) rfl
set_option maxRecDepth 100000 in
theorem tw_1354 : Cond.constantLong "ControlledStationModel" 375 (5 : Int64) ∈ eT := eT_of (in_6 _ (List.mem_of_getElem? (i := 83) rfl)) rfl
set_option maxRecDepth 100000 in
theorem tw_1355 : Cond.methodLink "ControlledStationLaw" 76 ⟨"ControlledStationModel", "count", "(I)I"⟩ ∈ eT := eT_of (in_6 _ (List.mem_of_getElem? (i := 84) rfl)) rfl
set_option maxRecDepth 100000 in
theorem tw_1356 : Cond.instanceMethod ⟨"ControlledStationModel", "count", "(I)I"⟩ ∈ eT := eT_of (in_6 _ (List.mem_of_getElem? (i := 85) rfl)) rfl
set_option maxRecDepth 100000 in
theorem tw_1357 : Cond.selects "ControlledStationModel" ⟨"ControlledStationModel", "count", "(I)I"⟩ ⟨"ControlledStationModel", "count", "(I)I"⟩ ∈ eT := eT_of (in_6 _ (List.mem_of_getElem? (i := 86) rfl)) rfl
set_option maxRecDepth 100000 in
theorem tw_1358 : Cond.code ⟨"ControlledStationModel", "count", "(I)I"⟩ prog_14_method_62_code 2 (Option.some FieldType.int) ∈ eT := eT_of (in_6 _ (List.mem_of_getElem? (i := 87) rfl)) rfl
set_option maxRecDepth 100000 in
theorem tw_1359 : Cond.constantLong "ControlledStationLaw" 41 (4294967295 : Int64) ∈ eT := eT_of (in_6 _ (List.mem_of_getElem? (i := 88) rfl)) rfl
set_option maxRecDepth 100000 in
theorem iX_0 : ∀ w ∈ u_ws RX0 TX0 5, w ∈ lw_tbl := by decide +kernel
set_option maxRecDepth 100000 in
theorem gX_0 : ∀ w ∈ u_ws RX0 TX0 5, goodWord w = true := by decide +kernel
set_option maxRecDepth 100000 in
theorem iX_1 : ∀ w ∈ u_ws RX1 TX1 7, w ∈ lw_tbl := by decide +kernel
set_option maxRecDepth 100000 in
theorem gX_1 : ∀ w ∈ u_ws RX1 TX1 7, goodWord w = true := by decide +kernel
set_option maxRecDepth 100000 in
theorem iX_2 : ∀ w ∈ u_ws RX2 TX2 5, w ∈ lw_tbl := by decide +kernel
set_option maxRecDepth 100000 in
theorem gX_2 : ∀ w ∈ u_ws RX2 TX2 5, goodWord w = true := by decide +kernel
set_option maxRecDepth 100000 in
theorem iX_3 : ∀ w ∈ u_ws RX3 TX3 7, w ∈ lw_tbl := by decide +kernel
set_option maxRecDepth 100000 in
theorem gX_3 : ∀ w ∈ u_ws RX3 TX3 7, goodWord w = true := by decide +kernel
set_option maxRecDepth 100000 in
theorem iX_4 : ∀ w ∈ u_ws RX4 TX4 2, w ∈ lw_tbl := by decide +kernel
set_option maxRecDepth 100000 in
theorem gX_4 : ∀ w ∈ u_ws RX4 TX4 2, goodWord w = true := by decide +kernel
set_option maxRecDepth 100000 in
theorem iX_5 : ∀ w ∈ u_ws RX5 TX5 3, w ∈ lw_tbl := by decide +kernel
set_option maxRecDepth 100000 in
theorem gX_5 : ∀ w ∈ u_ws RX5 TX5 3, goodWord w = true := by decide +kernel
set_option maxRecDepth 100000 in
theorem iX_6 : ∀ w ∈ u_ws RX6 TX6 7, w ∈ lw_tbl := by decide +kernel
set_option maxRecDepth 100000 in
theorem gX_6 : ∀ w ∈ u_ws RX6 TX6 7, goodWord w = true := by decide +kernel
set_option maxRecDepth 100000 in
theorem iX_7 : ∀ w ∈ u_ws RX7 TX7 3, w ∈ lw_tbl := by decide +kernel
set_option maxRecDepth 100000 in
theorem gX_7 : ∀ w ∈ u_ws RX7 TX7 3, goodWord w = true := by decide +kernel
set_option maxRecDepth 100000 in
theorem iX_8 : ∀ w ∈ u_ws RX8 TX8 7, w ∈ lw_tbl := by decide +kernel
set_option maxRecDepth 100000 in
theorem gX_8 : ∀ w ∈ u_ws RX8 TX8 7, goodWord w = true := by decide +kernel
set_option maxRecDepth 100000 in
theorem iX_9 : ∀ w ∈ u_ws RX9 TX9 4, w ∈ lw_tbl := by decide +kernel
set_option maxRecDepth 100000 in
theorem gX_9 : ∀ w ∈ u_ws RX9 TX9 4, goodWord w = true := by decide +kernel
set_option maxRecDepth 100000 in
theorem iX_10 : ∀ w ∈ u_ws RX10 TX10 5, w ∈ lw_tbl := by decide +kernel
set_option maxRecDepth 100000 in
theorem gX_10 : ∀ w ∈ u_ws RX10 TX10 5, goodWord w = true := by decide +kernel
set_option maxRecDepth 100000 in
theorem iX_11 : ∀ w ∈ u_ws RX11 TX11 19, w ∈ lw_tbl := by decide +kernel
set_option maxRecDepth 100000 in
theorem gX_11 : ∀ w ∈ u_ws RX11 TX11 19, goodWord w = true := by decide +kernel
set_option maxRecDepth 100000 in
theorem iX_12 : ∀ w ∈ u_ws RX12 TX12 55, w ∈ lw_tbl := by decide +kernel
set_option maxRecDepth 100000 in
theorem gX_12 : ∀ w ∈ u_ws RX12 TX12 55, goodWord w = true := by decide +kernel
