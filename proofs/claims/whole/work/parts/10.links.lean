abbrev YX4_init : eY := (yX4_init, cX4_init, 1, none, 1, 26)
abbrev MX4_init : eM := (cX4_init, RX4, 1, true, 1, 26, none)
abbrev YX0_init : eY := (yX0_init, cX0_init, 1, none, 2, 46)
abbrev MX0_init : eM := (cX0_init, RX0, 1, true, 2, 46, none)
abbrev YX0_clear : eY := (yX0_clear, cX0_clear, 1, none, 0, 0)
abbrev MX0_clear : eM := (cX0_clear, RX0, 1, false, 0, 0, none)
abbrev YX4_clear : eY := (yX4_clear, cX4_clear, 1, none, 0, 0)
abbrev MX4_clear : eM := (cX4_clear, RX4, 1, false, 0, 0, none)
abbrev YX0_next : eY := (yX0_next, cX0_next, 2, (some (.object "ControlledStation$Message")), 2, 46)
abbrev MX0_next : eM := (cX0_next, RX0, 2, false, 2, 46, (some (.object "ControlledStation$Message")))
abbrev YX0_first : eY := (yX0_first, cX0_first, 1, (some (.object "ControlledStation$Message")), 0, 0)
abbrev MX0_first : eM := (cX0_first, RX0, 1, false, 0, 0, (some (.object "ControlledStation$Message")))
abbrev YX0_dropFirst : eY := (yX0_dropFirst, cX0_dropFirst, 1, none, 0, 0)
abbrev MX0_dropFirst : eM := (cX0_dropFirst, RX0, 1, false, 0, 0, none)
abbrev YX1_init : eY := (yX1_init, cX1_init, 1, none, 1, 26)
abbrev MX1_init : eM := (cX1_init, RX1, 1, true, 1, 26, none)
abbrev YX1_daysOf : eY := (yX1_daysOf, cX1_daysOf, 2, (some .int), 0, 0)
abbrev MX1_daysOf : eM := (cX1_daysOf, RX1, 2, false, 0, 0, (some .int))
abbrev YX1_goOn : eY := (yX1_goOn, cX1_goOn, 1, none, 1, 21)
abbrev MX1_goOn : eM := (cX1_goOn, RX1, 1, false, 1, 21, none)
abbrev YX1_time : eY := (yX1_time, cX1_time, 4, (some .long), 0, 0)
abbrev MX1_time : eM := (cX1_time, RX1, 4, false, 0, 0, (some .long))
abbrev YX1_become : eY := (yX1_become, cX1_become, 3, none, 0, 0)
abbrev MX1_become : eM := (cX1_become, RX1, 3, false, 0, 0, none)
abbrev YX1_isTime : eY := (yX1_isTime, cX1_isTime, 5, (some .boolean), 1, 21)
abbrev MX1_isTime : eM := (cX1_isTime, RX1, 5, false, 1, 21, (some .boolean))
abbrev YX2_init : eY := (yX2_init, cX2_init, 5, none, 1, 26)
abbrev MX2_init : eM := (cX2_init, RX2, 5, true, 1, 26, none)
abbrev YX2_isOrder : eY := (yX2_isOrder, cX2_isOrder, 2, (some .boolean), 0, 0)
abbrev MX2_isOrder : eM := (cX2_isOrder, RX2, 2, false, 0, 0, (some .boolean))
abbrev YX2_valueOf : eY := (yX2_valueOf, cX2_valueOf, 2, (some .int), 0, 0)
abbrev MX2_valueOf : eM := (cX2_valueOf, RX2, 2, false, 0, 0, (some .int))
abbrev YX3_init : eY := (yX3_init, cX3_init, 1, none, 2, 46)
abbrev MX3_init : eM := (cX3_init, RX3, 1, true, 2, 46, none)
abbrev YX3_waiting : eY := (yX3_waiting, cX3_waiting, 1, (some .int), 0, 0)
abbrev MX3_waiting : eM := (cX3_waiting, RX3, 1, false, 0, 0, (some .int))
abbrev YX3_add : eY := (yX3_add, cX3_add, 7, none, 0, 0)
abbrev MX3_add : eM := (cX3_add, RX3, 7, false, 0, 0, none)
abbrev YX11_objectHead : eY := (yX11_objectHead, cX11_objectHead, 4, (some .long), 0, 0)
abbrev MX11_objectHead : eM := (cX11_objectHead, RX11, 4, false, 0, 0, (some .long))
abbrev YX4_add : eY := (yX4_add, cX4_add, 5, none, 0, 0)
abbrev MX4_add : eM := (cX4_add, RX4, 5, false, 0, 0, none)
abbrev YX6_objectBytes : eY := (yX6_objectBytes, cX6_objectBytes, 1, (some .int), 0, 0)
abbrev MX6_objectBytes : eM := (cX6_objectBytes, RX6, 1, false, 0, 0, (some .int))
abbrev YX3_next : eY := (yX3_next, cX3_next, 5, (some (.object "ControlledStation$Message")), 1, 24)
abbrev MX3_next : eM := (cX3_next, RX3, 5, false, 1, 24, (some (.object "ControlledStation$Message")))
abbrev YX3_nextWasSent : eY := (yX3_nextWasSent, cX3_nextWasSent, 1, none, 0, 0)
abbrev MX3_nextWasSent : eM := (cX3_nextWasSent, RX3, 1, false, 0, 0, none)
abbrev YX3_dropEldest : eY := (yX3_dropEldest, cX3_dropEldest, 1, none, 0, 0)
abbrev MX3_dropEldest : eM := (cX3_dropEldest, RX3, 1, false, 0, 0, none)
abbrev YX3_waitAgain : eY := (yX3_waitAgain, cX3_waitAgain, 1, none, 0, 0)
abbrev MX3_waitAgain : eM := (cX3_waitAgain, RX3, 1, false, 0, 0, none)
abbrev YX4_copy : eY := (yX4_copy, cX4_copy, 2, none, 1, 26)
abbrev MX4_copy : eM := (cX4_copy, RX4, 2, false, 1, 26, none)
abbrev YX4_replace : eY := (yX4_replace, cX4_replace, 3, none, 0, 0)
abbrev MX4_replace : eM := (cX4_replace, RX4, 3, false, 0, 0, none)
abbrev YX4_at : eY := (yX4_at, cX4_at, 2, (some .int), 0, 0)
abbrev MX4_at : eM := (cX4_at, RX4, 2, false, 0, 0, (some .int))
abbrev YX4_number : eY := (yX4_number, cX4_number, 6, (some .long), 1, 21)
abbrev MX4_number : eM := (cX4_number, RX4, 6, false, 1, 21, (some .long))
abbrev YX4_address : eY := (yX4_address, cX4_address, 1, (some .int), 2, 46)
abbrev MX4_address : eM := (cX4_address, RX4, 1, false, 2, 46, (some .int))
abbrev YX5_init : eY := (yX5_init, cX5_init, 1, none, 1, 26)
abbrev MX5_init : eM := (cX5_init, RX5, 1, true, 1, 26, none)
abbrev YX5_clear : eY := (yX5_clear, cX5_clear, 1, none, 0, 0)
abbrev MX5_clear : eM := (cX5_clear, RX5, 1, false, 0, 0, none)
abbrev YX5_add : eY := (yX5_add, cX5_add, 2, none, 0, 0)
abbrev MX5_add : eM := (cX5_add, RX5, 2, false, 0, 0, none)
abbrev YX5_at : eY := (yX5_at, cX5_at, 2, (some .int), 0, 0)
abbrev MX5_at : eM := (cX5_at, RX5, 2, false, 0, 0, (some .int))
abbrev YX5_dropFirst : eY := (yX5_dropFirst, cX5_dropFirst, 2, none, 0, 0)
abbrev MX5_dropFirst : eM := (cX5_dropFirst, RX5, 2, false, 0, 0, none)
abbrev YX6_init : eY := (yX6_init, cX6_init, 5, none, 1, 26)
abbrev MX6_init : eM := (cX6_init, RX6, 5, true, 1, 26, none)
abbrev YX6_fits : eY := (yX6_fits, cX6_fits, 4, (some .boolean), 0, 0)
abbrev MX6_fits : eM := (cX6_fits, RX6, 4, false, 0, 0, (some .boolean))
abbrev YX6_isAskedBy : eY := (yX6_isAskedBy, cX6_isAskedBy, 2, (some .boolean), 0, 0)
abbrev MX6_isAskedBy : eM := (cX6_isAskedBy, RX6, 2, false, 0, 0, (some .boolean))
abbrev YX6_object : eY := (yX6_object, cX6_object, 6, (some .long), 0, 0)
abbrev MX6_object : eM := (cX6_object, RX6, 6, false, 0, 0, (some .long))
abbrev YX7_init : eY := (yX7_init, cX7_init, 1, none, 1, 26)
abbrev MX7_init : eM := (cX7_init, RX7, 1, true, 1, 26, none)
abbrev YX7_add : eY := (yX7_add, cX7_add, 4, none, 0, 0)
abbrev MX7_add : eM := (cX7_add, RX7, 4, false, 0, 0, none)
abbrev YX7_at : eY := (yX7_at, cX7_at, 2, (some (.object "ControlledStation$Point")), 0, 0)
abbrev MX7_at : eM := (cX7_at, RX7, 2, false, 0, 0, (some (.object "ControlledStation$Point")))
abbrev YX7_atPlace : eY := (yX7_atPlace, cX7_atPlace, 2, (some (.object "ControlledStation$Point")), 0, 0)
abbrev MX7_atPlace : eM := (cX7_atPlace, RX7, 2, false, 0, 0, (some (.object "ControlledStation$Point")))
abbrev YX7_withAddress : eY := (yX7_withAddress, cX7_withAddress, 4, (some (.object "ControlledStation$Point")), 0, 0)
abbrev MX7_withAddress : eM := (cX7_withAddress, RX7, 4, false, 0, 0, (some (.object "ControlledStation$Point")))
abbrev YX7_freezeCounters : eY := (yX7_freezeCounters, cX7_freezeCounters, 3, none, 0, 0)
abbrev MX7_freezeCounters : eM := (cX7_freezeCounters, RX7, 3, false, 0, 0, none)
abbrev YX7_resetCounters : eY := (yX7_resetCounters, cX7_resetCounters, 3, none, 0, 0)
abbrev MX7_resetCounters : eM := (cX7_resetCounters, RX7, 3, false, 0, 0, none)
abbrev YX8_init : eY := (yX8_init, cX8_init, 1, none, 2, 46)
abbrev MX8_init : eM := (cX8_init, RX8, 1, true, 2, 46, none)
abbrev YX8_forget : eY := (yX8_forget, cX8_forget, 1, none, 0, 0)
abbrev MX8_forget : eM := (cX8_forget, RX8, 1, false, 0, 0, none)
abbrev YX8_restart : eY := (yX8_restart, cX8_restart, 1, none, 1, 20)
abbrev MX8_restart : eM := (cX8_restart, RX8, 1, false, 1, 20, none)
abbrev YX8_isControl : eY := (yX8_isControl, cX8_isControl, 3, (some .boolean), 0, 0)
abbrev MX8_isControl : eM := (cX8_isControl, RX8, 3, false, 0, 0, (some .boolean))
abbrev YX8_accept : eY := (yX8_accept, cX8_accept, 2, (some .int), 1, 24)
abbrev MX8_accept : eM := (cX8_accept, RX8, 2, false, 1, 24, (some .int))
abbrev YX8_number : eY := (yX8_number, cX8_number, 1, (some .int), 0, 0)
abbrev MX8_number : eM := (cX8_number, RX8, 1, false, 0, 0, (some .int))
abbrev YX8_ack : eY := (yX8_ack, cX8_ack, 1, (some .int), 0, 0)
abbrev MX8_ack : eM := (cX8_ack, RX8, 1, false, 0, 0, (some .int))
abbrev YX8_ackToTell : eY := (yX8_ackToTell, cX8_ackToTell, 1, (some .int), 0, 0)
abbrev MX8_ackToTell : eM := (cX8_ackToTell, RX8, 1, false, 0, 0, (some .int))
abbrev YX8_countData : eY := (yX8_countData, cX8_countData, 2, none, 0, 0)
abbrev MX8_countData : eM := (cX8_countData, RX8, 2, false, 0, 0, none)
abbrev YX8_originator : eY := (yX8_originator, cX8_originator, 1, (some .int), 1, 21)
abbrev MX8_originator : eM := (cX8_originator, RX8, 1, false, 1, 21, (some .int))
abbrev YX8_isTrial : eY := (yX8_isTrial, cX8_isTrial, 1, (some .boolean), 1, 21)
abbrev MX8_isTrial : eM := (cX8_isTrial, RX8, 1, false, 1, 21, (some .boolean))
abbrev YX9_init : eY := (yX9_init, cX9_init, 1, none, 1, 26)
abbrev MX9_init : eM := (cX9_init, RX9, 1, true, 1, 26, none)
abbrev YX9_begin : eY := (yX9_begin, cX9_begin, 5, none, 0, 0)
abbrev MX9_begin : eM := (cX9_begin, RX9, 5, false, 0, 0, none)
abbrev YX9_end : eY := (yX9_end, cX9_end, 1, none, 0, 0)
abbrev MX9_end : eM := (cX9_end, RX9, 1, false, 0, 0, none)
abbrev YX9_isOfSome : eY := (yX9_isOfSome, cX9_isOfSome, 1, (some .boolean), 0, 0)
abbrev MX9_isOfSome : eM := (cX9_isOfSome, RX9, 1, false, 0, 0, (some .boolean))
abbrev YX9_isOf : eY := (yX9_isOf, cX9_isOf, 2, (some .boolean), 0, 0)
abbrev MX9_isOf : eM := (cX9_isOf, RX9, 2, false, 0, 0, (some .boolean))
abbrev YX9_goOn : eY := (yX9_goOn, cX9_goOn, 1, none, 0, 0)
abbrev MX9_goOn : eM := (cX9_goOn, RX9, 1, false, 0, 0, none)
abbrev YX10_init : eY := (yX10_init, cX10_init, 1, none, 1, 26)
abbrev MX10_init : eM := (cX10_init, RX10, 1, true, 1, 26, none)
abbrev YX10_forget : eY := (yX10_forget, cX10_forget, 1, none, 0, 0)
abbrev MX10_forget : eM := (cX10_forget, RX10, 1, false, 0, 0, none)
abbrev YX10_restart : eY := (yX10_restart, cX10_restart, 1, none, 1, 20)
abbrev MX10_restart : eM := (cX10_restart, RX10, 1, false, 1, 20, none)
abbrev YX10_add : eY := (yX10_add, cX10_add, 4, none, 0, 0)
abbrev MX10_add : eM := (cX10_add, RX10, 4, false, 0, 0, none)
abbrev YX10_eldestAt : eY := (yX10_eldestAt, cX10_eldestAt, 1, (some .int), 0, 0)
abbrev MX10_eldestAt : eM := (cX10_eldestAt, RX10, 1, false, 0, 0, (some .int))
abbrev YX10_newlyAcknowledged : eY := (yX10_newlyAcknowledged, cX10_newlyAcknowledged, 2, (some .int), 0, 0)
abbrev MX10_newlyAcknowledged : eM := (cX10_newlyAcknowledged, RX10, 2, false, 0, 0, (some .int))
abbrev YX10_dropEldest : eY := (yX10_dropEldest, cX10_dropEldest, 2, (some .boolean), 0, 0)
abbrev MX10_dropEldest : eM := (cX10_dropEldest, RX10, 2, false, 0, 0, (some .boolean))
abbrev YX11_init : eY := (yX11_init, cX11_init, 1, none, 3, 66)
abbrev MX11_init : eM := (cX11_init, RX11, 1, true, 3, 66, none)
abbrev YX11_set : eY := (yX11_set, cX11_set, 4, (some .int), 0, 0)
abbrev MX11_set : eM := (cX11_set, RX11, 4, false, 0, 0, (some .int))
abbrev YX11_commandWith : eY := (yX11_commandWith, cX11_commandWith, 4, (some (.object "ControlledStation$Command")), 0, 0)
abbrev MX11_commandWith : eM := (cX11_commandWith, RX11, 4, false, 0, 0, (some (.object "ControlledStation$Command")))
abbrev YX11_isFreeAddress : eY := (yX11_isFreeAddress, cX11_isFreeAddress, 2, (some .boolean), 1, 23)
abbrev MX11_isFreeAddress : eM := (cX11_isFreeAddress, RX11, 2, false, 1, 23, (some .boolean))
abbrev YX11_point : eY := (yX11_point, cX11_point, 5, (some .int), 2, 50)
abbrev MX11_point : eM := (cX11_point, RX11, 5, false, 2, 50, (some .int))
abbrev YX11_command : eY := (yX11_command, cX11_command, 6, (some .int), 2, 50)
abbrev MX11_command : eM := (cX11_command, RX11, 6, false, 2, 50, (some .int))
abbrev YX11_shut : eY := (yX11_shut, cX11_shut, 2, none, 1, 20)
abbrev MX11_shut : eM := (cX11_shut, RX11, 2, false, 1, 20, none)
abbrev YX11_sendFrame : eY := (yX11_sendFrame, cX11_sendFrame, 5, (some .boolean), 2, 41)
abbrev MX11_sendFrame : eM := (cX11_sendFrame, RX11, 5, false, 2, 41, (some .boolean))
abbrev YX11_sendData : eY := (yX11_sendData, cX11_sendData, 4, (some .boolean), 3, 65)
abbrev MX11_sendData : eM := (cX11_sendData, RX11, 4, false, 3, 65, (some .boolean))
abbrev YX11_sendWaiting : eY := (yX11_sendWaiting, cX11_sendWaiting, 2, none, 4, 88)
abbrev MX11_sendWaiting : eM := (cX11_sendWaiting, RX11, 2, false, 4, 88, none)
abbrev YX11_change : eY := (yX11_change, cX11_change, 6, (some .int), 5, 109)
abbrev MX11_change : eM := (cX11_change, RX11, 6, false, 5, 109, (some .int))
abbrev YX11_open : eY := (yX11_open, cX11_open, 1, (some .int), 2, 40)
abbrev MX11_open : eM := (cX11_open, RX11, 1, false, 2, 40, (some .int))
abbrev YX11_close : eY := (yX11_close, cX11_close, 1, (some .int), 2, 41)
abbrev MX11_close : eM := (cX11_close, RX11, 1, false, 2, 41, (some .int))
abbrev YX11_acknowledge : eY := (yX11_acknowledge, cX11_acknowledge, 4, (some .boolean), 1, 21)
abbrev MX11_acknowledge : eM := (cX11_acknowledge, RX11, 4, false, 1, 21, (some .boolean))
abbrev YX11_acceptData : eY := (yX11_acceptData, cX11_acceptData, 1, (some .boolean), 2, 44)
abbrev MX11_acceptData : eM := (cX11_acceptData, RX11, 1, false, 2, 44, (some .boolean))
abbrev YX11_sendAck : eY := (yX11_sendAck, cX11_sendAck, 1, none, 3, 65)
abbrev MX11_sendAck : eM := (cX11_sendAck, RX11, 1, false, 3, 65, none)
abbrev YX11_stopCame : eY := (yX11_stopCame, cX11_stopCame, 1, none, 4, 85)
abbrev MX11_stopCame : eM := (cX11_stopCame, RX11, 1, false, 4, 85, none)
abbrev YX11_controlCame : eY := (yX11_controlCame, cX11_controlCame, 2, none, 5, 105)
abbrev MX11_controlCame : eM := (cX11_controlCame, RX11, 2, false, 5, 105, none)
abbrev YX11_acceptFrame : eY := (yX11_acceptFrame, cX11_acceptFrame, 2, (some .boolean), 6, 126)
abbrev MX11_acceptFrame : eM := (cX11_acceptFrame, RX11, 2, false, 6, 126, (some .boolean))
abbrev YX11_restLength : eY := (yX11_restLength, cX11_restLength, 1, (some .int), 0, 0)
abbrev MX11_restLength : eM := (cX11_restLength, RX11, 1, false, 0, 0, (some .int))
abbrev YX11_isCauseOf : eY := (yX11_isCauseOf, cX11_isCauseOf, 2, (some .boolean), 0, 0)
abbrev MX11_isCauseOf : eM := (cX11_isCauseOf, RX11, 2, false, 0, 0, (some .boolean))
abbrev YX11_isAddressOf : eY := (yX11_isAddressOf, cX11_isAddressOf, 4, (some .boolean), 1, 23)
abbrev MX11_isAddressOf : eM := (cX11_isAddressOf, RX11, 4, false, 1, 23, (some .boolean))
abbrev YX11_faultOf : eY := (yX11_faultOf, cX11_faultOf, 6, (some .int), 3, 66)
abbrev MX11_faultOf : eM := (cX11_faultOf, RX11, 6, false, 3, 66, (some .int))
abbrev YX11_answerSame : eY := (yX11_answerSame, cX11_answerSame, 3, none, 3, 67)
abbrev MX11_answerSame : eM := (cX11_answerSame, RX11, 3, false, 3, 67, none)
abbrev YX11_answerObject : eY := (yX11_answerObject, cX11_answerObject, 4, none, 3, 67)
abbrev MX11_answerObject : eM := (cX11_answerObject, RX11, 4, false, 3, 67, none)
abbrev YX11_readCame : eY := (yX11_readCame, cX11_readCame, 2, none, 4, 90)
abbrev MX11_readCame : eM := (cX11_readCame, RX11, 2, false, 4, 90, none)
abbrev YX11_answerPoints : eY := (yX11_answerPoints, cX11_answerPoints, 8, none, 3, 67)
abbrev MX11_answerPoints : eM := (cX11_answerPoints, RX11, 8, false, 3, 67, none)
abbrev YX11_interrogationCame : eY := (yX11_interrogationCame, cX11_interrogationCame, 3, none, 4, 94)
abbrev MX11_interrogationCame : eM := (cX11_interrogationCame, RX11, 3, false, 4, 94, none)
abbrev YX11_orderCounters : eY := (yX11_orderCounters, cX11_orderCounters, 2, none, 4, 94)
abbrev MX11_orderCounters : eM := (cX11_orderCounters, RX11, 2, false, 4, 94, none)
abbrev YX11_countersOrderCame : eY := (yX11_countersOrderCame, cX11_countersOrderCame, 2, none, 5, 115)
abbrev MX11_countersOrderCame : eM := (cX11_countersOrderCame, RX11, 2, false, 5, 115, none)
abbrev YX11_clockOrderCame : eY := (yX11_clockOrderCame, cX11_clockOrderCame, 4, none, 4, 89)
abbrev MX11_clockOrderCame : eM := (cX11_clockOrderCame, RX11, 4, false, 4, 89, none)
abbrev YX11_selectCame : eY := (yX11_selectCame, cX11_selectCame, 4, none, 4, 89)
abbrev MX11_selectCame : eM := (cX11_selectCame, RX11, 4, false, 4, 89, none)
abbrev YX11_endSelection : eY := (yX11_endSelection, cX11_endSelection, 5, (some .boolean), 2, 41)
abbrev MX11_endSelection : eM := (cX11_endSelection, RX11, 5, false, 2, 41, (some .boolean))
abbrev YX11_carryOut : eY := (yX11_carryOut, cX11_carryOut, 5, none, 4, 90)
abbrev MX11_carryOut : eM := (cX11_carryOut, RX11, 5, false, 4, 90, none)
abbrev YX11_commandCame : eY := (yX11_commandCame, cX11_commandCame, 7, none, 5, 114)
abbrev MX11_commandCame : eM := (cX11_commandCame, RX11, 7, false, 5, 114, none)
abbrev YX11_takeRest : eY := (yX11_takeRest, cX11_takeRest, 5, none, 6, 140)
abbrev MX11_takeRest : eM := (cX11_takeRest, RX11, 5, false, 6, 140, none)
abbrev YX11_behindFrame : eY := (yX11_behindFrame, cX11_behindFrame, 1, none, 5, 109)
abbrev MX11_behindFrame : eM := (cX11_behindFrame, RX11, 1, false, 5, 109, none)
abbrev YX11_come : eY := (yX11_come, cX11_come, 7, (some .int), 7, 164)
abbrev MX11_come : eM := (cX11_come, RX11, 7, false, 7, 164, (some .int))
abbrev YX11_isOver : eY := (yX11_isOver, cX11_isOver, 3, (some .boolean), 0, 0)
abbrev MX11_isOver : eM := (cX11_isOver, RX11, 3, false, 0, 0, (some .boolean))
abbrev YX11_sendTest : eY := (yX11_sendTest, cX11_sendTest, 1, none, 3, 65)
abbrev MX11_sendTest : eM := (cX11_sendTest, RX11, 1, false, 3, 65, none)
abbrev YX11_runTimers : eY := (yX11_runTimers, cX11_runTimers, 3, none, 4, 85)
abbrev MX11_runTimers : eM := (cX11_runTimers, RX11, 3, false, 4, 85, none)
abbrev YX11_tick : eY := (yX11_tick, cX11_tick, 3, (some .int), 5, 109)
abbrev MX11_tick : eM := (cX11_tick, RX11, 3, false, 5, 109, (some .int))
abbrev YX11_out : eY := (yX11_out, cX11_out, 2, (some .int), 1, 21)
abbrev MX11_out : eM := (cX11_out, RX11, 2, false, 1, 21, (some .int))
abbrev YX11_take : eY := (yX11_take, cX11_take, 2, (some .int), 1, 21)
abbrev MX11_take : eM := (cX11_take, RX11, 2, false, 1, 21, (some .int))
abbrev YX11_told : eY := (yX11_told, cX11_told, 4, (some .int), 1, 21)
abbrev MX11_told : eM := (cX11_told, RX11, 4, false, 1, 21, (some .int))
abbrev YX11_ordered : eY := (yX11_ordered, cX11_ordered, 5, (some .int), 1, 21)
abbrev MX11_ordered : eM := (cX11_ordered, RX11, 5, false, 1, 21, (some .int))
abbrev YX11_clock : eY := (yX11_clock, cX11_clock, 2, (some .int), 0, 0)
abbrev MX11_clock : eM := (cX11_clock, RX11, 2, false, 0, 0, (some .int))
abbrev YX11_count : eY := (yX11_count, cX11_count, 2, (some .int), 1, 20)
abbrev MX11_count : eM := (cX11_count, RX11, 2, false, 1, 20, (some .int))
abbrev YX12_init : eY := (yX12_init, cX12_init, 1, none, 1, 26)
abbrev MX12_init : eM := (cX12_init, RX12, 1, true, 1, 26, none)
abbrev YX12_in : eY := (yX12_in, cX12_in, 6, (some .boolean), 0, 0)
abbrev MX12_in : eM := (cX12_in, RX12, 6, false, 0, 0, (some .boolean))
abbrev YX12_isPoint : eY := (yX12_isPoint, cX12_isPoint, 2, (some .boolean), 1, 25)
abbrev MX12_isPoint : eM := (cX12_isPoint, RX12, 2, false, 1, 25, (some .boolean))
abbrev YX12_set : eY := (yX12_set, cX12_set, 5, (some .int), 1, 25)
abbrev MX12_set : eM := (cX12_set, RX12, 5, false, 1, 25, (some .int))
abbrev YX12_isFree : eY := (yX12_isFree, cX12_isFree, 4, (some .boolean), 1, 25)
abbrev MX12_isFree : eM := (cX12_isFree, RX12, 4, false, 1, 25, (some .boolean))
abbrev YX12_point : eY := (yX12_point, cX12_point, 5, (some .int), 2, 48)
abbrev MX12_point : eM := (cX12_point, RX12, 5, false, 2, 48, (some .int))
abbrev YX12_command : eY := (yX12_command, cX12_command, 5, (some .int), 2, 48)
abbrev MX12_command : eM := (cX12_command, RX12, 5, false, 2, 48, (some .int))
abbrev YX12_isValue : eY := (yX12_isValue, cX12_isValue, 2, (some .boolean), 1, 25)
abbrev MX12_isValue : eM := (cX12_isValue, RX12, 2, false, 1, 25, (some .boolean))
abbrev YX12_timeByte : eY := (yX12_timeByte, cX12_timeByte, 2, (some .int), 0, 0)
abbrev MX12_timeByte : eM := (cX12_timeByte, RX12, 2, false, 0, 0, (some .int))
abbrev YX12_ackLow : eY := (yX12_ackLow, cX12_ackLow, 1, (some .int), 0, 0)
abbrev MX12_ackLow : eM := (cX12_ackLow, RX12, 1, false, 0, 0, (some .int))
abbrev YX12_ackHigh : eY := (yX12_ackHigh, cX12_ackHigh, 1, (some .int), 0, 0)
abbrev MX12_ackHigh : eM := (cX12_ackHigh, RX12, 1, false, 0, 0, (some .int))
abbrev YX12_moveEvent : eY := (yX12_moveEvent, cX12_moveEvent, 4, none, 0, 0)
abbrev MX12_moveEvent : eM := (cX12_moveEvent, RX12, 4, false, 0, 0, none)
abbrev YX12_closes : eY := (yX12_closes, cX12_closes, 4, none, 1, 23)
abbrev MX12_closes : eM := (cX12_closes, RX12, 4, false, 1, 23, none)
abbrev YX12_byteOut : eY := (yX12_byteOut, cX12_byteOut, 2, none, 0, 0)
abbrev MX12_byteOut : eM := (cX12_byteOut, RX12, 2, false, 0, 0, none)
abbrev YX12_frames : eY := (yX12_frames, cX12_frames, 7, (some .boolean), 2, 46)
abbrev MX12_frames : eM := (cX12_frames, RX12, 7, false, 2, 46, (some .boolean))
abbrev YX12_sendsDraft : eY := (yX12_sendsDraft, cX12_sendsDraft, 2, (some .boolean), 3, 72)
abbrev MX12_sendsDraft : eM := (cX12_sendsDraft, RX12, 2, false, 3, 72, (some .boolean))
abbrev YX12_firstAnswerGoes : eY := (yX12_firstAnswerGoes, cX12_firstAnswerGoes, 3, none, 0, 0)
abbrev MX12_firstAnswerGoes : eM := (cX12_firstAnswerGoes, RX12, 3, false, 0, 0, none)
abbrev YX12_timedTypeOf : eY := (yX12_timedTypeOf, cX12_timedTypeOf, 1, (some .int), 0, 0)
abbrev MX12_timedTypeOf : eM := (cX12_timedTypeOf, RX12, 1, false, 0, 0, (some .int))
abbrev YX12_typeOf : eY := (yX12_typeOf, cX12_typeOf, 1, (some .int), 0, 0)
abbrev MX12_typeOf : eM := (cX12_typeOf, RX12, 1, false, 0, 0, (some .int))
abbrev YX12_put : eY := (yX12_put, cX12_put, 2, none, 0, 0)
abbrev MX12_put : eM := (cX12_put, RX12, 2, false, 0, 0, none)
abbrev YX12_putNumber : eY := (yX12_putNumber, cX12_putNumber, 4, none, 1, 21)
abbrev MX12_putNumber : eM := (cX12_putNumber, RX12, 4, false, 1, 21, none)
abbrev YX12_head : eY := (yX12_head, cX12_head, 5, none, 2, 44)
abbrev MX12_head : eM := (cX12_head, RX12, 5, false, 2, 44, none)
abbrev YX12_object : eY := (yX12_object, cX12_object, 6, none, 2, 44)
abbrev MX12_object : eM := (cX12_object, RX12, 6, false, 2, 44, none)
abbrev YX12_sendsEvent : eY := (yX12_sendsEvent, cX12_sendsEvent, 4, (some .boolean), 4, 93)
abbrev MX12_sendsEvent : eM := (cX12_sendsEvent, RX12, 4, false, 4, 93, (some .boolean))
abbrev YX12_sends : eY := (yX12_sends, cX12_sends, 2, none, 5, 116)
abbrev MX12_sends : eM := (cX12_sends, RX12, 2, false, 5, 116, none)
abbrev YX12_change : eY := (yX12_change, cX12_change, 6, (some .int), 6, 137)
abbrev MX12_change : eM := (cX12_change, RX12, 6, false, 6, 137, (some .int))
abbrev YX12_tells : eY := (yX12_tells, cX12_tells, 1, none, 3, 72)
abbrev MX12_tells : eM := (cX12_tells, RX12, 1, false, 3, 72, none)
abbrev YX12_open : eY := (yX12_open, cX12_open, 1, (some .int), 0, 0)
abbrev MX12_open : eM := (cX12_open, RX12, 1, false, 0, 0, (some .int))
abbrev YX12_close : eY := (yX12_close, cX12_close, 1, (some .int), 2, 46)
abbrev MX12_close : eM := (cX12_close, RX12, 1, false, 2, 46, (some .int))
abbrev YX12_canBe : eY := (yX12_canBe, cX12_canBe, 4, (some .boolean), 1, 25)
abbrev MX12_canBe : eM := (cX12_canBe, RX12, 4, false, 1, 25, (some .boolean))
abbrev YX12_acknowledges : eY := (yX12_acknowledges, cX12_acknowledges, 6, (some .boolean), 2, 46)
abbrev MX12_acknowledges : eM := (cX12_acknowledges, RX12, 6, false, 2, 46, (some .boolean))
abbrev YX12_at : eY := (yX12_at, cX12_at, 2, (some .int), 0, 0)
abbrev MX12_at : eM := (cX12_at, RX12, 2, false, 0, 0, (some .int))
abbrev YX12_isOrder : eY := (yX12_isOrder, cX12_isOrder, 1, (some .boolean), 0, 0)
abbrev MX12_isOrder : eM := (cX12_isOrder, RX12, 1, false, 0, 0, (some .boolean))
abbrev YX12_waits : eY := (yX12_waits, cX12_waits, 2, (some .boolean), 2, 46)
abbrev MX12_waits : eM := (cX12_waits, RX12, 2, false, 2, 46, (some .boolean))
abbrev YX12_same : eY := (yX12_same, cX12_same, 4, none, 3, 67)
abbrev MX12_same : eM := (cX12_same, RX12, 4, false, 3, 67, none)
abbrev YX12_lengthOf : eY := (yX12_lengthOf, cX12_lengthOf, 1, (some .int), 0, 0)
abbrev MX12_lengthOf : eM := (cX12_lengthOf, RX12, 1, false, 0, 0, (some .int))
abbrev YX12_isTest : eY := (yX12_isTest, cX12_isTest, 1, (some .boolean), 1, 21)
abbrev MX12_isTest : eM := (cX12_isTest, RX12, 1, false, 1, 21, (some .boolean))
abbrev YX12_keepBytes : eY := (yX12_keepBytes, cX12_keepBytes, 3, none, 1, 21)
abbrev MX12_keepBytes : eM := (cX12_keepBytes, RX12, 3, false, 1, 21, none)
abbrev YX12_areBytes : eY := (yX12_areBytes, cX12_areBytes, 4, (some .boolean), 1, 21)
abbrev MX12_areBytes : eM := (cX12_areBytes, RX12, 4, false, 1, 21, (some .boolean))
abbrev YX12_carriesOut : eY := (yX12_carriesOut, cX12_carriesOut, 6, none, 4, 90)
abbrev MX12_carriesOut : eM := (cX12_carriesOut, RX12, 6, false, 4, 90, none)
abbrev YX12_commanded : eY := (yX12_commanded, cX12_commanded, 9, none, 5, 115)
abbrev MX12_commanded : eM := (cX12_commanded, RX12, 9, false, 5, 115, none)
abbrev YX12_reads : eY := (yX12_reads, cX12_reads, 4, none, 4, 90)
abbrev MX12_reads : eM := (cX12_reads, RX12, 4, false, 4, 90, none)
abbrev YX12_objects : eY := (yX12_objects, cX12_objects, 8, none, 3, 69)
abbrev MX12_objects : eM := (cX12_objects, RX12, 8, false, 3, 69, none)
abbrev YX12_freezes : eY := (yX12_freezes, cX12_freezes, 3, none, 0, 0)
abbrev MX12_freezes : eM := (cX12_freezes, RX12, 3, false, 0, 0, none)
abbrev YX12_daysOf : eY := (yX12_daysOf, cX12_daysOf, 2, (some .int), 0, 0)
abbrev MX12_daysOf : eM := (cX12_daysOf, RX12, 2, false, 0, 0, (some .int))
abbrev YX12_isTime : eY := (yX12_isTime, cX12_isTime, 3, (some .boolean), 1, 25)
abbrev MX12_isTime : eM := (cX12_isTime, RX12, 3, false, 1, 25, (some .boolean))
abbrev YX12_asked : eY := (yX12_asked, cX12_asked, 6, none, 4, 96)
abbrev MX12_asked : eM := (cX12_asked, RX12, 6, false, 4, 96, none)
abbrev YX12_rest : eY := (yX12_rest, cX12_rest, 7, none, 6, 143)
abbrev MX12_rest : eM := (cX12_rest, RX12, 7, false, 6, 143, none)
abbrev YX12_takesData : eY := (yX12_takesData, cX12_takesData, 2, none, 7, 169)
abbrev MX12_takesData : eM := (cX12_takesData, RX12, 2, false, 7, 169, none)
abbrev YX12_takesOrder : eY := (yX12_takesOrder, cX12_takesOrder, 3, none, 4, 92)
abbrev MX12_takesOrder : eM := (cX12_takesOrder, RX12, 3, false, 4, 92, none)
abbrev YX12_takes : eY := (yX12_takes, cX12_takes, 3, none, 8, 190)
abbrev MX12_takes : eM := (cX12_takes, RX12, 3, false, 8, 190, none)
abbrev YX12_come : eY := (yX12_come, cX12_come, 6, (some .int), 9, 212)
abbrev MX12_come : eM := (cX12_come, RX12, 6, false, 9, 212, (some .int))
abbrev YX12_clockGoes : eY := (yX12_clockGoes, cX12_clockGoes, 1, none, 1, 21)
abbrev MX12_clockGoes : eM := (cX12_clockGoes, RX12, 1, false, 1, 21, none)
abbrev YX12_tickGoes : eY := (yX12_tickGoes, cX12_tickGoes, 1, none, 6, 137)
abbrev MX12_tickGoes : eM := (cX12_tickGoes, RX12, 1, false, 6, 137, none)
abbrev YX12_tick : eY := (yX12_tick, cX12_tick, 3, (some .int), 7, 157)
abbrev MX12_tick : eM := (cX12_tick, RX12, 3, false, 7, 157, (some .int))
abbrev YX12_out : eY := (yX12_out, cX12_out, 2, (some .int), 1, 25)
abbrev MX12_out : eM := (cX12_out, RX12, 2, false, 1, 25, (some .int))
abbrev YX12_take : eY := (yX12_take, cX12_take, 3, (some .int), 1, 25)
abbrev MX12_take : eM := (cX12_take, RX12, 3, false, 1, 25, (some .int))
abbrev YX12_told : eY := (yX12_told, cX12_told, 3, (some .int), 2, 46)
abbrev MX12_told : eM := (cX12_told, RX12, 3, false, 2, 46, (some .int))
abbrev YX12_ordered : eY := (yX12_ordered, cX12_ordered, 4, (some .int), 1, 25)
abbrev MX12_ordered : eM := (cX12_ordered, RX12, 4, false, 1, 25, (some .int))
abbrev YX12_clock : eY := (yX12_clock, cX12_clock, 2, (some .int), 1, 25)
abbrev MX12_clock : eM := (cX12_clock, RX12, 2, false, 1, 25, (some .int))
abbrev YX12_count : eY := (yX12_count, cX12_count, 2, (some .int), 0, 0)
abbrev MX12_count : eM := (cX12_count, RX12, 2, false, 0, 0, (some .int))
abbrev tb_0 : List Int32 := [0, 1, 1, 1, 1, 1, 1]
abbrev st_0 : eTab := ("ControlledStation", "LEAST", "[I", .inl tb_0)
abbrev tb_1 : List Int32 := [65534, 12, 12, 1000, 1000, 1000, 1000]
abbrev st_1 : eTab := ("ControlledStation", "MOST", "[I", .inl tb_1)
abbrev tb_2 : List Int32 := [0, 1, 4]
abbrev st_2 : eTab := ("ControlledStation", "COMMAND_POINTS", "[I", .inl tb_2)
abbrev tb_3 : List Int32 := [0, 0, -64, -32768, -32768, -2147483648, -2147483648]
abbrev st_3 : eTab := ("ControlledStation", "LEAST_VALUES", "[I", .inl tb_3)
abbrev tb_4 : List Int32 := [1, 3, 63, 32767, 32767, 2147483647, 2147483647]
abbrev st_4 : eTab := ("ControlledStation", "MOST_VALUES", "[I", .inl tb_4)
abbrev tb_5 : List Int32 := [30, 30, 31, 31, 31, 31, 16]
abbrev st_5 : eTab := ("ControlledStation", "QUALITIES", "[I", .inl tb_5)
abbrev tb_6 : List Int64 := [0, 0, 127, 65535, 65535, 4294967295, 4294967295]
abbrev st_6 : eTab := ("ControlledStation", "VALUE_MASKS", "[J", .inr tb_6)
abbrev tb_7 : List Int32 := [0, 0, 1, 2, 2, 4, 4]
abbrev st_7 : eTab := ("ControlledStation", "VALUE_BYTES", "[I", .inl tb_7)
abbrev tb_8 : List Int32 := [30, 31, 32, 34, 35, 36, 37]
abbrev st_8 : eTab := ("ControlledStation", "TIMED_TYPES", "[I", .inl tb_8)
abbrev tb_9 : List Int32 := [1, 3, 5, 9, 11, 13, 15]
abbrev st_9 : eTab := ("ControlledStation", "TYPES", "[I", .inl tb_9)
abbrev tb_10 : List Int32 := [45, 46, 49]
abbrev st_10 : eTab := ("ControlledStation", "COMMAND_TYPES", "[I", .inl tb_10)
abbrev tb_11 : List Int32 := [31, 28, 31, 30, 31, 30, 31, 31, 30, 31, 30, 31]
abbrev st_11 : eTab := ("ControlledStation", "DAYS", "[I", .inl tb_11)
abbrev tb_12 : List Int32 := [1, 1, 3]
abbrev st_12 : eTab := ("ControlledStation", "COMMAND_BYTES", "[I", .inl tb_12)
abbrev rX0 : vw_C := (RX0, TX0, 5)
abbrev rX1 : vw_C := (RX1, TX1, 7)
abbrev rX2 : vw_C := (RX2, TX2, 5)
abbrev rX3 : vw_C := (RX3, TX3, 7)
abbrev rX4 : vw_C := (RX4, TX4, 2)
abbrev rX5 : vw_C := (RX5, TX5, 3)
abbrev rX6 : vw_C := (RX6, TX6, 7)
abbrev rX7 : vw_C := (RX7, TX7, 3)
abbrev rX8 : vw_C := (RX8, TX8, 7)
abbrev rX9 : vw_C := (RX9, TX9, 4)
abbrev rX10 : vw_C := (RX10, TX10, 5)
abbrev rX11 : vw_C := (RX11, TX11, 19)
abbrev rX12 : vw_C := (RX12, TX12, 55)
theorem tw_0 : Cond.selects "ControlledStation" ⟨"ControlledStation", "isFreeAddress", "(I)Z"⟩ ⟨"ControlledStation", "isFreeAddress", "(I)Z"⟩ ∈ eT := eT_of (List.mem_of_getElem? (i := 0) (by decide +kernel)) (by decide +kernel)
theorem tw_1 : Cond.selects "ControlledStation" ⟨"ControlledStation", "commandWith", "(I)LControlledStation$Command;"⟩ ⟨"ControlledStation", "commandWith", "(I)LControlledStation$Command;"⟩ ∈ eT := eT_of (List.mem_of_getElem? (i := 1) (by decide +kernel)) (by decide +kernel)
theorem tw_2 : Cond.selects "ControlledStation" ⟨"ControlledStation", "sendWaiting", "()V"⟩ ⟨"ControlledStation", "sendWaiting", "()V"⟩ ∈ eT := eT_of (List.mem_of_getElem? (i := 2) (by decide +kernel)) (by decide +kernel)
theorem tw_3 : Cond.selects "ControlledStation" ⟨"ControlledStation", "sendData", "(LControlledStation$Message;Z)Z"⟩ ⟨"ControlledStation", "sendData", "(LControlledStation$Message;Z)Z"⟩ ∈ eT := eT_of (List.mem_of_getElem? (i := 3) (by decide +kernel)) (by decide +kernel)
theorem tw_4 : Cond.selects "ControlledStation" ⟨"ControlledStation", "sendFrame", "(ILControlledStation$Message;)Z"⟩ ⟨"ControlledStation", "sendFrame", "(ILControlledStation$Message;)Z"⟩ ∈ eT := eT_of (List.mem_of_getElem? (i := 4) (by decide +kernel)) (by decide +kernel)
theorem tw_5 : Cond.selects "ControlledStation" ⟨"ControlledStation", "shut", "(I)V"⟩ ⟨"ControlledStation", "shut", "(I)V"⟩ ∈ eT := eT_of (List.mem_of_getElem? (i := 5) (by decide +kernel)) (by decide +kernel)
theorem tw_6 : Cond.selects "ControlledStation$Receiver" ⟨"ControlledStation$Receiver", "isControl", "()Z"⟩ ⟨"ControlledStation$Receiver", "isControl", "()Z"⟩ ∈ eT := eT_of (List.mem_of_getElem? (i := 6) (by decide +kernel)) (by decide +kernel)
theorem tw_7 : Cond.selects "ControlledStation" ⟨"ControlledStation", "acceptFrame", "()Z"⟩ ⟨"ControlledStation", "acceptFrame", "()Z"⟩ ∈ eT := eT_of (List.mem_of_getElem? (i := 7) (by decide +kernel)) (by decide +kernel)
theorem tw_8 : Cond.selects "ControlledStation" ⟨"ControlledStation", "acceptData", "()Z"⟩ ⟨"ControlledStation", "acceptData", "()Z"⟩ ∈ eT := eT_of (List.mem_of_getElem? (i := 8) (by decide +kernel)) (by decide +kernel)
theorem tw_9 : Cond.selects "ControlledStation" ⟨"ControlledStation", "acknowledge", "(I)Z"⟩ ⟨"ControlledStation", "acknowledge", "(I)Z"⟩ ∈ eT := eT_of (List.mem_of_getElem? (i := 9) (by decide +kernel)) (by decide +kernel)
theorem tw_10 : Cond.selects "ControlledStation" ⟨"ControlledStation", "controlCame", "(I)V"⟩ ⟨"ControlledStation", "controlCame", "(I)V"⟩ ∈ eT := eT_of (List.mem_of_getElem? (i := 10) (by decide +kernel)) (by decide +kernel)
theorem tw_11 : Cond.selects "ControlledStation" ⟨"ControlledStation", "stopCame", "()V"⟩ ⟨"ControlledStation", "stopCame", "()V"⟩ ∈ eT := eT_of (List.mem_of_getElem? (i := 11) (by decide +kernel)) (by decide +kernel)
theorem tw_12 : Cond.selects "ControlledStation" ⟨"ControlledStation", "sendAck", "()V"⟩ ⟨"ControlledStation", "sendAck", "()V"⟩ ∈ eT := eT_of (List.mem_of_getElem? (i := 12) (by decide +kernel)) (by decide +kernel)
theorem tw_13 : Cond.selects "ControlledStation" ⟨"ControlledStation", "takeRest", "(LControlledStation$Message;)V"⟩ ⟨"ControlledStation", "takeRest", "(LControlledStation$Message;)V"⟩ ∈ eT := eT_of (List.mem_of_getElem? (i := 13) (by decide +kernel)) (by decide +kernel)
theorem tw_14 : Cond.selects "ControlledStation" ⟨"ControlledStation", "faultOf", "(LControlledStation$Message;II)I"⟩ ⟨"ControlledStation", "faultOf", "(LControlledStation$Message;II)I"⟩ ∈ eT := eT_of (List.mem_of_getElem? (i := 14) (by decide +kernel)) (by decide +kernel)
theorem tw_15 : Cond.selects "ControlledStation" ⟨"ControlledStation", "isAddressOf", "(II)Z"⟩ ⟨"ControlledStation", "isAddressOf", "(II)Z"⟩ ∈ eT := eT_of (List.mem_of_getElem? (i := 15) (by decide +kernel)) (by decide +kernel)
theorem tw_16 : Cond.selects "ControlledStation" ⟨"ControlledStation", "answerSame", "(I)V"⟩ ⟨"ControlledStation", "answerSame", "(I)V"⟩ ∈ eT := eT_of (List.mem_of_getElem? (i := 16) (by decide +kernel)) (by decide +kernel)
theorem tw_17 : Cond.selects "ControlledStation" ⟨"ControlledStation", "readCame", "(LControlledStation$Point;)V"⟩ ⟨"ControlledStation", "readCame", "(LControlledStation$Point;)V"⟩ ∈ eT := eT_of (List.mem_of_getElem? (i := 17) (by decide +kernel)) (by decide +kernel)
theorem tw_18 : Cond.selects "ControlledStation" ⟨"ControlledStation", "answerObject", "(LControlledStation$Point;I)V"⟩ ⟨"ControlledStation", "answerObject", "(LControlledStation$Point;I)V"⟩ ∈ eT := eT_of (List.mem_of_getElem? (i := 18) (by decide +kernel)) (by decide +kernel)
theorem tw_19 : Cond.selects "ControlledStation" ⟨"ControlledStation", "interrogationCame", "(II)V"⟩ ⟨"ControlledStation", "interrogationCame", "(II)V"⟩ ∈ eT := eT_of (List.mem_of_getElem? (i := 19) (by decide +kernel)) (by decide +kernel)
theorem tw_20 : Cond.selects "ControlledStation" ⟨"ControlledStation", "answerPoints", "(I)V"⟩ ⟨"ControlledStation", "answerPoints", "(I)V"⟩ ∈ eT := eT_of (List.mem_of_getElem? (i := 20) (by decide +kernel)) (by decide +kernel)
theorem tw_21 : Cond.selects "ControlledStation" ⟨"ControlledStation", "countersOrderCame", "(I)V"⟩ ⟨"ControlledStation", "countersOrderCame", "(I)V"⟩ ∈ eT := eT_of (List.mem_of_getElem? (i := 21) (by decide +kernel)) (by decide +kernel)
theorem tw_22 : Cond.selects "ControlledStation" ⟨"ControlledStation", "orderCounters", "(I)V"⟩ ⟨"ControlledStation", "orderCounters", "(I)V"⟩ ∈ eT := eT_of (List.mem_of_getElem? (i := 22) (by decide +kernel)) (by decide +kernel)
theorem tw_23 : Cond.selects "ControlledStation" ⟨"ControlledStation", "clockOrderCame", "(J)V"⟩ ⟨"ControlledStation", "clockOrderCame", "(J)V"⟩ ∈ eT := eT_of (List.mem_of_getElem? (i := 23) (by decide +kernel)) (by decide +kernel)
theorem tw_24 : Cond.selects "ControlledStation" ⟨"ControlledStation", "commandCame", "(LControlledStation$Command;I)V"⟩ ⟨"ControlledStation", "commandCame", "(LControlledStation$Command;I)V"⟩ ∈ eT := eT_of (List.mem_of_getElem? (i := 24) (by decide +kernel)) (by decide +kernel)
theorem tw_25 : Cond.selects "ControlledStation" ⟨"ControlledStation", "selectCame", "(LControlledStation$Command;IZ)V"⟩ ⟨"ControlledStation", "selectCame", "(LControlledStation$Command;IZ)V"⟩ ∈ eT := eT_of (List.mem_of_getElem? (i := 25) (by decide +kernel)) (by decide +kernel)
theorem tw_26 : Cond.selects "ControlledStation" ⟨"ControlledStation", "endSelection", "(LControlledStation$Command;IZ)Z"⟩ ⟨"ControlledStation", "endSelection", "(LControlledStation$Command;IZ)Z"⟩ ∈ eT := eT_of (List.mem_of_getElem? (i := 26) (by decide +kernel)) (by decide +kernel)
theorem tw_27 : Cond.selects "ControlledStation" ⟨"ControlledStation", "carryOut", "(LControlledStation$Command;IZ)V"⟩ ⟨"ControlledStation", "carryOut", "(LControlledStation$Command;IZ)V"⟩ ∈ eT := eT_of (List.mem_of_getElem? (i := 27) (by decide +kernel)) (by decide +kernel)
theorem tw_28 : Cond.selects "ControlledStation" ⟨"ControlledStation", "behindFrame", "()V"⟩ ⟨"ControlledStation", "behindFrame", "()V"⟩ ∈ eT := eT_of (List.mem_of_getElem? (i := 28) (by decide +kernel)) (by decide +kernel)
theorem tw_29 : Cond.selects "ControlledStation" ⟨"ControlledStation", "runTimers", "()V"⟩ ⟨"ControlledStation", "runTimers", "()V"⟩ ∈ eT := eT_of (List.mem_of_getElem? (i := 29) (by decide +kernel)) (by decide +kernel)
theorem tw_30 : Cond.selects "ControlledStation" ⟨"ControlledStation", "isOver", "(II)Z"⟩ ⟨"ControlledStation", "isOver", "(II)Z"⟩ ∈ eT := eT_of (List.mem_of_getElem? (i := 30) (by decide +kernel)) (by decide +kernel)
theorem tw_31 : Cond.selects "ControlledStation" ⟨"ControlledStation", "sendTest", "()V"⟩ ⟨"ControlledStation", "sendTest", "()V"⟩ ∈ eT := eT_of (List.mem_of_getElem? (i := 31) (by decide +kernel)) (by decide +kernel)
theorem tw_32 : Cond.selects "ControlledStationModel" ⟨"ControlledStationModel", "isFree", "(I)Z"⟩ ⟨"ControlledStationModel", "isFree", "(I)Z"⟩ ∈ eT := eT_of (List.mem_of_getElem? (i := 32) (by decide +kernel)) (by decide +kernel)
theorem tw_33 : Cond.selects "ControlledStationModel" ⟨"ControlledStationModel", "isPoint", "(I)Z"⟩ ⟨"ControlledStationModel", "isPoint", "(I)Z"⟩ ∈ eT := eT_of (List.mem_of_getElem? (i := 33) (by decide +kernel)) (by decide +kernel)
theorem tw_34 : Cond.selects "ControlledStationModel" ⟨"ControlledStationModel", "timeByte", "(I)I"⟩ ⟨"ControlledStationModel", "timeByte", "(I)I"⟩ ∈ eT := eT_of (List.mem_of_getElem? (i := 34) (by decide +kernel)) (by decide +kernel)
theorem tw_35 : Cond.selects "ControlledStationModel" ⟨"ControlledStationModel", "sends", "()V"⟩ ⟨"ControlledStationModel", "sends", "()V"⟩ ∈ eT := eT_of (List.mem_of_getElem? (i := 35) (by decide +kernel)) (by decide +kernel)
theorem tw_36 : Cond.selects "ControlledStationModel" ⟨"ControlledStationModel", "sendsDraft", "()Z"⟩ ⟨"ControlledStationModel", "sendsDraft", "()Z"⟩ ∈ eT := eT_of (List.mem_of_getElem? (i := 36) (by decide +kernel)) (by decide +kernel)
theorem tw_37 : Cond.selects "ControlledStationModel" ⟨"ControlledStationModel", "ackLow", "()I"⟩ ⟨"ControlledStationModel", "ackLow", "()I"⟩ ∈ eT := eT_of (List.mem_of_getElem? (i := 37) (by decide +kernel)) (by decide +kernel)
theorem tw_38 : Cond.selects "ControlledStationModel" ⟨"ControlledStationModel", "ackHigh", "()I"⟩ ⟨"ControlledStationModel", "ackHigh", "()I"⟩ ∈ eT := eT_of (List.mem_of_getElem? (i := 38) (by decide +kernel)) (by decide +kernel)
theorem tw_39 : Cond.selects "ControlledStationModel" ⟨"ControlledStationModel", "frames", "(IIIII)Z"⟩ ⟨"ControlledStationModel", "frames", "(IIIII)Z"⟩ ∈ eT := eT_of (List.mem_of_getElem? (i := 39) (by decide +kernel)) (by decide +kernel)
theorem tw_40 : Cond.selects "ControlledStationModel" ⟨"ControlledStationModel", "closes", "(I)V"⟩ ⟨"ControlledStationModel", "closes", "(I)V"⟩ ∈ eT := eT_of (List.mem_of_getElem? (i := 40) (by decide +kernel)) (by decide +kernel)
theorem tw_41 : Cond.selects "ControlledStationModel" ⟨"ControlledStationModel", "moveEvent", "(II)V"⟩ ⟨"ControlledStationModel", "moveEvent", "(II)V"⟩ ∈ eT := eT_of (List.mem_of_getElem? (i := 41) (by decide +kernel)) (by decide +kernel)
theorem tw_42 : Cond.selects "ControlledStationModel" ⟨"ControlledStationModel", "byteOut", "(I)V"⟩ ⟨"ControlledStationModel", "byteOut", "(I)V"⟩ ∈ eT := eT_of (List.mem_of_getElem? (i := 42) (by decide +kernel)) (by decide +kernel)
theorem tw_43 : Cond.selects "ControlledStationModel" ⟨"ControlledStationModel", "firstAnswerGoes", "()V"⟩ ⟨"ControlledStationModel", "firstAnswerGoes", "()V"⟩ ∈ eT := eT_of (List.mem_of_getElem? (i := 43) (by decide +kernel)) (by decide +kernel)
theorem tw_44 : Cond.selects "ControlledStationModel" ⟨"ControlledStationModel", "sendsEvent", "()Z"⟩ ⟨"ControlledStationModel", "sendsEvent", "()Z"⟩ ∈ eT := eT_of (List.mem_of_getElem? (i := 44) (by decide +kernel)) (by decide +kernel)
theorem tw_45 : Cond.selects "ControlledStationModel" ⟨"ControlledStationModel", "head", "(IIII)V"⟩ ⟨"ControlledStationModel", "head", "(IIII)V"⟩ ∈ eT := eT_of (List.mem_of_getElem? (i := 45) (by decide +kernel)) (by decide +kernel)
theorem tw_46 : Cond.selects "ControlledStationModel" ⟨"ControlledStationModel", "put", "(I)V"⟩ ⟨"ControlledStationModel", "put", "(I)V"⟩ ∈ eT := eT_of (List.mem_of_getElem? (i := 46) (by decide +kernel)) (by decide +kernel)
theorem tw_47 : Cond.selects "ControlledStationModel" ⟨"ControlledStationModel", "putNumber", "(II)V"⟩ ⟨"ControlledStationModel", "putNumber", "(II)V"⟩ ∈ eT := eT_of (List.mem_of_getElem? (i := 47) (by decide +kernel)) (by decide +kernel)
theorem tw_48 : Cond.selects "ControlledStationModel" ⟨"ControlledStationModel", "object", "(III)V"⟩ ⟨"ControlledStationModel", "object", "(III)V"⟩ ∈ eT := eT_of (List.mem_of_getElem? (i := 48) (by decide +kernel)) (by decide +kernel)
theorem tw_49 : Cond.selects "ControlledStationModel" ⟨"ControlledStationModel", "canBe", "()Z"⟩ ⟨"ControlledStationModel", "canBe", "()Z"⟩ ∈ eT := eT_of (List.mem_of_getElem? (i := 49) (by decide +kernel)) (by decide +kernel)
theorem tw_50 : Cond.selects "ControlledStationModel" ⟨"ControlledStationModel", "takes", "()V"⟩ ⟨"ControlledStationModel", "takes", "()V"⟩ ∈ eT := eT_of (List.mem_of_getElem? (i := 50) (by decide +kernel)) (by decide +kernel)
theorem tw_51 : Cond.selects "ControlledStationModel" ⟨"ControlledStationModel", "takesData", "()V"⟩ ⟨"ControlledStationModel", "takesData", "()V"⟩ ∈ eT := eT_of (List.mem_of_getElem? (i := 51) (by decide +kernel)) (by decide +kernel)
theorem tw_52 : Cond.selects "ControlledStationModel" ⟨"ControlledStationModel", "acknowledges", "()Z"⟩ ⟨"ControlledStationModel", "acknowledges", "()Z"⟩ ∈ eT := eT_of (List.mem_of_getElem? (i := 52) (by decide +kernel)) (by decide +kernel)
theorem tw_53 : Cond.selects "ControlledStationModel" ⟨"ControlledStationModel", "rest", "()V"⟩ ⟨"ControlledStationModel", "rest", "()V"⟩ ∈ eT := eT_of (List.mem_of_getElem? (i := 53) (by decide +kernel)) (by decide +kernel)
theorem tw_54 : Cond.selects "ControlledStationModel" ⟨"ControlledStationModel", "at", "(I)I"⟩ ⟨"ControlledStationModel", "at", "(I)I"⟩ ∈ eT := eT_of (List.mem_of_getElem? (i := 54) (by decide +kernel)) (by decide +kernel)
theorem tw_55 : Cond.selects "ControlledStationModel" ⟨"ControlledStationModel", "same", "(IZ)V"⟩ ⟨"ControlledStationModel", "same", "(IZ)V"⟩ ∈ eT := eT_of (List.mem_of_getElem? (i := 55) (by decide +kernel)) (by decide +kernel)
theorem tw_56 : Cond.selects "ControlledStationModel" ⟨"ControlledStationModel", "waits", "()Z"⟩ ⟨"ControlledStationModel", "waits", "()Z"⟩ ∈ eT := eT_of (List.mem_of_getElem? (i := 56) (by decide +kernel)) (by decide +kernel)
theorem tw_57 : Cond.selects "ControlledStationModel" ⟨"ControlledStationModel", "commanded", "(III)V"⟩ ⟨"ControlledStationModel", "commanded", "(III)V"⟩ ∈ eT := eT_of (List.mem_of_getElem? (i := 57) (by decide +kernel)) (by decide +kernel)
theorem tw_58 : Cond.selects "ControlledStationModel" ⟨"ControlledStationModel", "isTest", "()Z"⟩ ⟨"ControlledStationModel", "isTest", "()Z"⟩ ∈ eT := eT_of (List.mem_of_getElem? (i := 58) (by decide +kernel)) (by decide +kernel)
theorem tw_59 : Cond.selects "ControlledStationModel" ⟨"ControlledStationModel", "keepBytes", "(I)V"⟩ ⟨"ControlledStationModel", "keepBytes", "(I)V"⟩ ∈ eT := eT_of (List.mem_of_getElem? (i := 59) (by decide +kernel)) (by decide +kernel)
theorem tw_60 : Cond.selects "ControlledStationModel" ⟨"ControlledStationModel", "areBytes", "(I)Z"⟩ ⟨"ControlledStationModel", "areBytes", "(I)Z"⟩ ∈ eT := eT_of (List.mem_of_getElem? (i := 60) (by decide +kernel)) (by decide +kernel)
theorem tw_61 : Cond.selects "ControlledStationModel" ⟨"ControlledStationModel", "carriesOut", "(III)V"⟩ ⟨"ControlledStationModel", "carriesOut", "(III)V"⟩ ∈ eT := eT_of (List.mem_of_getElem? (i := 61) (by decide +kernel)) (by decide +kernel)
theorem tw_62 : Cond.selects "ControlledStationModel" ⟨"ControlledStationModel", "reads", "(I)V"⟩ ⟨"ControlledStationModel", "reads", "(I)V"⟩ ∈ eT := eT_of (List.mem_of_getElem? (i := 62) (by decide +kernel)) (by decide +kernel)
theorem tw_63 : Cond.selects "ControlledStationModel" ⟨"ControlledStationModel", "asked", "(II)V"⟩ ⟨"ControlledStationModel", "asked", "(II)V"⟩ ∈ eT := eT_of (List.mem_of_getElem? (i := 63) (by decide +kernel)) (by decide +kernel)
theorem tw_64 : Cond.selects "ControlledStationModel" ⟨"ControlledStationModel", "objects", "(IZI)V"⟩ ⟨"ControlledStationModel", "objects", "(IZI)V"⟩ ∈ eT := eT_of (List.mem_of_getElem? (i := 64) (by decide +kernel)) (by decide +kernel)
theorem tw_65 : Cond.selects "ControlledStationModel" ⟨"ControlledStationModel", "freezes", "(I)V"⟩ ⟨"ControlledStationModel", "freezes", "(I)V"⟩ ∈ eT := eT_of (List.mem_of_getElem? (i := 65) (by decide +kernel)) (by decide +kernel)
theorem tw_66 : Cond.selects "ControlledStationModel" ⟨"ControlledStationModel", "isTime", "()Z"⟩ ⟨"ControlledStationModel", "isTime", "()Z"⟩ ∈ eT := eT_of (List.mem_of_getElem? (i := 66) (by decide +kernel)) (by decide +kernel)
theorem tw_67 : Cond.selects "ControlledStationModel" ⟨"ControlledStationModel", "takesOrder", "(I)V"⟩ ⟨"ControlledStationModel", "takesOrder", "(I)V"⟩ ∈ eT := eT_of (List.mem_of_getElem? (i := 67) (by decide +kernel)) (by decide +kernel)
theorem tw_68 : Cond.selects "ControlledStationModel" ⟨"ControlledStationModel", "tells", "()V"⟩ ⟨"ControlledStationModel", "tells", "()V"⟩ ∈ eT := eT_of (List.mem_of_getElem? (i := 68) (by decide +kernel)) (by decide +kernel)
theorem tw_69 : Cond.selects "ControlledStationModel" ⟨"ControlledStationModel", "tickGoes", "()V"⟩ ⟨"ControlledStationModel", "tickGoes", "()V"⟩ ∈ eT := eT_of (List.mem_of_getElem? (i := 69) (by decide +kernel)) (by decide +kernel)
theorem tw_70 : Cond.selects "ControlledStationModel" ⟨"ControlledStationModel", "clockGoes", "()V"⟩ ⟨"ControlledStationModel", "clockGoes", "()V"⟩ ∈ eT := eT_of (List.mem_of_getElem? (i := 70) (by decide +kernel)) (by decide +kernel)
theorem tw_72 : Cond.initialized "ControlledStation" ∈ eT := eT_of (List.mem_of_getElem? (i := 72) (by decide +kernel)) (by decide +kernel)
theorem tw_73 : Cond.initialized "ControlledStation$PointTable" ∈ eT := eT_of (List.mem_of_getElem? (i := 73) (by decide +kernel)) (by decide +kernel)
theorem tw_74 : Cond.initialized "ControlledStation$Selection" ∈ eT := eT_of (List.mem_of_getElem? (i := 74) (by decide +kernel)) (by decide +kernel)
theorem tw_75 : Cond.initialized "ControlledStation$Calendar" ∈ eT := eT_of (List.mem_of_getElem? (i := 75) (by decide +kernel)) (by decide +kernel)
theorem tw_76 : Cond.initialized "ControlledStation$EventQueue" ∈ eT := eT_of (List.mem_of_getElem? (i := 76) (by decide +kernel)) (by decide +kernel)
theorem tw_77 : Cond.initialized "ControlledStation$Message" ∈ eT := eT_of (List.mem_of_getElem? (i := 77) (by decide +kernel)) (by decide +kernel)
theorem tw_78 : Cond.initialized "ControlledStation$AnswerQueue" ∈ eT := eT_of (List.mem_of_getElem? (i := 78) (by decide +kernel)) (by decide +kernel)
theorem tw_79 : Cond.initialized "ControlledStation$Receiver" ∈ eT := eT_of (List.mem_of_getElem? (i := 79) (by decide +kernel)) (by decide +kernel)
theorem tw_80 : Cond.initialized "ControlledStation$SentFrames" ∈ eT := eT_of (List.mem_of_getElem? (i := 80) (by decide +kernel)) (by decide +kernel)
theorem tw_81 : Cond.initialized "ControlledStation$OutBytes" ∈ eT := eT_of (List.mem_of_getElem? (i := 81) (by decide +kernel)) (by decide +kernel)
theorem tw_82 : Cond.initialized "ControlledStationModel" ∈ eT := eT_of (List.mem_of_getElem? (i := 82) (by decide +kernel)) (by decide +kernel)
theorem tw_83 : Cond.initialized "ControlledStation$Point" ∈ eT := eT_of (List.mem_of_getElem? (i := 83) (by decide +kernel)) (by decide +kernel)
theorem tw_84 : Cond.initialized "ControlledStation$Command" ∈ eT := eT_of (List.mem_of_getElem? (i := 84) (by decide +kernel)) (by decide +kernel)
theorem tw_85 : Cond.initialized "java/lang/Math" ∈ eT := eT_of (List.mem_of_getElem? (i := 85) (by decide +kernel)) (by decide +kernel)
theorem tw_86 : Cond.initialized "java/lang/System" ∈ eT := eT_of (List.mem_of_getElem? (i := 86) (by decide +kernel)) (by decide +kernel)
theorem tw_91 : Cond.code ⟨"ControlledStation", "<init>", "()V"⟩ prog_1_method_1_code 1 (Option.none : Option FieldType) ∈ eT := eT_of (List.mem_of_getElem? (i := 91) (by decide +kernel)) (by decide +kernel)
theorem tw_92 : Cond.methodLink "ControlledStation" 1 ⟨"java/lang/Object", "<init>", "()V"⟩ ∈ eT := eT_of (List.mem_of_getElem? (i := 92) (by decide +kernel)) (by decide +kernel)
theorem tw_93 : Cond.instanceMethod ⟨"java/lang/Object", "<init>", "()V"⟩ ∈ eT := eT_of (List.mem_of_getElem? (i := 93) (by decide +kernel)) (by decide +kernel)
theorem tw_94 : Cond.code ⟨"java/lang/Object", "<init>", "()V"⟩ object_method_1_code 1 (Option.none : Option FieldType) ∈ eT := eT_of (List.mem_of_getElem? (i := 94) (by decide +kernel)) (by decide +kernel)
theorem tw_95 : Cond.classLink "ControlledStation" 13 "ControlledStation$PointTable" ∈ eT := eT_of (List.mem_of_getElem? (i := 95) (by decide +kernel)) (by decide +kernel)
theorem tw_96 : Cond.instantiable "ControlledStation$PointTable" 3 ∈ eT := eT_of (List.mem_of_getElem? (i := 96) (by decide +kernel)) (by decide +kernel)
theorem tw_97 : Cond.methodLinkNest "ControlledStation" 15 ⟨"ControlledStation$PointTable", "<init>", "()V"⟩ "ControlledStation" ∈ eN := eN_of (List.mem_of_getElem? (i := 97) (by decide +kernel)) (by decide +kernel)
theorem tw_98 : Cond.instanceMethod ⟨"ControlledStation$PointTable", "<init>", "()V"⟩ ∈ eT := eT_of (List.mem_of_getElem? (i := 98) (by decide +kernel)) (by decide +kernel)
theorem tw_99 : Cond.code ⟨"ControlledStation$PointTable", "<init>", "()V"⟩ prog_9_method_1_code 1 (Option.none : Option FieldType) ∈ eT := eT_of (List.mem_of_getElem? (i := 99) (by decide +kernel)) (by decide +kernel)
theorem tw_100 : Cond.methodLink "ControlledStation$PointTable" 3 ⟨"java/lang/Object", "<init>", "()V"⟩ ∈ eT := eT_of (List.mem_of_getElem? (i := 100) (by decide +kernel)) (by decide +kernel)
theorem tw_101 : Cond.classLink "ControlledStation$PointTable" 9 "ControlledStation$Point" ∈ eT := eT_of (List.mem_of_getElem? (i := 101) (by decide +kernel)) (by decide +kernel)
theorem tw_102 : Cond.arrayOver (FieldType.object "ControlledStation$Point") ∈ eT := eT_of (List.mem_of_getElem? (i := 102) (by decide +kernel)) (by decide +kernel)
theorem tw_103 : Cond.fieldLink "ControlledStation$PointTable" 11 "ControlledStation$PointTable" "byNumber" "[LControlledStation$Point;" ∈ eT := eT_of (List.mem_of_getElem? (i := 103) (by decide +kernel)) (by decide +kernel)
theorem tw_104 : Cond.fieldLink "ControlledStation$PointTable" 17 "ControlledStation$PointTable" "byAddress" "[LControlledStation$Point;" ∈ eT := eT_of (List.mem_of_getElem? (i := 104) (by decide +kernel)) (by decide +kernel)
theorem tw_105 : Cond.fieldLink "ControlledStation$PointTable" 20 "ControlledStation$PointTable" "size" "I" ∈ eT := eT_of (List.mem_of_getElem? (i := 105) (by decide +kernel)) (by decide +kernel)
theorem tw_106 : Cond.fieldLink "ControlledStation" 89 "ControlledStation$PointTable" "size" "I" ∈ eT := eT_of (List.mem_of_getElem? (i := 106) (by decide +kernel)) (by decide +kernel)
theorem tw_114 : Cond.arrayClass FieldType.int ∈ eT := eT_of (List.mem_of_getElem? (i := 114) (by decide +kernel)) (by decide +kernel)
theorem tw_115 : Cond.classLink "ControlledStation" 20 "ControlledStation$Command" ∈ eT := eT_of (List.mem_of_getElem? (i := 115) (by decide +kernel)) (by decide +kernel)
theorem tw_116 : Cond.arrayOver (FieldType.object "ControlledStation$Command") ∈ eT := eT_of (List.mem_of_getElem? (i := 116) (by decide +kernel)) (by decide +kernel)
theorem tw_117 : Cond.classLink "ControlledStation" 26 "ControlledStation$Selection" ∈ eT := eT_of (List.mem_of_getElem? (i := 117) (by decide +kernel)) (by decide +kernel)
theorem tw_118 : Cond.instantiable "ControlledStation$Selection" 4 ∈ eT := eT_of (List.mem_of_getElem? (i := 118) (by decide +kernel)) (by decide +kernel)
theorem tw_119 : Cond.methodLinkNest "ControlledStation" 28 ⟨"ControlledStation$Selection", "<init>", "()V"⟩ "ControlledStation" ∈ eN := eN_of (List.mem_of_getElem? (i := 119) (by decide +kernel)) (by decide +kernel)
theorem tw_120 : Cond.instanceMethod ⟨"ControlledStation$Selection", "<init>", "()V"⟩ ∈ eT := eT_of (List.mem_of_getElem? (i := 120) (by decide +kernel)) (by decide +kernel)
theorem tw_121 : Cond.code ⟨"ControlledStation$Selection", "<init>", "()V"⟩ prog_11_method_1_code 1 (Option.none : Option FieldType) ∈ eT := eT_of (List.mem_of_getElem? (i := 121) (by decide +kernel)) (by decide +kernel)
theorem tw_122 : Cond.methodLink "ControlledStation$Selection" 1 ⟨"java/lang/Object", "<init>", "()V"⟩ ∈ eT := eT_of (List.mem_of_getElem? (i := 122) (by decide +kernel)) (by decide +kernel)
theorem tw_123 : Cond.fieldLink "ControlledStation$Selection" 7 "ControlledStation$Selection" "command" "LControlledStation$Command;" ∈ eT := eT_of (List.mem_of_getElem? (i := 123) (by decide +kernel)) (by decide +kernel)
theorem tw_124 : Cond.fieldLink "ControlledStation$Selection" 13 "ControlledStation$Selection" "data" "I" ∈ eT := eT_of (List.mem_of_getElem? (i := 124) (by decide +kernel)) (by decide +kernel)
theorem tw_125 : Cond.fieldLink "ControlledStation" 449 "ControlledStation$Selection" "data" "I" ∈ eT := eT_of (List.mem_of_getElem? (i := 125) (by decide +kernel)) (by decide +kernel)
theorem tw_126 : Cond.fieldLink "ControlledStation$Selection" 17 "ControlledStation$Selection" "originator" "I" ∈ eT := eT_of (List.mem_of_getElem? (i := 126) (by decide +kernel)) (by decide +kernel)
theorem tw_127 : Cond.fieldLink "ControlledStation" 452 "ControlledStation$Selection" "originator" "I" ∈ eT := eT_of (List.mem_of_getElem? (i := 127) (by decide +kernel)) (by decide +kernel)
theorem tw_128 : Cond.fieldLink "ControlledStation$Selection" 20 "ControlledStation$Selection" "ticksLeft" "I" ∈ eT := eT_of (List.mem_of_getElem? (i := 128) (by decide +kernel)) (by decide +kernel)
theorem tw_129 : Cond.fieldLink "ControlledStation" 215 "ControlledStation$Selection" "ticksLeft" "I" ∈ eT := eT_of (List.mem_of_getElem? (i := 129) (by decide +kernel)) (by decide +kernel)
theorem tw_139 : Cond.classLink "ControlledStation" 33 "ControlledStation$Calendar" ∈ eT := eT_of (List.mem_of_getElem? (i := 139) (by decide +kernel)) (by decide +kernel)
theorem tw_140 : Cond.instantiable "ControlledStation$Calendar" 7 ∈ eT := eT_of (List.mem_of_getElem? (i := 140) (by decide +kernel)) (by decide +kernel)
theorem tw_141 : Cond.methodLinkNest "ControlledStation" 35 ⟨"ControlledStation$Calendar", "<init>", "()V"⟩ "ControlledStation" ∈ eN := eN_of (List.mem_of_getElem? (i := 141) (by decide +kernel)) (by decide +kernel)
theorem tw_142 : Cond.instanceMethod ⟨"ControlledStation$Calendar", "<init>", "()V"⟩ ∈ eT := eT_of (List.mem_of_getElem? (i := 142) (by decide +kernel)) (by decide +kernel)
theorem tw_143 : Cond.code ⟨"ControlledStation$Calendar", "<init>", "()V"⟩ prog_3_method_1_code 1 (Option.none : Option FieldType) ∈ eT := eT_of (List.mem_of_getElem? (i := 143) (by decide +kernel)) (by decide +kernel)
theorem tw_144 : Cond.methodLink "ControlledStation$Calendar" 3 ⟨"java/lang/Object", "<init>", "()V"⟩ ∈ eT := eT_of (List.mem_of_getElem? (i := 144) (by decide +kernel)) (by decide +kernel)
theorem tw_145 : Cond.fieldLink "ControlledStation$Calendar" 18 "ControlledStation$Calendar" "millisecond" "I" ∈ eT := eT_of (List.mem_of_getElem? (i := 145) (by decide +kernel)) (by decide +kernel)
theorem tw_146 : Cond.fieldLink "ControlledStation" 221 "ControlledStation$Calendar" "millisecond" "I" ∈ eT := eT_of (List.mem_of_getElem? (i := 146) (by decide +kernel)) (by decide +kernel)
theorem tw_147 : Cond.fieldLink "ControlledStation$Calendar" 22 "ControlledStation$Calendar" "minute" "I" ∈ eT := eT_of (List.mem_of_getElem? (i := 147) (by decide +kernel)) (by decide +kernel)
theorem tw_148 : Cond.fieldLink "ControlledStation" 224 "ControlledStation$Calendar" "minute" "I" ∈ eT := eT_of (List.mem_of_getElem? (i := 148) (by decide +kernel)) (by decide +kernel)
theorem tw_149 : Cond.fieldLink "ControlledStation$Calendar" 25 "ControlledStation$Calendar" "hour" "I" ∈ eT := eT_of (List.mem_of_getElem? (i := 149) (by decide +kernel)) (by decide +kernel)
theorem tw_150 : Cond.fieldLink "ControlledStation" 227 "ControlledStation$Calendar" "hour" "I" ∈ eT := eT_of (List.mem_of_getElem? (i := 150) (by decide +kernel)) (by decide +kernel)
theorem tw_151 : Cond.fieldLink "ControlledStation$Calendar" 9 "ControlledStation$Calendar" "day" "I" ∈ eT := eT_of (List.mem_of_getElem? (i := 151) (by decide +kernel)) (by decide +kernel)
theorem tw_152 : Cond.fieldLink "ControlledStation" 230 "ControlledStation$Calendar" "day" "I" ∈ eT := eT_of (List.mem_of_getElem? (i := 152) (by decide +kernel)) (by decide +kernel)
theorem tw_153 : Cond.fieldLink "ControlledStation$Calendar" 15 "ControlledStation$Calendar" "month" "I" ∈ eT := eT_of (List.mem_of_getElem? (i := 153) (by decide +kernel)) (by decide +kernel)
theorem tw_154 : Cond.fieldLink "ControlledStation" 233 "ControlledStation$Calendar" "month" "I" ∈ eT := eT_of (List.mem_of_getElem? (i := 154) (by decide +kernel)) (by decide +kernel)
theorem tw_155 : Cond.fieldLink "ControlledStation$Calendar" 28 "ControlledStation$Calendar" "year" "I" ∈ eT := eT_of (List.mem_of_getElem? (i := 155) (by decide +kernel)) (by decide +kernel)
theorem tw_156 : Cond.fieldLink "ControlledStation" 236 "ControlledStation$Calendar" "year" "I" ∈ eT := eT_of (List.mem_of_getElem? (i := 156) (by decide +kernel)) (by decide +kernel)
theorem tw_157 : Cond.fieldLink "ControlledStation$Calendar" 35 "ControlledStation$Calendar" "wasSet" "Z" ∈ eT := eT_of (List.mem_of_getElem? (i := 157) (by decide +kernel)) (by decide +kernel)
theorem tw_158 : Cond.fieldLink "ControlledStation" 239 "ControlledStation$Calendar" "wasSet" "Z" ∈ eT := eT_of (List.mem_of_getElem? (i := 158) (by decide +kernel)) (by decide +kernel)
theorem tw_174 : Cond.classLink "ControlledStation" 40 "ControlledStation$EventQueue" ∈ eT := eT_of (List.mem_of_getElem? (i := 174) (by decide +kernel)) (by decide +kernel)
theorem tw_175 : Cond.instantiable "ControlledStation$EventQueue" 7 ∈ eT := eT_of (List.mem_of_getElem? (i := 175) (by decide +kernel)) (by decide +kernel)
theorem tw_176 : Cond.methodLinkNest "ControlledStation" 42 ⟨"ControlledStation$EventQueue", "<init>", "()V"⟩ "ControlledStation" ∈ eN := eN_of (List.mem_of_getElem? (i := 176) (by decide +kernel)) (by decide +kernel)
theorem tw_177 : Cond.instanceMethod ⟨"ControlledStation$EventQueue", "<init>", "()V"⟩ ∈ eT := eT_of (List.mem_of_getElem? (i := 177) (by decide +kernel)) (by decide +kernel)
theorem tw_178 : Cond.code ⟨"ControlledStation$EventQueue", "<init>", "()V"⟩ prog_5_method_1_code 1 (Option.none : Option FieldType) ∈ eT := eT_of (List.mem_of_getElem? (i := 178) (by decide +kernel)) (by decide +kernel)
theorem tw_179 : Cond.methodLink "ControlledStation$EventQueue" 3 ⟨"java/lang/Object", "<init>", "()V"⟩ ∈ eT := eT_of (List.mem_of_getElem? (i := 179) (by decide +kernel)) (by decide +kernel)
theorem tw_180 : Cond.classLink "ControlledStation$EventQueue" 11 "ControlledStation$Point" ∈ eT := eT_of (List.mem_of_getElem? (i := 180) (by decide +kernel)) (by decide +kernel)
theorem tw_181 : Cond.classLink "ControlledStation$EventQueue" 24 "ControlledStation$Message" ∈ eT := eT_of (List.mem_of_getElem? (i := 181) (by decide +kernel)) (by decide +kernel)
theorem tw_182 : Cond.instantiable "ControlledStation$Message" 2 ∈ eT := eT_of (List.mem_of_getElem? (i := 182) (by decide +kernel)) (by decide +kernel)
theorem tw_183 : Cond.methodLinkNest "ControlledStation$EventQueue" 26 ⟨"ControlledStation$Message", "<init>", "()V"⟩ "ControlledStation" ∈ eN := eN_of (List.mem_of_getElem? (i := 183) (by decide +kernel)) (by decide +kernel)
theorem tw_184 : Cond.instanceMethod ⟨"ControlledStation$Message", "<init>", "()V"⟩ ∈ eT := eT_of (List.mem_of_getElem? (i := 184) (by decide +kernel)) (by decide +kernel)
theorem tw_185 : Cond.code ⟨"ControlledStation$Message", "<init>", "()V"⟩ prog_6_method_1_code 1 (Option.none : Option FieldType) ∈ eT := eT_of (List.mem_of_getElem? (i := 185) (by decide +kernel)) (by decide +kernel)
theorem tw_186 : Cond.methodLink "ControlledStation$Message" 3 ⟨"java/lang/Object", "<init>", "()V"⟩ ∈ eT := eT_of (List.mem_of_getElem? (i := 186) (by decide +kernel)) (by decide +kernel)
theorem tw_187 : Cond.fieldLink "ControlledStation$Message" 9 "ControlledStation$Message" "row" "[B" ∈ eT := eT_of (List.mem_of_getElem? (i := 187) (by decide +kernel)) (by decide +kernel)
theorem tw_188 : Cond.fieldLink "ControlledStation$Message" 15 "ControlledStation$Message" "length" "I" ∈ eT := eT_of (List.mem_of_getElem? (i := 188) (by decide +kernel)) (by decide +kernel)
theorem tw_189 : Cond.fieldLink "ControlledStation" 313 "ControlledStation$Message" "length" "I" ∈ eT := eT_of (List.mem_of_getElem? (i := 189) (by decide +kernel)) (by decide +kernel)
theorem tw_195 : Cond.arrayClass FieldType.long ∈ eT := eT_of (List.mem_of_getElem? (i := 195) (by decide +kernel)) (by decide +kernel)
theorem tw_196 : Cond.arrayClass FieldType.byte ∈ eT := eT_of (List.mem_of_getElem? (i := 196) (by decide +kernel)) (by decide +kernel)
theorem tw_197 : Cond.fieldLink "ControlledStation$EventQueue" 13 "ControlledStation$EventQueue" "changed" "[LControlledStation$Point;" ∈ eT := eT_of (List.mem_of_getElem? (i := 197) (by decide +kernel)) (by decide +kernel)
theorem tw_198 : Cond.fieldLink "ControlledStation$EventQueue" 17 "ControlledStation$EventQueue" "objects" "[J" ∈ eT := eT_of (List.mem_of_getElem? (i := 198) (by decide +kernel)) (by decide +kernel)
theorem tw_199 : Cond.fieldLink "ControlledStation$EventQueue" 21 "ControlledStation$EventQueue" "times" "[J" ∈ eT := eT_of (List.mem_of_getElem? (i := 199) (by decide +kernel)) (by decide +kernel)
theorem tw_200 : Cond.fieldLink "ControlledStation$EventQueue" 27 "ControlledStation$EventQueue" "message" "LControlledStation$Message;" ∈ eT := eT_of (List.mem_of_getElem? (i := 200) (by decide +kernel)) (by decide +kernel)
theorem tw_201 : Cond.fieldLink "ControlledStation$EventQueue" 38 "ControlledStation$EventQueue" "start" "I" ∈ eT := eT_of (List.mem_of_getElem? (i := 201) (by decide +kernel)) (by decide +kernel)
theorem tw_202 : Cond.fieldLink "ControlledStation$EventQueue" 31 "ControlledStation$EventQueue" "size" "I" ∈ eT := eT_of (List.mem_of_getElem? (i := 202) (by decide +kernel)) (by decide +kernel)
theorem tw_203 : Cond.fieldLink "ControlledStation$EventQueue" 35 "ControlledStation$EventQueue" "sentOfThem" "I" ∈ eT := eT_of (List.mem_of_getElem? (i := 203) (by decide +kernel)) (by decide +kernel)
theorem tw_219 : Cond.classLink "ControlledStation" 47 "ControlledStation$AnswerQueue" ∈ eT := eT_of (List.mem_of_getElem? (i := 219) (by decide +kernel)) (by decide +kernel)
theorem tw_220 : Cond.instantiable "ControlledStation$AnswerQueue" 5 ∈ eT := eT_of (List.mem_of_getElem? (i := 220) (by decide +kernel)) (by decide +kernel)
theorem tw_221 : Cond.methodLinkNest "ControlledStation" 49 ⟨"ControlledStation$AnswerQueue", "<init>", "()V"⟩ "ControlledStation" ∈ eN := eN_of (List.mem_of_getElem? (i := 221) (by decide +kernel)) (by decide +kernel)
theorem tw_222 : Cond.instanceMethod ⟨"ControlledStation$AnswerQueue", "<init>", "()V"⟩ ∈ eT := eT_of (List.mem_of_getElem? (i := 222) (by decide +kernel)) (by decide +kernel)
theorem tw_223 : Cond.code ⟨"ControlledStation$AnswerQueue", "<init>", "()V"⟩ prog_2_method_1_code 1 (Option.none : Option FieldType) ∈ eT := eT_of (List.mem_of_getElem? (i := 223) (by decide +kernel)) (by decide +kernel)
theorem tw_224 : Cond.methodLink "ControlledStation$AnswerQueue" 3 ⟨"java/lang/Object", "<init>", "()V"⟩ ∈ eT := eT_of (List.mem_of_getElem? (i := 224) (by decide +kernel)) (by decide +kernel)
theorem tw_225 : Cond.classLink "ControlledStation$AnswerQueue" 9 "ControlledStation$Message" ∈ eT := eT_of (List.mem_of_getElem? (i := 225) (by decide +kernel)) (by decide +kernel)
theorem tw_226 : Cond.arrayOver (FieldType.object "ControlledStation$Message") ∈ eT := eT_of (List.mem_of_getElem? (i := 226) (by decide +kernel)) (by decide +kernel)
theorem tw_227 : Cond.methodLinkNest "ControlledStation$AnswerQueue" 17 ⟨"ControlledStation$Message", "<init>", "()V"⟩ "ControlledStation" ∈ eN := eN_of (List.mem_of_getElem? (i := 227) (by decide +kernel)) (by decide +kernel)
theorem tw_228 : Cond.fieldLink "ControlledStation$AnswerQueue" 11 "ControlledStation$AnswerQueue" "rows" "[LControlledStation$Message;" ∈ eT := eT_of (List.mem_of_getElem? (i := 228) (by decide +kernel)) (by decide +kernel)
theorem tw_229 : Cond.fieldLink "ControlledStation$AnswerQueue" 18 "ControlledStation$AnswerQueue" "spare" "LControlledStation$Message;" ∈ eT := eT_of (List.mem_of_getElem? (i := 229) (by decide +kernel)) (by decide +kernel)
theorem tw_230 : Cond.fieldLink "ControlledStation$AnswerQueue" 22 "ControlledStation$AnswerQueue" "start" "I" ∈ eT := eT_of (List.mem_of_getElem? (i := 230) (by decide +kernel)) (by decide +kernel)
theorem tw_231 : Cond.fieldLink "ControlledStation$AnswerQueue" 26 "ControlledStation$AnswerQueue" "size" "I" ∈ eT := eT_of (List.mem_of_getElem? (i := 231) (by decide +kernel)) (by decide +kernel)
theorem tw_232 : Cond.fieldLink "ControlledStation" 257 "ControlledStation$AnswerQueue" "size" "I" ∈ eT := eT_of (List.mem_of_getElem? (i := 232) (by decide +kernel)) (by decide +kernel)
theorem tw_233 : Cond.fieldLink "ControlledStation$AnswerQueue" 29 "ControlledStation$AnswerQueue" "overflown" "Z" ∈ eT := eT_of (List.mem_of_getElem? (i := 233) (by decide +kernel)) (by decide +kernel)
theorem tw_234 : Cond.fieldLink "ControlledStation" 398 "ControlledStation$AnswerQueue" "overflown" "Z" ∈ eT := eT_of (List.mem_of_getElem? (i := 234) (by decide +kernel)) (by decide +kernel)
theorem tw_246 : Cond.classLink "ControlledStation" 54 "ControlledStation$Receiver" ∈ eT := eT_of (List.mem_of_getElem? (i := 246) (by decide +kernel)) (by decide +kernel)
theorem tw_247 : Cond.instantiable "ControlledStation$Receiver" 7 ∈ eT := eT_of (List.mem_of_getElem? (i := 247) (by decide +kernel)) (by decide +kernel)
theorem tw_248 : Cond.methodLinkNest "ControlledStation" 56 ⟨"ControlledStation$Receiver", "<init>", "()V"⟩ "ControlledStation" ∈ eN := eN_of (List.mem_of_getElem? (i := 248) (by decide +kernel)) (by decide +kernel)
theorem tw_249 : Cond.instanceMethod ⟨"ControlledStation$Receiver", "<init>", "()V"⟩ ∈ eT := eT_of (List.mem_of_getElem? (i := 249) (by decide +kernel)) (by decide +kernel)
theorem tw_250 : Cond.code ⟨"ControlledStation$Receiver", "<init>", "()V"⟩ prog_10_method_1_code 1 (Option.none : Option FieldType) ∈ eT := eT_of (List.mem_of_getElem? (i := 250) (by decide +kernel)) (by decide +kernel)
theorem tw_251 : Cond.methodLink "ControlledStation$Receiver" 3 ⟨"java/lang/Object", "<init>", "()V"⟩ ∈ eT := eT_of (List.mem_of_getElem? (i := 251) (by decide +kernel)) (by decide +kernel)
theorem tw_252 : Cond.classLink "ControlledStation$Receiver" 9 "ControlledStation$Message" ∈ eT := eT_of (List.mem_of_getElem? (i := 252) (by decide +kernel)) (by decide +kernel)
theorem tw_253 : Cond.methodLinkNest "ControlledStation$Receiver" 11 ⟨"ControlledStation$Message", "<init>", "()V"⟩ "ControlledStation" ∈ eN := eN_of (List.mem_of_getElem? (i := 253) (by decide +kernel)) (by decide +kernel)
theorem tw_254 : Cond.fieldLink "ControlledStation$Receiver" 12 "ControlledStation$Receiver" "rest" "LControlledStation$Message;" ∈ eT := eT_of (List.mem_of_getElem? (i := 254) (by decide +kernel)) (by decide +kernel)
theorem tw_255 : Cond.fieldLink "ControlledStation" 173 "ControlledStation$Receiver" "rest" "LControlledStation$Message;" ∈ eT := eT_of (List.mem_of_getElem? (i := 255) (by decide +kernel)) (by decide +kernel)
theorem tw_256 : Cond.fieldLink "ControlledStation$Receiver" 34 "ControlledStation$Receiver" "control" "I" ∈ eT := eT_of (List.mem_of_getElem? (i := 256) (by decide +kernel)) (by decide +kernel)
theorem tw_257 : Cond.fieldLink "ControlledStation" 336 "ControlledStation$Receiver" "control" "I" ∈ eT := eT_of (List.mem_of_getElem? (i := 257) (by decide +kernel)) (by decide +kernel)
theorem tw_258 : Cond.fieldLink "ControlledStation$Receiver" 18 "ControlledStation$Receiver" "came" "I" ∈ eT := eT_of (List.mem_of_getElem? (i := 258) (by decide +kernel)) (by decide +kernel)
theorem tw_259 : Cond.fieldLink "ControlledStation" 251 "ControlledStation$Receiver" "came" "I" ∈ eT := eT_of (List.mem_of_getElem? (i := 259) (by decide +kernel)) (by decide +kernel)
theorem tw_260 : Cond.fieldLink "ControlledStation$Receiver" 28 "ControlledStation$Receiver" "untold" "I" ∈ eT := eT_of (List.mem_of_getElem? (i := 260) (by decide +kernel)) (by decide +kernel)
theorem tw_261 : Cond.fieldLink "ControlledStation" 254 "ControlledStation$Receiver" "untold" "I" ∈ eT := eT_of (List.mem_of_getElem? (i := 261) (by decide +kernel)) (by decide +kernel)
theorem tw_262 : Cond.fieldLink "ControlledStation$Receiver" 48 "ControlledStation$Receiver" "firstUntoldAt" "I" ∈ eT := eT_of (List.mem_of_getElem? (i := 262) (by decide +kernel)) (by decide +kernel)
theorem tw_263 : Cond.fieldLink "ControlledStation" 293 "ControlledStation$Receiver" "firstUntoldAt" "I" ∈ eT := eT_of (List.mem_of_getElem? (i := 263) (by decide +kernel)) (by decide +kernel)
theorem tw_264 : Cond.fieldLink "ControlledStation$Receiver" 25 "ControlledStation$Receiver" "bytes" "I" ∈ eT := eT_of (List.mem_of_getElem? (i := 264) (by decide +kernel)) (by decide +kernel)
theorem tw_265 : Cond.fieldLink "ControlledStation$Receiver" 31 "ControlledStation$Receiver" "length" "I" ∈ eT := eT_of (List.mem_of_getElem? (i := 265) (by decide +kernel)) (by decide +kernel)
theorem tw_281 : Cond.classLink "ControlledStation" 61 "ControlledStation$SentFrames" ∈ eT := eT_of (List.mem_of_getElem? (i := 281) (by decide +kernel)) (by decide +kernel)
theorem tw_282 : Cond.instantiable "ControlledStation$SentFrames" 5 ∈ eT := eT_of (List.mem_of_getElem? (i := 282) (by decide +kernel)) (by decide +kernel)
theorem tw_283 : Cond.methodLinkNest "ControlledStation" 63 ⟨"ControlledStation$SentFrames", "<init>", "()V"⟩ "ControlledStation" ∈ eN := eN_of (List.mem_of_getElem? (i := 283) (by decide +kernel)) (by decide +kernel)
theorem tw_284 : Cond.instanceMethod ⟨"ControlledStation$SentFrames", "<init>", "()V"⟩ ∈ eT := eT_of (List.mem_of_getElem? (i := 284) (by decide +kernel)) (by decide +kernel)
theorem tw_285 : Cond.code ⟨"ControlledStation$SentFrames", "<init>", "()V"⟩ prog_12_method_1_code 1 (Option.none : Option FieldType) ∈ eT := eT_of (List.mem_of_getElem? (i := 285) (by decide +kernel)) (by decide +kernel)
theorem tw_286 : Cond.methodLink "ControlledStation$SentFrames" 3 ⟨"java/lang/Object", "<init>", "()V"⟩ ∈ eT := eT_of (List.mem_of_getElem? (i := 286) (by decide +kernel)) (by decide +kernel)
theorem tw_287 : Cond.fieldLink "ControlledStation$SentFrames" 9 "ControlledStation$SentFrames" "at" "[I" ∈ eT := eT_of (List.mem_of_getElem? (i := 287) (by decide +kernel)) (by decide +kernel)
theorem tw_288 : Cond.fieldLink "ControlledStation$SentFrames" 15 "ControlledStation$SentFrames" "ofEvent" "[Z" ∈ eT := eT_of (List.mem_of_getElem? (i := 288) (by decide +kernel)) (by decide +kernel)
theorem tw_289 : Cond.fieldLink "ControlledStation$SentFrames" 26 "ControlledStation$SentFrames" "start" "I" ∈ eT := eT_of (List.mem_of_getElem? (i := 289) (by decide +kernel)) (by decide +kernel)
theorem tw_290 : Cond.fieldLink "ControlledStation$SentFrames" 29 "ControlledStation$SentFrames" "unacknowledged" "I" ∈ eT := eT_of (List.mem_of_getElem? (i := 290) (by decide +kernel)) (by decide +kernel)
theorem tw_291 : Cond.fieldLink "ControlledStation" 248 "ControlledStation$SentFrames" "unacknowledged" "I" ∈ eT := eT_of (List.mem_of_getElem? (i := 291) (by decide +kernel)) (by decide +kernel)
theorem tw_292 : Cond.fieldLink "ControlledStation$SentFrames" 19 "ControlledStation$SentFrames" "number" "I" ∈ eT := eT_of (List.mem_of_getElem? (i := 292) (by decide +kernel)) (by decide +kernel)
theorem tw_293 : Cond.fieldLink "ControlledStation" 245 "ControlledStation$SentFrames" "number" "I" ∈ eT := eT_of (List.mem_of_getElem? (i := 293) (by decide +kernel)) (by decide +kernel)
theorem tw_305 : Cond.arrayClass FieldType.boolean ∈ eT := eT_of (List.mem_of_getElem? (i := 305) (by decide +kernel)) (by decide +kernel)
theorem tw_306 : Cond.classLink "ControlledStation" 68 "ControlledStation$OutBytes" ∈ eT := eT_of (List.mem_of_getElem? (i := 306) (by decide +kernel)) (by decide +kernel)
theorem tw_307 : Cond.instantiable "ControlledStation$OutBytes" 3 ∈ eT := eT_of (List.mem_of_getElem? (i := 307) (by decide +kernel)) (by decide +kernel)
theorem tw_308 : Cond.methodLinkNest "ControlledStation" 70 ⟨"ControlledStation$OutBytes", "<init>", "()V"⟩ "ControlledStation" ∈ eN := eN_of (List.mem_of_getElem? (i := 308) (by decide +kernel)) (by decide +kernel)
theorem tw_309 : Cond.instanceMethod ⟨"ControlledStation$OutBytes", "<init>", "()V"⟩ ∈ eT := eT_of (List.mem_of_getElem? (i := 309) (by decide +kernel)) (by decide +kernel)
theorem tw_310 : Cond.code ⟨"ControlledStation$OutBytes", "<init>", "()V"⟩ prog_7_method_1_code 1 (Option.none : Option FieldType) ∈ eT := eT_of (List.mem_of_getElem? (i := 310) (by decide +kernel)) (by decide +kernel)
theorem tw_311 : Cond.methodLink "ControlledStation$OutBytes" 3 ⟨"java/lang/Object", "<init>", "()V"⟩ ∈ eT := eT_of (List.mem_of_getElem? (i := 311) (by decide +kernel)) (by decide +kernel)
theorem tw_312 : Cond.fieldLink "ControlledStation$OutBytes" 9 "ControlledStation$OutBytes" "row" "[B" ∈ eT := eT_of (List.mem_of_getElem? (i := 312) (by decide +kernel)) (by decide +kernel)
theorem tw_313 : Cond.fieldLink "ControlledStation$OutBytes" 15 "ControlledStation$OutBytes" "start" "I" ∈ eT := eT_of (List.mem_of_getElem? (i := 313) (by decide +kernel)) (by decide +kernel)
theorem tw_314 : Cond.fieldLink "ControlledStation$OutBytes" 19 "ControlledStation$OutBytes" "length" "I" ∈ eT := eT_of (List.mem_of_getElem? (i := 314) (by decide +kernel)) (by decide +kernel)
theorem tw_315 : Cond.fieldLink "ControlledStation" 190 "ControlledStation$OutBytes" "length" "I" ∈ eT := eT_of (List.mem_of_getElem? (i := 315) (by decide +kernel)) (by decide +kernel)
theorem tw_323 : Cond.fieldLink "ControlledStation" 7 "ControlledStation" "settings" "[I" ∈ eT := eT_of (List.mem_of_getElem? (i := 323) (by decide +kernel)) (by decide +kernel)
theorem tw_324 : Cond.fieldLink "ControlledStation" 16 "ControlledStation" "points" "LControlledStation$PointTable;" ∈ eT := eT_of (List.mem_of_getElem? (i := 324) (by decide +kernel)) (by decide +kernel)
theorem tw_325 : Cond.fieldLink "ControlledStation" 22 "ControlledStation" "commands" "[LControlledStation$Command;" ∈ eT := eT_of (List.mem_of_getElem? (i := 325) (by decide +kernel)) (by decide +kernel)
theorem tw_326 : Cond.fieldLink "ControlledStation" 111 "ControlledStation" "commandsMade" "I" ∈ eT := eT_of (List.mem_of_getElem? (i := 326) (by decide +kernel)) (by decide +kernel)
theorem tw_327 : Cond.fieldLink "ControlledStation" 29 "ControlledStation" "selection" "LControlledStation$Selection;" ∈ eT := eT_of (List.mem_of_getElem? (i := 327) (by decide +kernel)) (by decide +kernel)
theorem tw_328 : Cond.fieldLink "ControlledStation" 36 "ControlledStation" "calendar" "LControlledStation$Calendar;" ∈ eT := eT_of (List.mem_of_getElem? (i := 328) (by decide +kernel)) (by decide +kernel)
theorem tw_329 : Cond.fieldLink "ControlledStation" 43 "ControlledStation" "events" "LControlledStation$EventQueue;" ∈ eT := eT_of (List.mem_of_getElem? (i := 329) (by decide +kernel)) (by decide +kernel)
theorem tw_330 : Cond.fieldLink "ControlledStation" 50 "ControlledStation" "answers" "LControlledStation$AnswerQueue;" ∈ eT := eT_of (List.mem_of_getElem? (i := 330) (by decide +kernel)) (by decide +kernel)
theorem tw_331 : Cond.fieldLink "ControlledStation" 57 "ControlledStation" "receiver" "LControlledStation$Receiver;" ∈ eT := eT_of (List.mem_of_getElem? (i := 331) (by decide +kernel)) (by decide +kernel)
theorem tw_332 : Cond.fieldLink "ControlledStation" 64 "ControlledStation" "sent" "LControlledStation$SentFrames;" ∈ eT := eT_of (List.mem_of_getElem? (i := 332) (by decide +kernel)) (by decide +kernel)
theorem tw_333 : Cond.fieldLink "ControlledStation" 71 "ControlledStation" "sending" "LControlledStation$OutBytes;" ∈ eT := eT_of (List.mem_of_getElem? (i := 333) (by decide +kernel)) (by decide +kernel)
theorem tw_334 : Cond.fieldLink "ControlledStation" 75 "ControlledStation" "link" "I" ∈ eT := eT_of (List.mem_of_getElem? (i := 334) (by decide +kernel)) (by decide +kernel)
theorem tw_335 : Cond.fieldLink "ControlledStation" 242 "ControlledStation" "reason" "I" ∈ eT := eT_of (List.mem_of_getElem? (i := 335) (by decide +kernel)) (by decide +kernel)
theorem tw_336 : Cond.fieldLink "ControlledStation" 155 "ControlledStation" "now" "I" ∈ eT := eT_of (List.mem_of_getElem? (i := 336) (by decide +kernel)) (by decide +kernel)
theorem tw_337 : Cond.fieldLink "ControlledStation" 158 "ControlledStation" "latestAt" "I" ∈ eT := eT_of (List.mem_of_getElem? (i := 337) (by decide +kernel)) (by decide +kernel)
theorem tw_338 : Cond.fieldLink "ControlledStation" 290 "ControlledStation" "testAt" "I" ∈ eT := eT_of (List.mem_of_getElem? (i := 338) (by decide +kernel)) (by decide +kernel)
theorem tw_339 : Cond.fieldLink "ControlledStation" 258 "ControlledStation" "testWaits" "Z" ∈ eT := eT_of (List.mem_of_getElem? (i := 339) (by decide +kernel)) (by decide +kernel)
theorem tw_340 : Cond.fieldLink "ControlledStation" 261 "ControlledStation" "passedBy" "I" ∈ eT := eT_of (List.mem_of_getElem? (i := 340) (by decide +kernel)) (by decide +kernel)
theorem tw_341 : Cond.fieldLink "ControlledStation" 131 "ControlledStation" "freezes" "I" ∈ eT := eT_of (List.mem_of_getElem? (i := 341) (by decide +kernel)) (by decide +kernel)
theorem tw_384 : Cond.code ⟨"ControlledStation", "set", "(II)I"⟩ prog_1_method_2_code 4 (Option.some FieldType.int) ∈ eT := eT_of (List.mem_of_getElem? (i := 384) (by decide +kernel)) (by decide +kernel)
theorem tw_385 : Cond.fieldLink "ControlledStation" 79 "ControlledStation" "LEAST" "[I" ∈ eT := eT_of (List.mem_of_getElem? (i := 385) (by decide +kernel)) (by decide +kernel)
theorem tw_387 : Cond.fieldLink "ControlledStation" 82 "ControlledStation" "MOST" "[I" ∈ eT := eT_of (List.mem_of_getElem? (i := 387) (by decide +kernel)) (by decide +kernel)
theorem tw_392 : Cond.code ⟨"ControlledStation", "point", "(IIIZ)I"⟩ prog_1_method_3_code 5 (Option.some FieldType.int) ∈ eT := eT_of (List.mem_of_getElem? (i := 392) (by decide +kernel)) (by decide +kernel)
theorem tw_393 : Cond.methodLink "ControlledStation" 85 ⟨"ControlledStation", "isFreeAddress", "(I)Z"⟩ ∈ eT := eT_of (List.mem_of_getElem? (i := 393) (by decide +kernel)) (by decide +kernel)
theorem tw_395 : Cond.instanceMethod ⟨"ControlledStation", "isFreeAddress", "(I)Z"⟩ ∈ eT := eT_of (List.mem_of_getElem? (i := 395) (by decide +kernel)) (by decide +kernel)
theorem tw_396 : Cond.code ⟨"ControlledStation", "isFreeAddress", "(I)Z"⟩ prog_1_method_16_code 2 (Option.some FieldType.boolean) ∈ eT := eT_of (List.mem_of_getElem? (i := 396) (by decide +kernel)) (by decide +kernel)
theorem tw_397 : Cond.constant "ControlledStation" 264 (16777215 : Int32) ∈ eT := eT_of (List.mem_of_getElem? (i := 397) (by decide +kernel)) (by decide +kernel)
theorem tw_398 : Cond.methodLink "ControlledStation" 265 ⟨"ControlledStation$PointTable", "withAddress", "(I)LControlledStation$Point;"⟩ ∈ eT := eT_of (List.mem_of_getElem? (i := 398) (by decide +kernel)) (by decide +kernel)
theorem tw_399 : Cond.instanceMethod ⟨"ControlledStation$PointTable", "withAddress", "(I)LControlledStation$Point;"⟩ ∈ eT := eT_of (List.mem_of_getElem? (i := 399) (by decide +kernel)) (by decide +kernel)
theorem tw_400 : Cond.selects "ControlledStation$PointTable" ⟨"ControlledStation$PointTable", "withAddress", "(I)LControlledStation$Point;"⟩ ⟨"ControlledStation$PointTable", "withAddress", "(I)LControlledStation$Point;"⟩ ∈ eT := eT_of (List.mem_of_getElem? (i := 400) (by decide +kernel)) (by decide +kernel)
theorem tw_401 : Cond.code ⟨"ControlledStation$PointTable", "withAddress", "(I)LControlledStation$Point;"⟩ prog_9_method_5_code 4 (Option.some (FieldType.object "ControlledStation$Point")) ∈ eT := eT_of (List.mem_of_getElem? (i := 401) (by decide +kernel)) (by decide +kernel)
theorem tw_402 : Cond.methodLink "ControlledStation" 268 ⟨"ControlledStation", "commandWith", "(I)LControlledStation$Command;"⟩ ∈ eT := eT_of (List.mem_of_getElem? (i := 402) (by decide +kernel)) (by decide +kernel)
theorem tw_404 : Cond.instanceMethod ⟨"ControlledStation", "commandWith", "(I)LControlledStation$Command;"⟩ ∈ eT := eT_of (List.mem_of_getElem? (i := 404) (by decide +kernel)) (by decide +kernel)
theorem tw_405 : Cond.code ⟨"ControlledStation", "commandWith", "(I)LControlledStation$Command;"⟩ prog_1_method_17_code 4 (Option.some (FieldType.object "ControlledStation$Command")) ∈ eT := eT_of (List.mem_of_getElem? (i := 405) (by decide +kernel)) (by decide +kernel)
theorem tw_406 : Cond.classLink "ControlledStation" 92 "ControlledStation$Point" ∈ eT := eT_of (List.mem_of_getElem? (i := 406) (by decide +kernel)) (by decide +kernel)
theorem tw_407 : Cond.instantiable "ControlledStation$Point" 7 ∈ eT := eT_of (List.mem_of_getElem? (i := 407) (by decide +kernel)) (by decide +kernel)
theorem tw_408 : Cond.methodLink "ControlledStation" 94 ⟨"ControlledStation$Point", "<init>", "(IIIZ)V"⟩ ∈ eT := eT_of (List.mem_of_getElem? (i := 408) (by decide +kernel)) (by decide +kernel)
theorem tw_409 : Cond.instanceMethod ⟨"ControlledStation$Point", "<init>", "(IIIZ)V"⟩ ∈ eT := eT_of (List.mem_of_getElem? (i := 409) (by decide +kernel)) (by decide +kernel)
theorem tw_410 : Cond.code ⟨"ControlledStation$Point", "<init>", "(IIIZ)V"⟩ prog_8_method_1_code 5 (Option.none : Option FieldType) ∈ eT := eT_of (List.mem_of_getElem? (i := 410) (by decide +kernel)) (by decide +kernel)
theorem tw_411 : Cond.methodLink "ControlledStation$Point" 3 ⟨"java/lang/Object", "<init>", "()V"⟩ ∈ eT := eT_of (List.mem_of_getElem? (i := 411) (by decide +kernel)) (by decide +kernel)
theorem tw_412 : Cond.fieldLink "ControlledStation$Point" 9 "ControlledStation$Point" "sort" "I" ∈ eT := eT_of (List.mem_of_getElem? (i := 412) (by decide +kernel)) (by decide +kernel)
theorem tw_413 : Cond.fieldLink "ControlledStation" 105 "ControlledStation$Point" "sort" "I" ∈ eT := eT_of (List.mem_of_getElem? (i := 413) (by decide +kernel)) (by decide +kernel)
theorem tw_414 : Cond.fieldLink "ControlledStation$EventQueue" 52 "ControlledStation$Point" "sort" "I" ∈ eT := eT_of (List.mem_of_getElem? (i := 414) (by decide +kernel)) (by decide +kernel)
theorem tw_415 : Cond.fieldLink "ControlledStation$PointTable" 27 "ControlledStation$Point" "sort" "I" ∈ eT := eT_of (List.mem_of_getElem? (i := 415) (by decide +kernel)) (by decide +kernel)
theorem tw_416 : Cond.fieldLink "ControlledStation$Point" 15 "ControlledStation$Point" "address" "I" ∈ eT := eT_of (List.mem_of_getElem? (i := 416) (by decide +kernel)) (by decide +kernel)
theorem tw_417 : Cond.fieldLink "ControlledStation$PointTable" 24 "ControlledStation$Point" "address" "I" ∈ eT := eT_of (List.mem_of_getElem? (i := 417) (by decide +kernel)) (by decide +kernel)
theorem tw_418 : Cond.fieldLink "ControlledStation" 198 "ControlledStation$Point" "address" "I" ∈ eT := eT_of (List.mem_of_getElem? (i := 418) (by decide +kernel)) (by decide +kernel)
theorem tw_419 : Cond.fieldLink "ControlledStation$Point" 18 "ControlledStation$Point" "group" "I" ∈ eT := eT_of (List.mem_of_getElem? (i := 419) (by decide +kernel)) (by decide +kernel)
theorem tw_420 : Cond.fieldLink "ControlledStation" 201 "ControlledStation$Point" "group" "I" ∈ eT := eT_of (List.mem_of_getElem? (i := 420) (by decide +kernel)) (by decide +kernel)
theorem tw_421 : Cond.fieldLink "ControlledStation$Point" 21 "ControlledStation$Point" "timed" "Z" ∈ eT := eT_of (List.mem_of_getElem? (i := 421) (by decide +kernel)) (by decide +kernel)
theorem tw_422 : Cond.fieldLink "ControlledStation$EventQueue" 44 "ControlledStation$Point" "timed" "Z" ∈ eT := eT_of (List.mem_of_getElem? (i := 422) (by decide +kernel)) (by decide +kernel)
theorem tw_423 : Cond.fieldLink "ControlledStation" 204 "ControlledStation$Point" "timed" "Z" ∈ eT := eT_of (List.mem_of_getElem? (i := 423) (by decide +kernel)) (by decide +kernel)
theorem tw_424 : Cond.fieldLink "ControlledStation" 121 "ControlledStation$Point" "value" "I" ∈ eT := eT_of (List.mem_of_getElem? (i := 424) (by decide +kernel)) (by decide +kernel)
theorem tw_425 : Cond.fieldLink "ControlledStation$PointTable" 30 "ControlledStation$Point" "value" "I" ∈ eT := eT_of (List.mem_of_getElem? (i := 425) (by decide +kernel)) (by decide +kernel)
theorem tw_426 : Cond.fieldLink "ControlledStation$Point" 40 "ControlledStation$Point" "quality" "I" ∈ eT := eT_of (List.mem_of_getElem? (i := 426) (by decide +kernel)) (by decide +kernel)
theorem tw_427 : Cond.fieldLink "ControlledStation" 124 "ControlledStation$Point" "quality" "I" ∈ eT := eT_of (List.mem_of_getElem? (i := 427) (by decide +kernel)) (by decide +kernel)
theorem tw_428 : Cond.fieldLink "ControlledStation$PointTable" 33 "ControlledStation$Point" "frozen" "I" ∈ eT := eT_of (List.mem_of_getElem? (i := 428) (by decide +kernel)) (by decide +kernel)
theorem tw_429 : Cond.fieldLink "ControlledStation" 208 "ControlledStation$Point" "frozen" "I" ∈ eT := eT_of (List.mem_of_getElem? (i := 429) (by decide +kernel)) (by decide +kernel)
theorem tw_445 : Cond.methodLink "ControlledStation" 97 ⟨"ControlledStation$PointTable", "add", "(LControlledStation$Point;)V"⟩ ∈ eT := eT_of (List.mem_of_getElem? (i := 445) (by decide +kernel)) (by decide +kernel)
theorem tw_446 : Cond.instanceMethod ⟨"ControlledStation$PointTable", "add", "(LControlledStation$Point;)V"⟩ ∈ eT := eT_of (List.mem_of_getElem? (i := 446) (by decide +kernel)) (by decide +kernel)
theorem tw_447 : Cond.selects "ControlledStation$PointTable" ⟨"ControlledStation$PointTable", "add", "(LControlledStation$Point;)V"⟩ ⟨"ControlledStation$PointTable", "add", "(LControlledStation$Point;)V"⟩ ∈ eT := eT_of (List.mem_of_getElem? (i := 447) (by decide +kernel)) (by decide +kernel)
theorem tw_448 : Cond.code ⟨"ControlledStation$PointTable", "add", "(LControlledStation$Point;)V"⟩ prog_9_method_2_code 4 (Option.none : Option FieldType) ∈ eT := eT_of (List.mem_of_getElem? (i := 448) (by decide +kernel)) (by decide +kernel)
theorem tw_452 : Cond.code ⟨"ControlledStation", "command", "(IIIZ)I"⟩ prog_1_method_4_code 6 (Option.some FieldType.int) ∈ eT := eT_of (List.mem_of_getElem? (i := 452) (by decide +kernel)) (by decide +kernel)
theorem tw_453 : Cond.methodLink "ControlledStation" 101 ⟨"ControlledStation$PointTable", "at", "(I)LControlledStation$Point;"⟩ ∈ eT := eT_of (List.mem_of_getElem? (i := 453) (by decide +kernel)) (by decide +kernel)
theorem tw_454 : Cond.instanceMethod ⟨"ControlledStation$PointTable", "at", "(I)LControlledStation$Point;"⟩ ∈ eT := eT_of (List.mem_of_getElem? (i := 454) (by decide +kernel)) (by decide +kernel)
theorem tw_455 : Cond.selects "ControlledStation$PointTable" ⟨"ControlledStation$PointTable", "at", "(I)LControlledStation$Point;"⟩ ⟨"ControlledStation$PointTable", "at", "(I)LControlledStation$Point;"⟩ ∈ eT := eT_of (List.mem_of_getElem? (i := 455) (by decide +kernel)) (by decide +kernel)
theorem tw_456 : Cond.code ⟨"ControlledStation$PointTable", "at", "(I)LControlledStation$Point;"⟩ prog_9_method_3_code 2 (Option.some (FieldType.object "ControlledStation$Point")) ∈ eT := eT_of (List.mem_of_getElem? (i := 456) (by decide +kernel)) (by decide +kernel)
theorem tw_457 : Cond.fieldLink "ControlledStation" 108 "ControlledStation" "COMMAND_POINTS" "[I" ∈ eT := eT_of (List.mem_of_getElem? (i := 457) (by decide +kernel)) (by decide +kernel)
theorem tw_459 : Cond.instantiable "ControlledStation$Command" 5 ∈ eT := eT_of (List.mem_of_getElem? (i := 459) (by decide +kernel)) (by decide +kernel)
theorem tw_460 : Cond.methodLink "ControlledStation" 114 ⟨"ControlledStation$Command", "<init>", "(IILControlledStation$Point;Z)V"⟩ ∈ eT := eT_of (List.mem_of_getElem? (i := 460) (by decide +kernel)) (by decide +kernel)
theorem tw_461 : Cond.instanceMethod ⟨"ControlledStation$Command", "<init>", "(IILControlledStation$Point;Z)V"⟩ ∈ eT := eT_of (List.mem_of_getElem? (i := 461) (by decide +kernel)) (by decide +kernel)
theorem tw_462 : Cond.code ⟨"ControlledStation$Command", "<init>", "(IILControlledStation$Point;Z)V"⟩ prog_4_method_1_code 5 (Option.none : Option FieldType) ∈ eT := eT_of (List.mem_of_getElem? (i := 462) (by decide +kernel)) (by decide +kernel)
theorem tw_463 : Cond.methodLink "ControlledStation$Command" 1 ⟨"java/lang/Object", "<init>", "()V"⟩ ∈ eT := eT_of (List.mem_of_getElem? (i := 463) (by decide +kernel)) (by decide +kernel)
theorem tw_464 : Cond.fieldLink "ControlledStation$Command" 7 "ControlledStation$Command" "sort" "I" ∈ eT := eT_of (List.mem_of_getElem? (i := 464) (by decide +kernel)) (by decide +kernel)
theorem tw_465 : Cond.fieldLink "ControlledStation" 415 "ControlledStation$Command" "sort" "I" ∈ eT := eT_of (List.mem_of_getElem? (i := 465) (by decide +kernel)) (by decide +kernel)
theorem tw_466 : Cond.fieldLink "ControlledStation$Command" 13 "ControlledStation$Command" "address" "I" ∈ eT := eT_of (List.mem_of_getElem? (i := 466) (by decide +kernel)) (by decide +kernel)
theorem tw_467 : Cond.fieldLink "ControlledStation" 272 "ControlledStation$Command" "address" "I" ∈ eT := eT_of (List.mem_of_getElem? (i := 467) (by decide +kernel)) (by decide +kernel)
theorem tw_468 : Cond.fieldLink "ControlledStation$Command" 16 "ControlledStation$Command" "target" "LControlledStation$Point;" ∈ eT := eT_of (List.mem_of_getElem? (i := 468) (by decide +kernel)) (by decide +kernel)
theorem tw_469 : Cond.fieldLink "ControlledStation" 454 "ControlledStation$Command" "target" "LControlledStation$Point;" ∈ eT := eT_of (List.mem_of_getElem? (i := 469) (by decide +kernel)) (by decide +kernel)
theorem tw_470 : Cond.fieldLink "ControlledStation$Command" 20 "ControlledStation$Command" "mustBeSelected" "Z" ∈ eT := eT_of (List.mem_of_getElem? (i := 470) (by decide +kernel)) (by decide +kernel)
theorem tw_471 : Cond.fieldLink "ControlledStation" 429 "ControlledStation$Command" "mustBeSelected" "Z" ∈ eT := eT_of (List.mem_of_getElem? (i := 471) (by decide +kernel)) (by decide +kernel)
theorem tw_472 : Cond.fieldLink "ControlledStation" 218 "ControlledStation$Command" "carriedOut" "I" ∈ eT := eT_of (List.mem_of_getElem? (i := 472) (by decide +kernel)) (by decide +kernel)
theorem tw_487 : Cond.code ⟨"ControlledStation", "change", "(III)I"⟩ prog_1_method_5_code 6 (Option.some FieldType.int) ∈ eT := eT_of (List.mem_of_getElem? (i := 487) (by decide +kernel)) (by decide +kernel)
theorem tw_488 : Cond.methodLink "ControlledStation" 117 ⟨"ControlledStation$Point", "fits", "(II)Z"⟩ ∈ eT := eT_of (List.mem_of_getElem? (i := 488) (by decide +kernel)) (by decide +kernel)
theorem tw_489 : Cond.instanceMethod ⟨"ControlledStation$Point", "fits", "(II)Z"⟩ ∈ eT := eT_of (List.mem_of_getElem? (i := 489) (by decide +kernel)) (by decide +kernel)
theorem tw_490 : Cond.selects "ControlledStation$Point" ⟨"ControlledStation$Point", "fits", "(II)Z"⟩ ⟨"ControlledStation$Point", "fits", "(II)Z"⟩ ∈ eT := eT_of (List.mem_of_getElem? (i := 490) (by decide +kernel)) (by decide +kernel)
theorem tw_491 : Cond.code ⟨"ControlledStation$Point", "fits", "(II)Z"⟩ prog_8_method_2_code 4 (Option.some FieldType.boolean) ∈ eT := eT_of (List.mem_of_getElem? (i := 491) (by decide +kernel)) (by decide +kernel)
theorem tw_492 : Cond.fieldLinkNest "ControlledStation$Point" 25 "ControlledStation" "LEAST_VALUES" "[I" "ControlledStation" ∈ eN := eN_of (List.mem_of_getElem? (i := 492) (by decide +kernel)) (by decide +kernel)
theorem tw_494 : Cond.fieldLinkNest "ControlledStation$Point" 29 "ControlledStation" "MOST_VALUES" "[I" "ControlledStation" ∈ eN := eN_of (List.mem_of_getElem? (i := 494) (by decide +kernel)) (by decide +kernel)
theorem tw_496 : Cond.constant "ControlledStation$Point" 32 (2147483647 : Int32) ∈ eT := eT_of (List.mem_of_getElem? (i := 496) (by decide +kernel)) (by decide +kernel)
theorem tw_497 : Cond.constant "ControlledStation$Point" 33 (2139095040 : Int32) ∈ eT := eT_of (List.mem_of_getElem? (i := 497) (by decide +kernel)) (by decide +kernel)
theorem tw_498 : Cond.fieldLinkNest "ControlledStation$Point" 34 "ControlledStation" "QUALITIES" "[I" "ControlledStation" ∈ eN := eN_of (List.mem_of_getElem? (i := 498) (by decide +kernel)) (by decide +kernel)
theorem tw_500 : Cond.methodLink "ControlledStation" 127 ⟨"ControlledStation$EventQueue", "waiting", "()I"⟩ ∈ eT := eT_of (List.mem_of_getElem? (i := 500) (by decide +kernel)) (by decide +kernel)
theorem tw_501 : Cond.instanceMethod ⟨"ControlledStation$EventQueue", "waiting", "()I"⟩ ∈ eT := eT_of (List.mem_of_getElem? (i := 501) (by decide +kernel)) (by decide +kernel)
theorem tw_502 : Cond.selects "ControlledStation$EventQueue" ⟨"ControlledStation$EventQueue", "waiting", "()I"⟩ ⟨"ControlledStation$EventQueue", "waiting", "()I"⟩ ∈ eT := eT_of (List.mem_of_getElem? (i := 502) (by decide +kernel)) (by decide +kernel)
theorem tw_503 : Cond.code ⟨"ControlledStation$EventQueue", "waiting", "()I"⟩ prog_5_method_2_code 1 (Option.some FieldType.int) ∈ eT := eT_of (List.mem_of_getElem? (i := 503) (by decide +kernel)) (by decide +kernel)
theorem tw_504 : Cond.methodLink "ControlledStation" 134 ⟨"ControlledStation$Point", "object", "(II)J"⟩ ∈ eT := eT_of (List.mem_of_getElem? (i := 504) (by decide +kernel)) (by decide +kernel)
theorem tw_505 : Cond.instanceMethod ⟨"ControlledStation$Point", "object", "(II)J"⟩ ∈ eT := eT_of (List.mem_of_getElem? (i := 505) (by decide +kernel)) (by decide +kernel)
theorem tw_506 : Cond.selects "ControlledStation$Point" ⟨"ControlledStation$Point", "object", "(II)J"⟩ ⟨"ControlledStation$Point", "object", "(II)J"⟩ ∈ eT := eT_of (List.mem_of_getElem? (i := 506) (by decide +kernel)) (by decide +kernel)
theorem tw_507 : Cond.code ⟨"ControlledStation$Point", "object", "(II)J"⟩ prog_8_method_5_code 6 (Option.some FieldType.long) ∈ eT := eT_of (List.mem_of_getElem? (i := 507) (by decide +kernel)) (by decide +kernel)
theorem tw_508 : Cond.fieldLinkNest "ControlledStation$Point" 43 "ControlledStation" "VALUE_MASKS" "[J" "ControlledStation" ∈ eN := eN_of (List.mem_of_getElem? (i := 508) (by decide +kernel)) (by decide +kernel)
theorem tw_510 : Cond.fieldLinkNest "ControlledStation$Point" 37 "ControlledStation" "VALUE_BYTES" "[I" "ControlledStation" ∈ eN := eN_of (List.mem_of_getElem? (i := 510) (by decide +kernel)) (by decide +kernel)
theorem tw_512 : Cond.methodLink "ControlledStation" 138 ⟨"ControlledStation$Calendar", "time", "()J"⟩ ∈ eT := eT_of (List.mem_of_getElem? (i := 512) (by decide +kernel)) (by decide +kernel)
theorem tw_513 : Cond.instanceMethod ⟨"ControlledStation$Calendar", "time", "()J"⟩ ∈ eT := eT_of (List.mem_of_getElem? (i := 513) (by decide +kernel)) (by decide +kernel)
theorem tw_514 : Cond.selects "ControlledStation$Calendar" ⟨"ControlledStation$Calendar", "time", "()J"⟩ ⟨"ControlledStation$Calendar", "time", "()J"⟩ ∈ eT := eT_of (List.mem_of_getElem? (i := 514) (by decide +kernel)) (by decide +kernel)
theorem tw_515 : Cond.code ⟨"ControlledStation$Calendar", "time", "()J"⟩ prog_3_method_3_code 4 (Option.some FieldType.long) ∈ eT := eT_of (List.mem_of_getElem? (i := 515) (by decide +kernel)) (by decide +kernel)
theorem tw_516 : Cond.methodLink "ControlledStation" 142 ⟨"ControlledStation$EventQueue", "add", "(LControlledStation$Point;JJ)V"⟩ ∈ eT := eT_of (List.mem_of_getElem? (i := 516) (by decide +kernel)) (by decide +kernel)
theorem tw_517 : Cond.instanceMethod ⟨"ControlledStation$EventQueue", "add", "(LControlledStation$Point;JJ)V"⟩ ∈ eT := eT_of (List.mem_of_getElem? (i := 517) (by decide +kernel)) (by decide +kernel)
theorem tw_518 : Cond.selects "ControlledStation$EventQueue" ⟨"ControlledStation$EventQueue", "add", "(LControlledStation$Point;JJ)V"⟩ ⟨"ControlledStation$EventQueue", "add", "(LControlledStation$Point;JJ)V"⟩ ∈ eT := eT_of (List.mem_of_getElem? (i := 518) (by decide +kernel)) (by decide +kernel)
theorem tw_519 : Cond.code ⟨"ControlledStation$EventQueue", "add", "(LControlledStation$Point;JJ)V"⟩ prog_5_method_3_code 7 (Option.none : Option FieldType) ∈ eT := eT_of (List.mem_of_getElem? (i := 519) (by decide +kernel)) (by decide +kernel)
theorem tw_520 : Cond.methodLink "ControlledStation" 145 ⟨"ControlledStation", "sendWaiting", "()V"⟩ ∈ eT := eT_of (List.mem_of_getElem? (i := 520) (by decide +kernel)) (by decide +kernel)
theorem tw_522 : Cond.instanceMethod ⟨"ControlledStation", "sendWaiting", "()V"⟩ ∈ eT := eT_of (List.mem_of_getElem? (i := 522) (by decide +kernel)) (by decide +kernel)
theorem tw_523 : Cond.code ⟨"ControlledStation", "sendWaiting", "()V"⟩ prog_1_method_25_code 2 (Option.none : Option FieldType) ∈ eT := eT_of (List.mem_of_getElem? (i := 523) (by decide +kernel)) (by decide +kernel)
theorem tw_524 : Cond.methodLink "ControlledStation" 319 ⟨"ControlledStation$AnswerQueue", "first", "()LControlledStation$Message;"⟩ ∈ eT := eT_of (List.mem_of_getElem? (i := 524) (by decide +kernel)) (by decide +kernel)
theorem tw_525 : Cond.instanceMethod ⟨"ControlledStation$AnswerQueue", "first", "()LControlledStation$Message;"⟩ ∈ eT := eT_of (List.mem_of_getElem? (i := 525) (by decide +kernel)) (by decide +kernel)
theorem tw_526 : Cond.selects "ControlledStation$AnswerQueue" ⟨"ControlledStation$AnswerQueue", "first", "()LControlledStation$Message;"⟩ ⟨"ControlledStation$AnswerQueue", "first", "()LControlledStation$Message;"⟩ ∈ eT := eT_of (List.mem_of_getElem? (i := 526) (by decide +kernel)) (by decide +kernel)
theorem tw_527 : Cond.code ⟨"ControlledStation$AnswerQueue", "first", "()LControlledStation$Message;"⟩ prog_2_method_4_code 1 (Option.some (FieldType.object "ControlledStation$Message")) ∈ eT := eT_of (List.mem_of_getElem? (i := 527) (by decide +kernel)) (by decide +kernel)
theorem tw_528 : Cond.methodLink "ControlledStation" 323 ⟨"ControlledStation", "sendData", "(LControlledStation$Message;Z)Z"⟩ ∈ eT := eT_of (List.mem_of_getElem? (i := 528) (by decide +kernel)) (by decide +kernel)
theorem tw_530 : Cond.instanceMethod ⟨"ControlledStation", "sendData", "(LControlledStation$Message;Z)Z"⟩ ∈ eT := eT_of (List.mem_of_getElem? (i := 530) (by decide +kernel)) (by decide +kernel)
theorem tw_531 : Cond.code ⟨"ControlledStation", "sendData", "(LControlledStation$Message;Z)Z"⟩ prog_1_method_23_code 4 (Option.some FieldType.boolean) ∈ eT := eT_of (List.mem_of_getElem? (i := 531) (by decide +kernel)) (by decide +kernel)
theorem tw_532 : Cond.methodLink "ControlledStation" 307 ⟨"ControlledStation$Receiver", "ackToTell", "()I"⟩ ∈ eT := eT_of (List.mem_of_getElem? (i := 532) (by decide +kernel)) (by decide +kernel)
theorem tw_533 : Cond.instanceMethod ⟨"ControlledStation$Receiver", "ackToTell", "()I"⟩ ∈ eT := eT_of (List.mem_of_getElem? (i := 533) (by decide +kernel)) (by decide +kernel)
theorem tw_534 : Cond.selects "ControlledStation$Receiver" ⟨"ControlledStation$Receiver", "ackToTell", "()I"⟩ ⟨"ControlledStation$Receiver", "ackToTell", "()I"⟩ ∈ eT := eT_of (List.mem_of_getElem? (i := 534) (by decide +kernel)) (by decide +kernel)
theorem tw_535 : Cond.code ⟨"ControlledStation$Receiver", "ackToTell", "()I"⟩ prog_10_method_8_code 1 (Option.some FieldType.int) ∈ eT := eT_of (List.mem_of_getElem? (i := 535) (by decide +kernel)) (by decide +kernel)
theorem tw_536 : Cond.methodLink "ControlledStation" 303 ⟨"ControlledStation", "sendFrame", "(ILControlledStation$Message;)Z"⟩ ∈ eT := eT_of (List.mem_of_getElem? (i := 536) (by decide +kernel)) (by decide +kernel)
theorem tw_538 : Cond.instanceMethod ⟨"ControlledStation", "sendFrame", "(ILControlledStation$Message;)Z"⟩ ∈ eT := eT_of (List.mem_of_getElem? (i := 538) (by decide +kernel)) (by decide +kernel)
theorem tw_539 : Cond.code ⟨"ControlledStation", "sendFrame", "(ILControlledStation$Message;)Z"⟩ prog_1_method_24_code 5 (Option.some FieldType.boolean) ∈ eT := eT_of (List.mem_of_getElem? (i := 539) (by decide +kernel)) (by decide +kernel)
theorem tw_540 : Cond.methodLink "ControlledStation" 161 ⟨"ControlledStation", "shut", "(I)V"⟩ ∈ eT := eT_of (List.mem_of_getElem? (i := 540) (by decide +kernel)) (by decide +kernel)
theorem tw_542 : Cond.instanceMethod ⟨"ControlledStation", "shut", "(I)V"⟩ ∈ eT := eT_of (List.mem_of_getElem? (i := 542) (by decide +kernel)) (by decide +kernel)
theorem tw_543 : Cond.code ⟨"ControlledStation", "shut", "(I)V"⟩ prog_1_method_18_code 2 (Option.none : Option FieldType) ∈ eT := eT_of (List.mem_of_getElem? (i := 543) (by decide +kernel)) (by decide +kernel)
theorem tw_544 : Cond.methodLink "ControlledStation" 273 ⟨"ControlledStation$AnswerQueue", "clear", "()V"⟩ ∈ eT := eT_of (List.mem_of_getElem? (i := 544) (by decide +kernel)) (by decide +kernel)
theorem tw_545 : Cond.instanceMethod ⟨"ControlledStation$AnswerQueue", "clear", "()V"⟩ ∈ eT := eT_of (List.mem_of_getElem? (i := 545) (by decide +kernel)) (by decide +kernel)
theorem tw_546 : Cond.selects "ControlledStation$AnswerQueue" ⟨"ControlledStation$AnswerQueue", "clear", "()V"⟩ ⟨"ControlledStation$AnswerQueue", "clear", "()V"⟩ ∈ eT := eT_of (List.mem_of_getElem? (i := 546) (by decide +kernel)) (by decide +kernel)
theorem tw_547 : Cond.code ⟨"ControlledStation$AnswerQueue", "clear", "()V"⟩ prog_2_method_2_code 1 (Option.none : Option FieldType) ∈ eT := eT_of (List.mem_of_getElem? (i := 547) (by decide +kernel)) (by decide +kernel)
theorem tw_548 : Cond.methodLink "ControlledStation" 274 ⟨"ControlledStation$Selection", "end", "()V"⟩ ∈ eT := eT_of (List.mem_of_getElem? (i := 548) (by decide +kernel)) (by decide +kernel)
theorem tw_549 : Cond.instanceMethod ⟨"ControlledStation$Selection", "end", "()V"⟩ ∈ eT := eT_of (List.mem_of_getElem? (i := 549) (by decide +kernel)) (by decide +kernel)
theorem tw_550 : Cond.selects "ControlledStation$Selection" ⟨"ControlledStation$Selection", "end", "()V"⟩ ⟨"ControlledStation$Selection", "end", "()V"⟩ ∈ eT := eT_of (List.mem_of_getElem? (i := 550) (by decide +kernel)) (by decide +kernel)
theorem tw_551 : Cond.code ⟨"ControlledStation$Selection", "end", "()V"⟩ prog_11_method_3_code 1 (Option.none : Option FieldType) ∈ eT := eT_of (List.mem_of_getElem? (i := 551) (by decide +kernel)) (by decide +kernel)
theorem tw_552 : Cond.methodLink "ControlledStation" 277 ⟨"ControlledStation$EventQueue", "waitAgain", "()V"⟩ ∈ eT := eT_of (List.mem_of_getElem? (i := 552) (by decide +kernel)) (by decide +kernel)
theorem tw_553 : Cond.instanceMethod ⟨"ControlledStation$EventQueue", "waitAgain", "()V"⟩ ∈ eT := eT_of (List.mem_of_getElem? (i := 553) (by decide +kernel)) (by decide +kernel)
theorem tw_554 : Cond.selects "ControlledStation$EventQueue" ⟨"ControlledStation$EventQueue", "waitAgain", "()V"⟩ ⟨"ControlledStation$EventQueue", "waitAgain", "()V"⟩ ∈ eT := eT_of (List.mem_of_getElem? (i := 554) (by decide +kernel)) (by decide +kernel)
theorem tw_555 : Cond.code ⟨"ControlledStation$EventQueue", "waitAgain", "()V"⟩ prog_5_method_7_code 1 (Option.none : Option FieldType) ∈ eT := eT_of (List.mem_of_getElem? (i := 555) (by decide +kernel)) (by decide +kernel)
theorem tw_556 : Cond.methodLink "ControlledStation" 280 ⟨"ControlledStation$SentFrames", "forget", "()V"⟩ ∈ eT := eT_of (List.mem_of_getElem? (i := 556) (by decide +kernel)) (by decide +kernel)
theorem tw_557 : Cond.instanceMethod ⟨"ControlledStation$SentFrames", "forget", "()V"⟩ ∈ eT := eT_of (List.mem_of_getElem? (i := 557) (by decide +kernel)) (by decide +kernel)
theorem tw_558 : Cond.selects "ControlledStation$SentFrames" ⟨"ControlledStation$SentFrames", "forget", "()V"⟩ ⟨"ControlledStation$SentFrames", "forget", "()V"⟩ ∈ eT := eT_of (List.mem_of_getElem? (i := 558) (by decide +kernel)) (by decide +kernel)
theorem tw_559 : Cond.code ⟨"ControlledStation$SentFrames", "forget", "()V"⟩ prog_12_method_3_code 1 (Option.none : Option FieldType) ∈ eT := eT_of (List.mem_of_getElem? (i := 559) (by decide +kernel)) (by decide +kernel)
theorem tw_560 : Cond.methodLink "ControlledStation" 283 ⟨"ControlledStation$Receiver", "forget", "()V"⟩ ∈ eT := eT_of (List.mem_of_getElem? (i := 560) (by decide +kernel)) (by decide +kernel)
theorem tw_561 : Cond.instanceMethod ⟨"ControlledStation$Receiver", "forget", "()V"⟩ ∈ eT := eT_of (List.mem_of_getElem? (i := 561) (by decide +kernel)) (by decide +kernel)
theorem tw_562 : Cond.selects "ControlledStation$Receiver" ⟨"ControlledStation$Receiver", "forget", "()V"⟩ ⟨"ControlledStation$Receiver", "forget", "()V"⟩ ∈ eT := eT_of (List.mem_of_getElem? (i := 562) (by decide +kernel)) (by decide +kernel)
theorem tw_563 : Cond.code ⟨"ControlledStation$Receiver", "forget", "()V"⟩ prog_10_method_3_code 1 (Option.none : Option FieldType) ∈ eT := eT_of (List.mem_of_getElem? (i := 563) (by decide +kernel)) (by decide +kernel)
theorem tw_564 : Cond.methodLink "ControlledStation" 316 ⟨"ControlledStation$OutBytes", "add", "(I)V"⟩ ∈ eT := eT_of (List.mem_of_getElem? (i := 564) (by decide +kernel)) (by decide +kernel)
theorem tw_565 : Cond.instanceMethod ⟨"ControlledStation$OutBytes", "add", "(I)V"⟩ ∈ eT := eT_of (List.mem_of_getElem? (i := 565) (by decide +kernel)) (by decide +kernel)
theorem tw_566 : Cond.selects "ControlledStation$OutBytes" ⟨"ControlledStation$OutBytes", "add", "(I)V"⟩ ⟨"ControlledStation$OutBytes", "add", "(I)V"⟩ ∈ eT := eT_of (List.mem_of_getElem? (i := 566) (by decide +kernel)) (by decide +kernel)
theorem tw_567 : Cond.code ⟨"ControlledStation$OutBytes", "add", "(I)V"⟩ prog_7_method_3_code 2 (Option.none : Option FieldType) ∈ eT := eT_of (List.mem_of_getElem? (i := 567) (by decide +kernel)) (by decide +kernel)
theorem tw_568 : Cond.methodLink "ControlledStation" 318 ⟨"ControlledStation$Message", "at", "(I)I"⟩ ∈ eT := eT_of (List.mem_of_getElem? (i := 568) (by decide +kernel)) (by decide +kernel)
theorem tw_569 : Cond.instanceMethod ⟨"ControlledStation$Message", "at", "(I)I"⟩ ∈ eT := eT_of (List.mem_of_getElem? (i := 569) (by decide +kernel)) (by decide +kernel)
theorem tw_570 : Cond.selects "ControlledStation$Message" ⟨"ControlledStation$Message", "at", "(I)I"⟩ ⟨"ControlledStation$Message", "at", "(I)I"⟩ ∈ eT := eT_of (List.mem_of_getElem? (i := 570) (by decide +kernel)) (by decide +kernel)
theorem tw_571 : Cond.code ⟨"ControlledStation$Message", "at", "(I)I"⟩ prog_6_method_6_code 2 (Option.some FieldType.int) ∈ eT := eT_of (List.mem_of_getElem? (i := 571) (by decide +kernel)) (by decide +kernel)
theorem tw_572 : Cond.methodLink "ControlledStation" 310 ⟨"ControlledStation$SentFrames", "add", "(IZ)V"⟩ ∈ eT := eT_of (List.mem_of_getElem? (i := 572) (by decide +kernel)) (by decide +kernel)
theorem tw_573 : Cond.instanceMethod ⟨"ControlledStation$SentFrames", "add", "(IZ)V"⟩ ∈ eT := eT_of (List.mem_of_getElem? (i := 573) (by decide +kernel)) (by decide +kernel)
theorem tw_574 : Cond.selects "ControlledStation$SentFrames" ⟨"ControlledStation$SentFrames", "add", "(IZ)V"⟩ ⟨"ControlledStation$SentFrames", "add", "(IZ)V"⟩ ∈ eT := eT_of (List.mem_of_getElem? (i := 574) (by decide +kernel)) (by decide +kernel)
theorem tw_575 : Cond.code ⟨"ControlledStation$SentFrames", "add", "(IZ)V"⟩ prog_12_method_4_code 4 (Option.none : Option FieldType) ∈ eT := eT_of (List.mem_of_getElem? (i := 575) (by decide +kernel)) (by decide +kernel)
theorem tw_576 : Cond.methodLink "ControlledStation" 327 ⟨"ControlledStation$AnswerQueue", "dropFirst", "()V"⟩ ∈ eT := eT_of (List.mem_of_getElem? (i := 576) (by decide +kernel)) (by decide +kernel)
theorem tw_577 : Cond.instanceMethod ⟨"ControlledStation$AnswerQueue", "dropFirst", "()V"⟩ ∈ eT := eT_of (List.mem_of_getElem? (i := 577) (by decide +kernel)) (by decide +kernel)
theorem tw_578 : Cond.selects "ControlledStation$AnswerQueue" ⟨"ControlledStation$AnswerQueue", "dropFirst", "()V"⟩ ⟨"ControlledStation$AnswerQueue", "dropFirst", "()V"⟩ ∈ eT := eT_of (List.mem_of_getElem? (i := 578) (by decide +kernel)) (by decide +kernel)
theorem tw_579 : Cond.code ⟨"ControlledStation$AnswerQueue", "dropFirst", "()V"⟩ prog_2_method_5_code 1 (Option.none : Option FieldType) ∈ eT := eT_of (List.mem_of_getElem? (i := 579) (by decide +kernel)) (by decide +kernel)
theorem tw_580 : Cond.methodLink "ControlledStation" 329 ⟨"ControlledStation$EventQueue", "next", "(I)LControlledStation$Message;"⟩ ∈ eT := eT_of (List.mem_of_getElem? (i := 580) (by decide +kernel)) (by decide +kernel)
theorem tw_581 : Cond.instanceMethod ⟨"ControlledStation$EventQueue", "next", "(I)LControlledStation$Message;"⟩ ∈ eT := eT_of (List.mem_of_getElem? (i := 581) (by decide +kernel)) (by decide +kernel)
theorem tw_582 : Cond.selects "ControlledStation$EventQueue" ⟨"ControlledStation$EventQueue", "next", "(I)LControlledStation$Message;"⟩ ⟨"ControlledStation$EventQueue", "next", "(I)LControlledStation$Message;"⟩ ∈ eT := eT_of (List.mem_of_getElem? (i := 582) (by decide +kernel)) (by decide +kernel)
theorem tw_583 : Cond.code ⟨"ControlledStation$EventQueue", "next", "(I)LControlledStation$Message;"⟩ prog_5_method_4_code 5 (Option.some (FieldType.object "ControlledStation$Message")) ∈ eT := eT_of (List.mem_of_getElem? (i := 583) (by decide +kernel)) (by decide +kernel)
theorem tw_584 : Cond.methodLink "ControlledStation$EventQueue" 41 ⟨"ControlledStation$Message", "clear", "()V"⟩ ∈ eT := eT_of (List.mem_of_getElem? (i := 584) (by decide +kernel)) (by decide +kernel)
theorem tw_585 : Cond.instanceMethod ⟨"ControlledStation$Message", "clear", "()V"⟩ ∈ eT := eT_of (List.mem_of_getElem? (i := 585) (by decide +kernel)) (by decide +kernel)
theorem tw_586 : Cond.selects "ControlledStation$Message" ⟨"ControlledStation$Message", "clear", "()V"⟩ ⟨"ControlledStation$Message", "clear", "()V"⟩ ∈ eT := eT_of (List.mem_of_getElem? (i := 586) (by decide +kernel)) (by decide +kernel)
theorem tw_587 : Cond.code ⟨"ControlledStation$Message", "clear", "()V"⟩ prog_6_method_2_code 1 (Option.none : Option FieldType) ∈ eT := eT_of (List.mem_of_getElem? (i := 587) (by decide +kernel)) (by decide +kernel)
theorem tw_588 : Cond.fieldLinkNest "ControlledStation$EventQueue" 48 "ControlledStation" "TIMED_TYPES" "[I" "ControlledStation" ∈ eN := eN_of (List.mem_of_getElem? (i := 588) (by decide +kernel)) (by decide +kernel)
theorem tw_590 : Cond.fieldLinkNest "ControlledStation$EventQueue" 55 "ControlledStation" "TYPES" "[I" "ControlledStation" ∈ eN := eN_of (List.mem_of_getElem? (i := 590) (by decide +kernel)) (by decide +kernel)
theorem tw_592 : Cond.methodLinkNest "ControlledStation$EventQueue" 58 ⟨"ControlledStation", "objectHead", "(IIII)J"⟩ "ControlledStation" ∈ eN := eN_of (List.mem_of_getElem? (i := 592) (by decide +kernel)) (by decide +kernel)
theorem tw_593 : Cond.static ⟨"ControlledStation", "objectHead", "(IIII)J"⟩ ∈ eT := eT_of (List.mem_of_getElem? (i := 593) (by decide +kernel)) (by decide +kernel)
theorem tw_594 : Cond.code ⟨"ControlledStation", "objectHead", "(IIII)J"⟩ prog_1_method_48_code 4 (Option.some FieldType.long) ∈ eT := eT_of (List.mem_of_getElem? (i := 594) (by decide +kernel)) (by decide +kernel)
theorem tw_595 : Cond.methodLink "ControlledStation$EventQueue" 62 ⟨"ControlledStation$Message", "add", "(JI)V"⟩ ∈ eT := eT_of (List.mem_of_getElem? (i := 595) (by decide +kernel)) (by decide +kernel)
theorem tw_596 : Cond.instanceMethod ⟨"ControlledStation$Message", "add", "(JI)V"⟩ ∈ eT := eT_of (List.mem_of_getElem? (i := 596) (by decide +kernel)) (by decide +kernel)
theorem tw_597 : Cond.selects "ControlledStation$Message" ⟨"ControlledStation$Message", "add", "(JI)V"⟩ ⟨"ControlledStation$Message", "add", "(JI)V"⟩ ∈ eT := eT_of (List.mem_of_getElem? (i := 597) (by decide +kernel)) (by decide +kernel)
theorem tw_598 : Cond.code ⟨"ControlledStation$Message", "add", "(JI)V"⟩ prog_6_method_3_code 5 (Option.none : Option FieldType) ∈ eT := eT_of (List.mem_of_getElem? (i := 598) (by decide +kernel)) (by decide +kernel)
theorem tw_599 : Cond.methodLink "ControlledStation$EventQueue" 66 ⟨"ControlledStation$Point", "objectBytes", "()I"⟩ ∈ eT := eT_of (List.mem_of_getElem? (i := 599) (by decide +kernel)) (by decide +kernel)
theorem tw_600 : Cond.instanceMethod ⟨"ControlledStation$Point", "objectBytes", "()I"⟩ ∈ eT := eT_of (List.mem_of_getElem? (i := 600) (by decide +kernel)) (by decide +kernel)
theorem tw_601 : Cond.selects "ControlledStation$Point" ⟨"ControlledStation$Point", "objectBytes", "()I"⟩ ⟨"ControlledStation$Point", "objectBytes", "()I"⟩ ∈ eT := eT_of (List.mem_of_getElem? (i := 601) (by decide +kernel)) (by decide +kernel)
theorem tw_602 : Cond.code ⟨"ControlledStation$Point", "objectBytes", "()I"⟩ prog_8_method_4_code 1 (Option.some FieldType.int) ∈ eT := eT_of (List.mem_of_getElem? (i := 602) (by decide +kernel)) (by decide +kernel)
theorem tw_603 : Cond.methodLink "ControlledStation" 333 ⟨"ControlledStation$EventQueue", "nextWasSent", "()V"⟩ ∈ eT := eT_of (List.mem_of_getElem? (i := 603) (by decide +kernel)) (by decide +kernel)
theorem tw_604 : Cond.instanceMethod ⟨"ControlledStation$EventQueue", "nextWasSent", "()V"⟩ ∈ eT := eT_of (List.mem_of_getElem? (i := 604) (by decide +kernel)) (by decide +kernel)
theorem tw_605 : Cond.selects "ControlledStation$EventQueue" ⟨"ControlledStation$EventQueue", "nextWasSent", "()V"⟩ ⟨"ControlledStation$EventQueue", "nextWasSent", "()V"⟩ ∈ eT := eT_of (List.mem_of_getElem? (i := 605) (by decide +kernel)) (by decide +kernel)
theorem tw_606 : Cond.code ⟨"ControlledStation$EventQueue", "nextWasSent", "()V"⟩ prog_5_method_5_code 1 (Option.none : Option FieldType) ∈ eT := eT_of (List.mem_of_getElem? (i := 606) (by decide +kernel)) (by decide +kernel)
theorem tw_610 : Cond.code ⟨"ControlledStation", "open", "()I"⟩ prog_1_method_6_code 1 (Option.some FieldType.int) ∈ eT := eT_of (List.mem_of_getElem? (i := 610) (by decide +kernel)) (by decide +kernel)
theorem tw_611 : Cond.methodLink "ControlledStation" 148 ⟨"ControlledStation$OutBytes", "clear", "()V"⟩ ∈ eT := eT_of (List.mem_of_getElem? (i := 611) (by decide +kernel)) (by decide +kernel)
theorem tw_612 : Cond.instanceMethod ⟨"ControlledStation$OutBytes", "clear", "()V"⟩ ∈ eT := eT_of (List.mem_of_getElem? (i := 612) (by decide +kernel)) (by decide +kernel)
theorem tw_613 : Cond.selects "ControlledStation$OutBytes" ⟨"ControlledStation$OutBytes", "clear", "()V"⟩ ⟨"ControlledStation$OutBytes", "clear", "()V"⟩ ∈ eT := eT_of (List.mem_of_getElem? (i := 613) (by decide +kernel)) (by decide +kernel)
theorem tw_614 : Cond.code ⟨"ControlledStation$OutBytes", "clear", "()V"⟩ prog_7_method_2_code 1 (Option.none : Option FieldType) ∈ eT := eT_of (List.mem_of_getElem? (i := 614) (by decide +kernel)) (by decide +kernel)
theorem tw_615 : Cond.methodLink "ControlledStation" 151 ⟨"ControlledStation$SentFrames", "restart", "()V"⟩ ∈ eT := eT_of (List.mem_of_getElem? (i := 615) (by decide +kernel)) (by decide +kernel)
theorem tw_616 : Cond.instanceMethod ⟨"ControlledStation$SentFrames", "restart", "()V"⟩ ∈ eT := eT_of (List.mem_of_getElem? (i := 616) (by decide +kernel)) (by decide +kernel)
theorem tw_617 : Cond.selects "ControlledStation$SentFrames" ⟨"ControlledStation$SentFrames", "restart", "()V"⟩ ⟨"ControlledStation$SentFrames", "restart", "()V"⟩ ∈ eT := eT_of (List.mem_of_getElem? (i := 617) (by decide +kernel)) (by decide +kernel)
theorem tw_618 : Cond.code ⟨"ControlledStation$SentFrames", "restart", "()V"⟩ prog_12_method_2_code 1 (Option.none : Option FieldType) ∈ eT := eT_of (List.mem_of_getElem? (i := 618) (by decide +kernel)) (by decide +kernel)
theorem tw_619 : Cond.methodLink "ControlledStation$SentFrames" 23 ⟨"ControlledStation$SentFrames", "forget", "()V"⟩ ∈ eT := eT_of (List.mem_of_getElem? (i := 619) (by decide +kernel)) (by decide +kernel)
theorem tw_620 : Cond.methodLink "ControlledStation" 154 ⟨"ControlledStation$Receiver", "restart", "()V"⟩ ∈ eT := eT_of (List.mem_of_getElem? (i := 620) (by decide +kernel)) (by decide +kernel)
theorem tw_621 : Cond.instanceMethod ⟨"ControlledStation$Receiver", "restart", "()V"⟩ ∈ eT := eT_of (List.mem_of_getElem? (i := 621) (by decide +kernel)) (by decide +kernel)
theorem tw_622 : Cond.selects "ControlledStation$Receiver" ⟨"ControlledStation$Receiver", "restart", "()V"⟩ ⟨"ControlledStation$Receiver", "restart", "()V"⟩ ∈ eT := eT_of (List.mem_of_getElem? (i := 622) (by decide +kernel)) (by decide +kernel)
theorem tw_623 : Cond.code ⟨"ControlledStation$Receiver", "restart", "()V"⟩ prog_10_method_2_code 1 (Option.none : Option FieldType) ∈ eT := eT_of (List.mem_of_getElem? (i := 623) (by decide +kernel)) (by decide +kernel)
theorem tw_624 : Cond.methodLink "ControlledStation$Receiver" 22 ⟨"ControlledStation$Receiver", "forget", "()V"⟩ ∈ eT := eT_of (List.mem_of_getElem? (i := 624) (by decide +kernel)) (by decide +kernel)
theorem tw_628 : Cond.code ⟨"ControlledStation", "close", "()I"⟩ prog_1_method_7_code 1 (Option.some FieldType.int) ∈ eT := eT_of (List.mem_of_getElem? (i := 628) (by decide +kernel)) (by decide +kernel)
theorem tw_632 : Cond.code ⟨"ControlledStation", "come", "(IJ)I"⟩ prog_1_method_8_code 7 (Option.some FieldType.int) ∈ eT := eT_of (List.mem_of_getElem? (i := 632) (by decide +kernel)) (by decide +kernel)
theorem tw_633 : Cond.methodLink "ControlledStation" 165 ⟨"ControlledStation$Receiver", "accept", "(I)I"⟩ ∈ eT := eT_of (List.mem_of_getElem? (i := 633) (by decide +kernel)) (by decide +kernel)
theorem tw_634 : Cond.instanceMethod ⟨"ControlledStation$Receiver", "accept", "(I)I"⟩ ∈ eT := eT_of (List.mem_of_getElem? (i := 634) (by decide +kernel)) (by decide +kernel)
theorem tw_635 : Cond.selects "ControlledStation$Receiver" ⟨"ControlledStation$Receiver", "accept", "(I)I"⟩ ⟨"ControlledStation$Receiver", "accept", "(I)I"⟩ ∈ eT := eT_of (List.mem_of_getElem? (i := 635) (by decide +kernel)) (by decide +kernel)
theorem tw_636 : Cond.code ⟨"ControlledStation$Receiver", "accept", "(I)I"⟩ prog_10_method_4_code 2 (Option.some FieldType.int) ∈ eT := eT_of (List.mem_of_getElem? (i := 636) (by decide +kernel)) (by decide +kernel)
theorem tw_637 : Cond.methodLink "ControlledStation$Receiver" 37 ⟨"ControlledStation$Message", "clear", "()V"⟩ ∈ eT := eT_of (List.mem_of_getElem? (i := 637) (by decide +kernel)) (by decide +kernel)
theorem tw_638 : Cond.methodLink "ControlledStation$Receiver" 40 ⟨"ControlledStation$Message", "add", "(JI)V"⟩ ∈ eT := eT_of (List.mem_of_getElem? (i := 638) (by decide +kernel)) (by decide +kernel)
theorem tw_639 : Cond.methodLink "ControlledStation$Receiver" 44 ⟨"ControlledStation$Receiver", "isControl", "()Z"⟩ ∈ eT := eT_of (List.mem_of_getElem? (i := 639) (by decide +kernel)) (by decide +kernel)
theorem tw_641 : Cond.instanceMethod ⟨"ControlledStation$Receiver", "isControl", "()Z"⟩ ∈ eT := eT_of (List.mem_of_getElem? (i := 641) (by decide +kernel)) (by decide +kernel)
theorem tw_642 : Cond.code ⟨"ControlledStation$Receiver", "isControl", "()Z"⟩ prog_10_method_5_code 3 (Option.some FieldType.boolean) ∈ eT := eT_of (List.mem_of_getElem? (i := 642) (by decide +kernel)) (by decide +kernel)
theorem tw_643 : Cond.methodLink "ControlledStation" 169 ⟨"ControlledStation", "acceptFrame", "()Z"⟩ ∈ eT := eT_of (List.mem_of_getElem? (i := 643) (by decide +kernel)) (by decide +kernel)
theorem tw_645 : Cond.instanceMethod ⟨"ControlledStation", "acceptFrame", "()Z"⟩ ∈ eT := eT_of (List.mem_of_getElem? (i := 645) (by decide +kernel)) (by decide +kernel)
theorem tw_646 : Cond.code ⟨"ControlledStation", "acceptFrame", "()Z"⟩ prog_1_method_26_code 2 (Option.some FieldType.boolean) ∈ eT := eT_of (List.mem_of_getElem? (i := 646) (by decide +kernel)) (by decide +kernel)
theorem tw_647 : Cond.methodLink "ControlledStation" 339 ⟨"ControlledStation", "acceptData", "()Z"⟩ ∈ eT := eT_of (List.mem_of_getElem? (i := 647) (by decide +kernel)) (by decide +kernel)
theorem tw_649 : Cond.instanceMethod ⟨"ControlledStation", "acceptData", "()Z"⟩ ∈ eT := eT_of (List.mem_of_getElem? (i := 649) (by decide +kernel)) (by decide +kernel)
theorem tw_650 : Cond.code ⟨"ControlledStation", "acceptData", "()Z"⟩ prog_1_method_31_code 1 (Option.some FieldType.boolean) ∈ eT := eT_of (List.mem_of_getElem? (i := 650) (by decide +kernel)) (by decide +kernel)
theorem tw_651 : Cond.methodLink "ControlledStation" 362 ⟨"ControlledStation$Receiver", "number", "()I"⟩ ∈ eT := eT_of (List.mem_of_getElem? (i := 651) (by decide +kernel)) (by decide +kernel)
theorem tw_652 : Cond.instanceMethod ⟨"ControlledStation$Receiver", "number", "()I"⟩ ∈ eT := eT_of (List.mem_of_getElem? (i := 652) (by decide +kernel)) (by decide +kernel)
theorem tw_653 : Cond.selects "ControlledStation$Receiver" ⟨"ControlledStation$Receiver", "number", "()I"⟩ ⟨"ControlledStation$Receiver", "number", "()I"⟩ ∈ eT := eT_of (List.mem_of_getElem? (i := 653) (by decide +kernel)) (by decide +kernel)
theorem tw_654 : Cond.code ⟨"ControlledStation$Receiver", "number", "()I"⟩ prog_10_method_6_code 1 (Option.some FieldType.int) ∈ eT := eT_of (List.mem_of_getElem? (i := 654) (by decide +kernel)) (by decide +kernel)
theorem tw_655 : Cond.methodLink "ControlledStation" 345 ⟨"ControlledStation$Receiver", "ack", "()I"⟩ ∈ eT := eT_of (List.mem_of_getElem? (i := 655) (by decide +kernel)) (by decide +kernel)
theorem tw_656 : Cond.instanceMethod ⟨"ControlledStation$Receiver", "ack", "()I"⟩ ∈ eT := eT_of (List.mem_of_getElem? (i := 656) (by decide +kernel)) (by decide +kernel)
theorem tw_657 : Cond.selects "ControlledStation$Receiver" ⟨"ControlledStation$Receiver", "ack", "()I"⟩ ⟨"ControlledStation$Receiver", "ack", "()I"⟩ ∈ eT := eT_of (List.mem_of_getElem? (i := 657) (by decide +kernel)) (by decide +kernel)
theorem tw_658 : Cond.code ⟨"ControlledStation$Receiver", "ack", "()I"⟩ prog_10_method_7_code 1 (Option.some FieldType.int) ∈ eT := eT_of (List.mem_of_getElem? (i := 658) (by decide +kernel)) (by decide +kernel)
theorem tw_659 : Cond.methodLink "ControlledStation" 348 ⟨"ControlledStation", "acknowledge", "(I)Z"⟩ ∈ eT := eT_of (List.mem_of_getElem? (i := 659) (by decide +kernel)) (by decide +kernel)
theorem tw_661 : Cond.instanceMethod ⟨"ControlledStation", "acknowledge", "(I)Z"⟩ ∈ eT := eT_of (List.mem_of_getElem? (i := 661) (by decide +kernel)) (by decide +kernel)
theorem tw_662 : Cond.code ⟨"ControlledStation", "acknowledge", "(I)Z"⟩ prog_1_method_28_code 4 (Option.some FieldType.boolean) ∈ eT := eT_of (List.mem_of_getElem? (i := 662) (by decide +kernel)) (by decide +kernel)
theorem tw_663 : Cond.methodLink "ControlledStation" 351 ⟨"ControlledStation$SentFrames", "newlyAcknowledged", "(I)I"⟩ ∈ eT := eT_of (List.mem_of_getElem? (i := 663) (by decide +kernel)) (by decide +kernel)
theorem tw_664 : Cond.instanceMethod ⟨"ControlledStation$SentFrames", "newlyAcknowledged", "(I)I"⟩ ∈ eT := eT_of (List.mem_of_getElem? (i := 664) (by decide +kernel)) (by decide +kernel)
theorem tw_665 : Cond.selects "ControlledStation$SentFrames" ⟨"ControlledStation$SentFrames", "newlyAcknowledged", "(I)I"⟩ ⟨"ControlledStation$SentFrames", "newlyAcknowledged", "(I)I"⟩ ∈ eT := eT_of (List.mem_of_getElem? (i := 665) (by decide +kernel)) (by decide +kernel)
theorem tw_666 : Cond.code ⟨"ControlledStation$SentFrames", "newlyAcknowledged", "(I)I"⟩ prog_12_method_6_code 2 (Option.some FieldType.int) ∈ eT := eT_of (List.mem_of_getElem? (i := 666) (by decide +kernel)) (by decide +kernel)
theorem tw_667 : Cond.methodLink "ControlledStation" 354 ⟨"ControlledStation$SentFrames", "dropEldest", "()Z"⟩ ∈ eT := eT_of (List.mem_of_getElem? (i := 667) (by decide +kernel)) (by decide +kernel)
theorem tw_668 : Cond.instanceMethod ⟨"ControlledStation$SentFrames", "dropEldest", "()Z"⟩ ∈ eT := eT_of (List.mem_of_getElem? (i := 668) (by decide +kernel)) (by decide +kernel)
theorem tw_669 : Cond.selects "ControlledStation$SentFrames" ⟨"ControlledStation$SentFrames", "dropEldest", "()Z"⟩ ⟨"ControlledStation$SentFrames", "dropEldest", "()Z"⟩ ∈ eT := eT_of (List.mem_of_getElem? (i := 669) (by decide +kernel)) (by decide +kernel)
theorem tw_670 : Cond.code ⟨"ControlledStation$SentFrames", "dropEldest", "()Z"⟩ prog_12_method_7_code 2 (Option.some FieldType.boolean) ∈ eT := eT_of (List.mem_of_getElem? (i := 670) (by decide +kernel)) (by decide +kernel)
theorem tw_671 : Cond.methodLink "ControlledStation" 357 ⟨"ControlledStation$EventQueue", "dropEldest", "()V"⟩ ∈ eT := eT_of (List.mem_of_getElem? (i := 671) (by decide +kernel)) (by decide +kernel)
theorem tw_672 : Cond.instanceMethod ⟨"ControlledStation$EventQueue", "dropEldest", "()V"⟩ ∈ eT := eT_of (List.mem_of_getElem? (i := 672) (by decide +kernel)) (by decide +kernel)
theorem tw_673 : Cond.selects "ControlledStation$EventQueue" ⟨"ControlledStation$EventQueue", "dropEldest", "()V"⟩ ⟨"ControlledStation$EventQueue", "dropEldest", "()V"⟩ ∈ eT := eT_of (List.mem_of_getElem? (i := 673) (by decide +kernel)) (by decide +kernel)
theorem tw_674 : Cond.code ⟨"ControlledStation$EventQueue", "dropEldest", "()V"⟩ prog_5_method_6_code 1 (Option.none : Option FieldType) ∈ eT := eT_of (List.mem_of_getElem? (i := 674) (by decide +kernel)) (by decide +kernel)
theorem tw_675 : Cond.methodLink "ControlledStation" 364 ⟨"ControlledStation$Receiver", "countData", "(I)V"⟩ ∈ eT := eT_of (List.mem_of_getElem? (i := 675) (by decide +kernel)) (by decide +kernel)
theorem tw_676 : Cond.instanceMethod ⟨"ControlledStation$Receiver", "countData", "(I)V"⟩ ∈ eT := eT_of (List.mem_of_getElem? (i := 676) (by decide +kernel)) (by decide +kernel)
theorem tw_677 : Cond.selects "ControlledStation$Receiver" ⟨"ControlledStation$Receiver", "countData", "(I)V"⟩ ⟨"ControlledStation$Receiver", "countData", "(I)V"⟩ ∈ eT := eT_of (List.mem_of_getElem? (i := 677) (by decide +kernel)) (by decide +kernel)
theorem tw_678 : Cond.code ⟨"ControlledStation$Receiver", "countData", "(I)V"⟩ prog_10_method_9_code 2 (Option.none : Option FieldType) ∈ eT := eT_of (List.mem_of_getElem? (i := 678) (by decide +kernel)) (by decide +kernel)
theorem tw_679 : Cond.methodLink "ControlledStation" 342 ⟨"ControlledStation", "controlCame", "(I)V"⟩ ∈ eT := eT_of (List.mem_of_getElem? (i := 679) (by decide +kernel)) (by decide +kernel)
theorem tw_681 : Cond.instanceMethod ⟨"ControlledStation", "controlCame", "(I)V"⟩ ∈ eT := eT_of (List.mem_of_getElem? (i := 681) (by decide +kernel)) (by decide +kernel)
theorem tw_682 : Cond.code ⟨"ControlledStation", "controlCame", "(I)V"⟩ prog_1_method_29_code 2 (Option.none : Option FieldType) ∈ eT := eT_of (List.mem_of_getElem? (i := 682) (by decide +kernel)) (by decide +kernel)
theorem tw_683 : Cond.methodLink "ControlledStation" 359 ⟨"ControlledStation", "stopCame", "()V"⟩ ∈ eT := eT_of (List.mem_of_getElem? (i := 683) (by decide +kernel)) (by decide +kernel)
theorem tw_685 : Cond.instanceMethod ⟨"ControlledStation", "stopCame", "()V"⟩ ∈ eT := eT_of (List.mem_of_getElem? (i := 685) (by decide +kernel)) (by decide +kernel)
theorem tw_686 : Cond.code ⟨"ControlledStation", "stopCame", "()V"⟩ prog_1_method_30_code 1 (Option.none : Option FieldType) ∈ eT := eT_of (List.mem_of_getElem? (i := 686) (by decide +kernel)) (by decide +kernel)
theorem tw_687 : Cond.methodLink "ControlledStation" 296 ⟨"ControlledStation", "sendAck", "()V"⟩ ∈ eT := eT_of (List.mem_of_getElem? (i := 687) (by decide +kernel)) (by decide +kernel)
theorem tw_689 : Cond.instanceMethod ⟨"ControlledStation", "sendAck", "()V"⟩ ∈ eT := eT_of (List.mem_of_getElem? (i := 689) (by decide +kernel)) (by decide +kernel)
theorem tw_690 : Cond.code ⟨"ControlledStation", "sendAck", "()V"⟩ prog_1_method_22_code 1 (Option.none : Option FieldType) ∈ eT := eT_of (List.mem_of_getElem? (i := 690) (by decide +kernel)) (by decide +kernel)
theorem tw_691 : Cond.methodLink "ControlledStation" 177 ⟨"ControlledStation", "takeRest", "(LControlledStation$Message;)V"⟩ ∈ eT := eT_of (List.mem_of_getElem? (i := 691) (by decide +kernel)) (by decide +kernel)
theorem tw_693 : Cond.instanceMethod ⟨"ControlledStation", "takeRest", "(LControlledStation$Message;)V"⟩ ∈ eT := eT_of (List.mem_of_getElem? (i := 693) (by decide +kernel)) (by decide +kernel)
theorem tw_694 : Cond.code ⟨"ControlledStation", "takeRest", "(LControlledStation$Message;)V"⟩ prog_1_method_32_code 5 (Option.none : Option FieldType) ∈ eT := eT_of (List.mem_of_getElem? (i := 694) (by decide +kernel)) (by decide +kernel)
theorem tw_695 : Cond.methodLink "ControlledStation" 367 ⟨"ControlledStation", "faultOf", "(LControlledStation$Message;II)I"⟩ ∈ eT := eT_of (List.mem_of_getElem? (i := 695) (by decide +kernel)) (by decide +kernel)
theorem tw_697 : Cond.instanceMethod ⟨"ControlledStation", "faultOf", "(LControlledStation$Message;II)I"⟩ ∈ eT := eT_of (List.mem_of_getElem? (i := 697) (by decide +kernel)) (by decide +kernel)
theorem tw_698 : Cond.code ⟨"ControlledStation", "faultOf", "(LControlledStation$Message;II)I"⟩ prog_1_method_33_code 6 (Option.some FieldType.int) ∈ eT := eT_of (List.mem_of_getElem? (i := 698) (by decide +kernel)) (by decide +kernel)
theorem tw_699 : Cond.methodLink "ControlledStation" 401 ⟨"ControlledStation", "restLength", "(I)I"⟩ ∈ eT := eT_of (List.mem_of_getElem? (i := 699) (by decide +kernel)) (by decide +kernel)
theorem tw_700 : Cond.static ⟨"ControlledStation", "restLength", "(I)I"⟩ ∈ eT := eT_of (List.mem_of_getElem? (i := 700) (by decide +kernel)) (by decide +kernel)
theorem tw_701 : Cond.code ⟨"ControlledStation", "restLength", "(I)I"⟩ prog_1_method_34_code 1 (Option.some FieldType.int) ∈ eT := eT_of (List.mem_of_getElem? (i := 701) (by decide +kernel)) (by decide +kernel)
theorem tw_702 : Cond.methodLink "ControlledStation" 404 ⟨"ControlledStation", "isCauseOf", "(II)Z"⟩ ∈ eT := eT_of (List.mem_of_getElem? (i := 702) (by decide +kernel)) (by decide +kernel)
theorem tw_703 : Cond.static ⟨"ControlledStation", "isCauseOf", "(II)Z"⟩ ∈ eT := eT_of (List.mem_of_getElem? (i := 703) (by decide +kernel)) (by decide +kernel)
theorem tw_704 : Cond.code ⟨"ControlledStation", "isCauseOf", "(II)Z"⟩ prog_1_method_35_code 2 (Option.some FieldType.boolean) ∈ eT := eT_of (List.mem_of_getElem? (i := 704) (by decide +kernel)) (by decide +kernel)
theorem tw_705 : Cond.methodLink "ControlledStation" 386 ⟨"ControlledStation$Message", "number", "(II)J"⟩ ∈ eT := eT_of (List.mem_of_getElem? (i := 705) (by decide +kernel)) (by decide +kernel)
theorem tw_706 : Cond.instanceMethod ⟨"ControlledStation$Message", "number", "(II)J"⟩ ∈ eT := eT_of (List.mem_of_getElem? (i := 706) (by decide +kernel)) (by decide +kernel)
theorem tw_707 : Cond.selects "ControlledStation$Message" ⟨"ControlledStation$Message", "number", "(II)J"⟩ ⟨"ControlledStation$Message", "number", "(II)J"⟩ ∈ eT := eT_of (List.mem_of_getElem? (i := 707) (by decide +kernel)) (by decide +kernel)
theorem tw_708 : Cond.code ⟨"ControlledStation$Message", "number", "(II)J"⟩ prog_6_method_7_code 6 (Option.some FieldType.long) ∈ eT := eT_of (List.mem_of_getElem? (i := 708) (by decide +kernel)) (by decide +kernel)
theorem tw_709 : Cond.methodLink "ControlledStation$Message" 34 ⟨"ControlledStation$Message", "at", "(I)I"⟩ ∈ eT := eT_of (List.mem_of_getElem? (i := 709) (by decide +kernel)) (by decide +kernel)
theorem tw_710 : Cond.constantLong "ControlledStation" 407 (65535 : Int64) ∈ eT := eT_of (List.mem_of_getElem? (i := 710) (by decide +kernel)) (by decide +kernel)
theorem tw_711 : Cond.methodLink "ControlledStation" 374 ⟨"ControlledStation$Message", "address", "()I"⟩ ∈ eT := eT_of (List.mem_of_getElem? (i := 711) (by decide +kernel)) (by decide +kernel)
theorem tw_712 : Cond.instanceMethod ⟨"ControlledStation$Message", "address", "()I"⟩ ∈ eT := eT_of (List.mem_of_getElem? (i := 712) (by decide +kernel)) (by decide +kernel)
theorem tw_713 : Cond.selects "ControlledStation$Message" ⟨"ControlledStation$Message", "address", "()I"⟩ ⟨"ControlledStation$Message", "address", "()I"⟩ ∈ eT := eT_of (List.mem_of_getElem? (i := 713) (by decide +kernel)) (by decide +kernel)
theorem tw_714 : Cond.code ⟨"ControlledStation$Message", "address", "()I"⟩ prog_6_method_8_code 1 (Option.some FieldType.int) ∈ eT := eT_of (List.mem_of_getElem? (i := 714) (by decide +kernel)) (by decide +kernel)
theorem tw_715 : Cond.methodLink "ControlledStation$Message" 38 ⟨"ControlledStation$Message", "number", "(II)J"⟩ ∈ eT := eT_of (List.mem_of_getElem? (i := 715) (by decide +kernel)) (by decide +kernel)
theorem tw_716 : Cond.methodLink "ControlledStation" 409 ⟨"ControlledStation", "isAddressOf", "(II)Z"⟩ ∈ eT := eT_of (List.mem_of_getElem? (i := 716) (by decide +kernel)) (by decide +kernel)
theorem tw_718 : Cond.instanceMethod ⟨"ControlledStation", "isAddressOf", "(II)Z"⟩ ∈ eT := eT_of (List.mem_of_getElem? (i := 718) (by decide +kernel)) (by decide +kernel)
theorem tw_719 : Cond.code ⟨"ControlledStation", "isAddressOf", "(II)Z"⟩ prog_1_method_36_code 4 (Option.some FieldType.boolean) ∈ eT := eT_of (List.mem_of_getElem? (i := 719) (by decide +kernel)) (by decide +kernel)
theorem tw_720 : Cond.fieldLink "ControlledStation" 412 "ControlledStation" "COMMAND_TYPES" "[I" ∈ eT := eT_of (List.mem_of_getElem? (i := 720) (by decide +kernel)) (by decide +kernel)
theorem tw_722 : Cond.methodLink "ControlledStation" 371 ⟨"ControlledStation", "answerSame", "(I)V"⟩ ∈ eT := eT_of (List.mem_of_getElem? (i := 722) (by decide +kernel)) (by decide +kernel)
theorem tw_724 : Cond.instanceMethod ⟨"ControlledStation", "answerSame", "(I)V"⟩ ∈ eT := eT_of (List.mem_of_getElem? (i := 724) (by decide +kernel)) (by decide +kernel)
theorem tw_725 : Cond.code ⟨"ControlledStation", "answerSame", "(I)V"⟩ prog_1_method_46_code 3 (Option.none : Option FieldType) ∈ eT := eT_of (List.mem_of_getElem? (i := 725) (by decide +kernel)) (by decide +kernel)
theorem tw_726 : Cond.methodLink "ControlledStation" 484 ⟨"ControlledStation$AnswerQueue", "next", "()LControlledStation$Message;"⟩ ∈ eT := eT_of (List.mem_of_getElem? (i := 726) (by decide +kernel)) (by decide +kernel)
theorem tw_727 : Cond.instanceMethod ⟨"ControlledStation$AnswerQueue", "next", "()LControlledStation$Message;"⟩ ∈ eT := eT_of (List.mem_of_getElem? (i := 727) (by decide +kernel)) (by decide +kernel)
theorem tw_728 : Cond.selects "ControlledStation$AnswerQueue" ⟨"ControlledStation$AnswerQueue", "next", "()LControlledStation$Message;"⟩ ⟨"ControlledStation$AnswerQueue", "next", "()LControlledStation$Message;"⟩ ∈ eT := eT_of (List.mem_of_getElem? (i := 728) (by decide +kernel)) (by decide +kernel)
theorem tw_729 : Cond.code ⟨"ControlledStation$AnswerQueue", "next", "()LControlledStation$Message;"⟩ prog_2_method_3_code 2 (Option.some (FieldType.object "ControlledStation$Message")) ∈ eT := eT_of (List.mem_of_getElem? (i := 729) (by decide +kernel)) (by decide +kernel)
theorem tw_730 : Cond.methodLink "ControlledStation$AnswerQueue" 33 ⟨"ControlledStation$Message", "clear", "()V"⟩ ∈ eT := eT_of (List.mem_of_getElem? (i := 730) (by decide +kernel)) (by decide +kernel)
theorem tw_731 : Cond.methodLink "ControlledStation" 486 ⟨"ControlledStation$Message", "copy", "(LControlledStation$Message;)V"⟩ ∈ eT := eT_of (List.mem_of_getElem? (i := 731) (by decide +kernel)) (by decide +kernel)
theorem tw_732 : Cond.instanceMethod ⟨"ControlledStation$Message", "copy", "(LControlledStation$Message;)V"⟩ ∈ eT := eT_of (List.mem_of_getElem? (i := 732) (by decide +kernel)) (by decide +kernel)
theorem tw_733 : Cond.selects "ControlledStation$Message" ⟨"ControlledStation$Message", "copy", "(LControlledStation$Message;)V"⟩ ⟨"ControlledStation$Message", "copy", "(LControlledStation$Message;)V"⟩ ∈ eT := eT_of (List.mem_of_getElem? (i := 733) (by decide +kernel)) (by decide +kernel)
theorem tw_734 : Cond.code ⟨"ControlledStation$Message", "copy", "(LControlledStation$Message;)V"⟩ prog_6_method_4_code 2 (Option.none : Option FieldType) ∈ eT := eT_of (List.mem_of_getElem? (i := 734) (by decide +kernel)) (by decide +kernel)
theorem tw_735 : Cond.methodLink "ControlledStation$Message" 19 ⟨"java/lang/Math", "min", "(II)I"⟩ ∈ eT := eT_of (List.mem_of_getElem? (i := 735) (by decide +kernel)) (by decide +kernel)
theorem tw_736 : Cond.static ⟨"java/lang/Math", "min", "(II)I"⟩ ∈ eT := eT_of (List.mem_of_getElem? (i := 736) (by decide +kernel)) (by decide +kernel)
theorem tw_737 : Cond.code ⟨"java/lang/Math", "min", "(II)I"⟩ prog_15_method_69_code 2 (Option.some FieldType.int) ∈ eT := eT_of (List.mem_of_getElem? (i := 737) (by decide +kernel)) (by decide +kernel)
theorem tw_738 : Cond.methodLink "ControlledStation$Message" 25 ⟨"java/lang/Math", "max", "(II)I"⟩ ∈ eT := eT_of (List.mem_of_getElem? (i := 738) (by decide +kernel)) (by decide +kernel)
theorem tw_739 : Cond.static ⟨"java/lang/Math", "max", "(II)I"⟩ ∈ eT := eT_of (List.mem_of_getElem? (i := 739) (by decide +kernel)) (by decide +kernel)
theorem tw_740 : Cond.code ⟨"java/lang/Math", "max", "(II)I"⟩ prog_15_method_65_code 2 (Option.some FieldType.int) ∈ eT := eT_of (List.mem_of_getElem? (i := 740) (by decide +kernel)) (by decide +kernel)
theorem tw_741 : Cond.methodLink "ControlledStation$Message" 28 ⟨"java/lang/System", "arraycopy", "(Ljava/lang/Object;ILjava/lang/Object;II)V"⟩ ∈ eT := eT_of (List.mem_of_getElem? (i := 741) (by decide +kernel)) (by decide +kernel)
theorem tw_742 : Cond.static ⟨"java/lang/System", "arraycopy", "(Ljava/lang/Object;ILjava/lang/Object;II)V"⟩ ∈ eT := eT_of (List.mem_of_getElem? (i := 742) (by decide +kernel)) (by decide +kernel)
theorem tw_743 : Cond.native ⟨"java/lang/System", "arraycopy", "(Ljava/lang/Object;ILjava/lang/Object;II)V"⟩ ∈ eT := eT_of (List.mem_of_getElem? (i := 743) (by decide +kernel)) (by decide +kernel)
theorem tw_744 : Cond.methodLink "ControlledStation" 489 ⟨"ControlledStation$Message", "replace", "(II)V"⟩ ∈ eT := eT_of (List.mem_of_getElem? (i := 744) (by decide +kernel)) (by decide +kernel)
theorem tw_745 : Cond.instanceMethod ⟨"ControlledStation$Message", "replace", "(II)V"⟩ ∈ eT := eT_of (List.mem_of_getElem? (i := 745) (by decide +kernel)) (by decide +kernel)
theorem tw_746 : Cond.selects "ControlledStation$Message" ⟨"ControlledStation$Message", "replace", "(II)V"⟩ ⟨"ControlledStation$Message", "replace", "(II)V"⟩ ∈ eT := eT_of (List.mem_of_getElem? (i := 746) (by decide +kernel)) (by decide +kernel)
theorem tw_747 : Cond.code ⟨"ControlledStation$Message", "replace", "(II)V"⟩ prog_6_method_5_code 3 (Option.none : Option FieldType) ∈ eT := eT_of (List.mem_of_getElem? (i := 747) (by decide +kernel)) (by decide +kernel)
theorem tw_748 : Cond.methodLink "ControlledStation" 376 ⟨"ControlledStation", "readCame", "(LControlledStation$Point;)V"⟩ ∈ eT := eT_of (List.mem_of_getElem? (i := 748) (by decide +kernel)) (by decide +kernel)
theorem tw_750 : Cond.instanceMethod ⟨"ControlledStation", "readCame", "(LControlledStation$Point;)V"⟩ ∈ eT := eT_of (List.mem_of_getElem? (i := 750) (by decide +kernel)) (by decide +kernel)
theorem tw_751 : Cond.code ⟨"ControlledStation", "readCame", "(LControlledStation$Point;)V"⟩ prog_1_method_41_code 2 (Option.none : Option FieldType) ∈ eT := eT_of (List.mem_of_getElem? (i := 751) (by decide +kernel)) (by decide +kernel)
theorem tw_752 : Cond.methodLink "ControlledStation" 416 ⟨"ControlledStation$Receiver", "isTrial", "()Z"⟩ ∈ eT := eT_of (List.mem_of_getElem? (i := 752) (by decide +kernel)) (by decide +kernel)
theorem tw_753 : Cond.instanceMethod ⟨"ControlledStation$Receiver", "isTrial", "()Z"⟩ ∈ eT := eT_of (List.mem_of_getElem? (i := 753) (by decide +kernel)) (by decide +kernel)
theorem tw_754 : Cond.selects "ControlledStation$Receiver" ⟨"ControlledStation$Receiver", "isTrial", "()Z"⟩ ⟨"ControlledStation$Receiver", "isTrial", "()Z"⟩ ∈ eT := eT_of (List.mem_of_getElem? (i := 754) (by decide +kernel)) (by decide +kernel)
theorem tw_755 : Cond.code ⟨"ControlledStation$Receiver", "isTrial", "()Z"⟩ prog_10_method_11_code 1 (Option.some FieldType.boolean) ∈ eT := eT_of (List.mem_of_getElem? (i := 755) (by decide +kernel)) (by decide +kernel)
theorem tw_756 : Cond.methodLink "ControlledStation$Receiver" 51 ⟨"ControlledStation$Message", "at", "(I)I"⟩ ∈ eT := eT_of (List.mem_of_getElem? (i := 756) (by decide +kernel)) (by decide +kernel)
theorem tw_757 : Cond.methodLink "ControlledStation" 461 ⟨"ControlledStation", "answerObject", "(LControlledStation$Point;I)V"⟩ ∈ eT := eT_of (List.mem_of_getElem? (i := 757) (by decide +kernel)) (by decide +kernel)
theorem tw_759 : Cond.instanceMethod ⟨"ControlledStation", "answerObject", "(LControlledStation$Point;I)V"⟩ ∈ eT := eT_of (List.mem_of_getElem? (i := 759) (by decide +kernel)) (by decide +kernel)
theorem tw_760 : Cond.code ⟨"ControlledStation", "answerObject", "(LControlledStation$Point;I)V"⟩ prog_1_method_47_code 4 (Option.none : Option FieldType) ∈ eT := eT_of (List.mem_of_getElem? (i := 760) (by decide +kernel)) (by decide +kernel)
theorem tw_761 : Cond.fieldLink "ControlledStation" 492 "ControlledStation" "TYPES" "[I" ∈ eT := eT_of (List.mem_of_getElem? (i := 761) (by decide +kernel)) (by decide +kernel)
theorem tw_762 : Cond.methodLink "ControlledStation" 442 ⟨"ControlledStation$Receiver", "originator", "()I"⟩ ∈ eT := eT_of (List.mem_of_getElem? (i := 762) (by decide +kernel)) (by decide +kernel)
theorem tw_763 : Cond.instanceMethod ⟨"ControlledStation$Receiver", "originator", "()I"⟩ ∈ eT := eT_of (List.mem_of_getElem? (i := 763) (by decide +kernel)) (by decide +kernel)
theorem tw_764 : Cond.selects "ControlledStation$Receiver" ⟨"ControlledStation$Receiver", "originator", "()I"⟩ ⟨"ControlledStation$Receiver", "originator", "()I"⟩ ∈ eT := eT_of (List.mem_of_getElem? (i := 764) (by decide +kernel)) (by decide +kernel)
theorem tw_765 : Cond.code ⟨"ControlledStation$Receiver", "originator", "()I"⟩ prog_10_method_10_code 1 (Option.some FieldType.int) ∈ eT := eT_of (List.mem_of_getElem? (i := 765) (by decide +kernel)) (by decide +kernel)
theorem tw_766 : Cond.methodLink "ControlledStation" 495 ⟨"ControlledStation", "objectHead", "(IIII)J"⟩ ∈ eT := eT_of (List.mem_of_getElem? (i := 766) (by decide +kernel)) (by decide +kernel)
theorem tw_767 : Cond.methodLink "ControlledStation" 499 ⟨"ControlledStation$Message", "add", "(JI)V"⟩ ∈ eT := eT_of (List.mem_of_getElem? (i := 767) (by decide +kernel)) (by decide +kernel)
theorem tw_768 : Cond.methodLink "ControlledStation" 502 ⟨"ControlledStation$Point", "objectBytes", "()I"⟩ ∈ eT := eT_of (List.mem_of_getElem? (i := 768) (by decide +kernel)) (by decide +kernel)
theorem tw_769 : Cond.methodLink "ControlledStation" 379 ⟨"ControlledStation", "interrogationCame", "(II)V"⟩ ∈ eT := eT_of (List.mem_of_getElem? (i := 769) (by decide +kernel)) (by decide +kernel)
theorem tw_771 : Cond.instanceMethod ⟨"ControlledStation", "interrogationCame", "(II)V"⟩ ∈ eT := eT_of (List.mem_of_getElem? (i := 771) (by decide +kernel)) (by decide +kernel)
theorem tw_772 : Cond.code ⟨"ControlledStation", "interrogationCame", "(II)V"⟩ prog_1_method_42_code 3 (Option.none : Option FieldType) ∈ eT := eT_of (List.mem_of_getElem? (i := 772) (by decide +kernel)) (by decide +kernel)
theorem tw_773 : Cond.methodLink "ControlledStation" 465 ⟨"ControlledStation", "answerPoints", "(I)V"⟩ ∈ eT := eT_of (List.mem_of_getElem? (i := 773) (by decide +kernel)) (by decide +kernel)
theorem tw_775 : Cond.instanceMethod ⟨"ControlledStation", "answerPoints", "(I)V"⟩ ∈ eT := eT_of (List.mem_of_getElem? (i := 775) (by decide +kernel)) (by decide +kernel)
theorem tw_776 : Cond.code ⟨"ControlledStation", "answerPoints", "(I)V"⟩ prog_1_method_49_code 8 (Option.none : Option FieldType) ∈ eT := eT_of (List.mem_of_getElem? (i := 776) (by decide +kernel)) (by decide +kernel)
theorem tw_777 : Cond.methodLink "ControlledStation" 505 ⟨"ControlledStation$PointTable", "atPlace", "(I)LControlledStation$Point;"⟩ ∈ eT := eT_of (List.mem_of_getElem? (i := 777) (by decide +kernel)) (by decide +kernel)
theorem tw_778 : Cond.instanceMethod ⟨"ControlledStation$PointTable", "atPlace", "(I)LControlledStation$Point;"⟩ ∈ eT := eT_of (List.mem_of_getElem? (i := 778) (by decide +kernel)) (by decide +kernel)
theorem tw_779 : Cond.selects "ControlledStation$PointTable" ⟨"ControlledStation$PointTable", "atPlace", "(I)LControlledStation$Point;"⟩ ⟨"ControlledStation$PointTable", "atPlace", "(I)LControlledStation$Point;"⟩ ∈ eT := eT_of (List.mem_of_getElem? (i := 779) (by decide +kernel)) (by decide +kernel)
theorem tw_780 : Cond.code ⟨"ControlledStation$PointTable", "atPlace", "(I)LControlledStation$Point;"⟩ prog_9_method_4_code 2 (Option.some (FieldType.object "ControlledStation$Point")) ∈ eT := eT_of (List.mem_of_getElem? (i := 780) (by decide +kernel)) (by decide +kernel)
theorem tw_781 : Cond.methodLink "ControlledStation" 508 ⟨"ControlledStation$Point", "isAskedBy", "(I)Z"⟩ ∈ eT := eT_of (List.mem_of_getElem? (i := 781) (by decide +kernel)) (by decide +kernel)
theorem tw_782 : Cond.instanceMethod ⟨"ControlledStation$Point", "isAskedBy", "(I)Z"⟩ ∈ eT := eT_of (List.mem_of_getElem? (i := 782) (by decide +kernel)) (by decide +kernel)
theorem tw_783 : Cond.selects "ControlledStation$Point" ⟨"ControlledStation$Point", "isAskedBy", "(I)Z"⟩ ⟨"ControlledStation$Point", "isAskedBy", "(I)Z"⟩ ∈ eT := eT_of (List.mem_of_getElem? (i := 783) (by decide +kernel)) (by decide +kernel)
theorem tw_784 : Cond.code ⟨"ControlledStation$Point", "isAskedBy", "(I)Z"⟩ prog_8_method_3_code 2 (Option.some FieldType.boolean) ∈ eT := eT_of (List.mem_of_getElem? (i := 784) (by decide +kernel)) (by decide +kernel)
theorem tw_785 : Cond.methodLink "ControlledStation" 383 ⟨"ControlledStation", "countersOrderCame", "(I)V"⟩ ∈ eT := eT_of (List.mem_of_getElem? (i := 785) (by decide +kernel)) (by decide +kernel)
theorem tw_787 : Cond.instanceMethod ⟨"ControlledStation", "countersOrderCame", "(I)V"⟩ ∈ eT := eT_of (List.mem_of_getElem? (i := 787) (by decide +kernel)) (by decide +kernel)
theorem tw_788 : Cond.code ⟨"ControlledStation", "countersOrderCame", "(I)V"⟩ prog_1_method_43_code 2 (Option.none : Option FieldType) ∈ eT := eT_of (List.mem_of_getElem? (i := 788) (by decide +kernel)) (by decide +kernel)
theorem tw_789 : Cond.methodLink "ControlledStation" 468 ⟨"ControlledStation", "orderCounters", "(I)V"⟩ ∈ eT := eT_of (List.mem_of_getElem? (i := 789) (by decide +kernel)) (by decide +kernel)
theorem tw_791 : Cond.instanceMethod ⟨"ControlledStation", "orderCounters", "(I)V"⟩ ∈ eT := eT_of (List.mem_of_getElem? (i := 791) (by decide +kernel)) (by decide +kernel)
theorem tw_792 : Cond.code ⟨"ControlledStation", "orderCounters", "(I)V"⟩ prog_1_method_44_code 2 (Option.none : Option FieldType) ∈ eT := eT_of (List.mem_of_getElem? (i := 792) (by decide +kernel)) (by decide +kernel)
theorem tw_793 : Cond.methodLink "ControlledStation" 471 ⟨"ControlledStation$PointTable", "freezeCounters", "()V"⟩ ∈ eT := eT_of (List.mem_of_getElem? (i := 793) (by decide +kernel)) (by decide +kernel)
theorem tw_794 : Cond.instanceMethod ⟨"ControlledStation$PointTable", "freezeCounters", "()V"⟩ ∈ eT := eT_of (List.mem_of_getElem? (i := 794) (by decide +kernel)) (by decide +kernel)
theorem tw_795 : Cond.selects "ControlledStation$PointTable" ⟨"ControlledStation$PointTable", "freezeCounters", "()V"⟩ ⟨"ControlledStation$PointTable", "freezeCounters", "()V"⟩ ∈ eT := eT_of (List.mem_of_getElem? (i := 795) (by decide +kernel)) (by decide +kernel)
theorem tw_796 : Cond.code ⟨"ControlledStation$PointTable", "freezeCounters", "()V"⟩ prog_9_method_6_code 3 (Option.none : Option FieldType) ∈ eT := eT_of (List.mem_of_getElem? (i := 796) (by decide +kernel)) (by decide +kernel)
theorem tw_797 : Cond.methodLink "ControlledStation" 474 ⟨"ControlledStation$PointTable", "resetCounters", "()V"⟩ ∈ eT := eT_of (List.mem_of_getElem? (i := 797) (by decide +kernel)) (by decide +kernel)
theorem tw_798 : Cond.instanceMethod ⟨"ControlledStation$PointTable", "resetCounters", "()V"⟩ ∈ eT := eT_of (List.mem_of_getElem? (i := 798) (by decide +kernel)) (by decide +kernel)
theorem tw_799 : Cond.selects "ControlledStation$PointTable" ⟨"ControlledStation$PointTable", "resetCounters", "()V"⟩ ⟨"ControlledStation$PointTable", "resetCounters", "()V"⟩ ∈ eT := eT_of (List.mem_of_getElem? (i := 799) (by decide +kernel)) (by decide +kernel)
theorem tw_800 : Cond.code ⟨"ControlledStation$PointTable", "resetCounters", "()V"⟩ prog_9_method_7_code 3 (Option.none : Option FieldType) ∈ eT := eT_of (List.mem_of_getElem? (i := 800) (by decide +kernel)) (by decide +kernel)
theorem tw_801 : Cond.methodLink "ControlledStation" 388 ⟨"ControlledStation", "clockOrderCame", "(J)V"⟩ ∈ eT := eT_of (List.mem_of_getElem? (i := 801) (by decide +kernel)) (by decide +kernel)
theorem tw_803 : Cond.instanceMethod ⟨"ControlledStation", "clockOrderCame", "(J)V"⟩ ∈ eT := eT_of (List.mem_of_getElem? (i := 803) (by decide +kernel)) (by decide +kernel)
theorem tw_804 : Cond.code ⟨"ControlledStation", "clockOrderCame", "(J)V"⟩ prog_1_method_45_code 4 (Option.none : Option FieldType) ∈ eT := eT_of (List.mem_of_getElem? (i := 804) (by decide +kernel)) (by decide +kernel)
theorem tw_805 : Cond.methodLink "ControlledStation" 477 ⟨"ControlledStation$Calendar", "isTime", "(J)Z"⟩ ∈ eT := eT_of (List.mem_of_getElem? (i := 805) (by decide +kernel)) (by decide +kernel)
theorem tw_806 : Cond.static ⟨"ControlledStation$Calendar", "isTime", "(J)Z"⟩ ∈ eT := eT_of (List.mem_of_getElem? (i := 806) (by decide +kernel)) (by decide +kernel)
theorem tw_807 : Cond.code ⟨"ControlledStation$Calendar", "isTime", "(J)Z"⟩ prog_3_method_5_code 5 (Option.some FieldType.boolean) ∈ eT := eT_of (List.mem_of_getElem? (i := 807) (by decide +kernel)) (by decide +kernel)
theorem tw_808 : Cond.constantLong "ControlledStation$Calendar" 40 (65535 : Int64) ∈ eT := eT_of (List.mem_of_getElem? (i := 808) (by decide +kernel)) (by decide +kernel)
theorem tw_809 : Cond.constantLong "ControlledStation$Calendar" 42 (60000 : Int64) ∈ eT := eT_of (List.mem_of_getElem? (i := 809) (by decide +kernel)) (by decide +kernel)
theorem tw_810 : Cond.constantLong "ControlledStation$Calendar" 44 (255 : Int64) ∈ eT := eT_of (List.mem_of_getElem? (i := 810) (by decide +kernel)) (by decide +kernel)
theorem tw_811 : Cond.constantLong "ControlledStation$Calendar" 46 (60 : Int64) ∈ eT := eT_of (List.mem_of_getElem? (i := 811) (by decide +kernel)) (by decide +kernel)
theorem tw_812 : Cond.constantLong "ControlledStation$Calendar" 48 (24 : Int64) ∈ eT := eT_of (List.mem_of_getElem? (i := 812) (by decide +kernel)) (by decide +kernel)
theorem tw_813 : Cond.methodLink "ControlledStation$Calendar" 31 ⟨"ControlledStation$Calendar", "daysOf", "(II)I"⟩ ∈ eT := eT_of (List.mem_of_getElem? (i := 813) (by decide +kernel)) (by decide +kernel)
theorem tw_814 : Cond.static ⟨"ControlledStation$Calendar", "daysOf", "(II)I"⟩ ∈ eT := eT_of (List.mem_of_getElem? (i := 814) (by decide +kernel)) (by decide +kernel)
theorem tw_815 : Cond.code ⟨"ControlledStation$Calendar", "daysOf", "(II)I"⟩ prog_3_method_6_code 2 (Option.some FieldType.int) ∈ eT := eT_of (List.mem_of_getElem? (i := 815) (by decide +kernel)) (by decide +kernel)
theorem tw_816 : Cond.fieldLinkNest "ControlledStation$Calendar" 50 "ControlledStation" "DAYS" "[I" "ControlledStation" ∈ eN := eN_of (List.mem_of_getElem? (i := 816) (by decide +kernel)) (by decide +kernel)
theorem tw_818 : Cond.methodLink "ControlledStation" 481 ⟨"ControlledStation$Calendar", "become", "(J)V"⟩ ∈ eT := eT_of (List.mem_of_getElem? (i := 818) (by decide +kernel)) (by decide +kernel)
theorem tw_819 : Cond.instanceMethod ⟨"ControlledStation$Calendar", "become", "(J)V"⟩ ∈ eT := eT_of (List.mem_of_getElem? (i := 819) (by decide +kernel)) (by decide +kernel)
theorem tw_820 : Cond.selects "ControlledStation$Calendar" ⟨"ControlledStation$Calendar", "become", "(J)V"⟩ ⟨"ControlledStation$Calendar", "become", "(J)V"⟩ ∈ eT := eT_of (List.mem_of_getElem? (i := 820) (by decide +kernel)) (by decide +kernel)
theorem tw_821 : Cond.code ⟨"ControlledStation$Calendar", "become", "(J)V"⟩ prog_3_method_4_code 3 (Option.none : Option FieldType) ∈ eT := eT_of (List.mem_of_getElem? (i := 821) (by decide +kernel)) (by decide +kernel)
theorem tw_822 : Cond.constant "ControlledStation$Calendar" 39 (65535 : Int32) ∈ eT := eT_of (List.mem_of_getElem? (i := 822) (by decide +kernel)) (by decide +kernel)
theorem tw_823 : Cond.constantLong "ControlledStation" 392 (21930 : Int64) ∈ eT := eT_of (List.mem_of_getElem? (i := 823) (by decide +kernel)) (by decide +kernel)
theorem tw_824 : Cond.methodLink "ControlledStation" 394 ⟨"ControlledStation", "commandCame", "(LControlledStation$Command;I)V"⟩ ∈ eT := eT_of (List.mem_of_getElem? (i := 824) (by decide +kernel)) (by decide +kernel)
theorem tw_826 : Cond.instanceMethod ⟨"ControlledStation", "commandCame", "(LControlledStation$Command;I)V"⟩ ∈ eT := eT_of (List.mem_of_getElem? (i := 826) (by decide +kernel)) (by decide +kernel)
theorem tw_827 : Cond.code ⟨"ControlledStation", "commandCame", "(LControlledStation$Command;I)V"⟩ prog_1_method_37_code 7 (Option.none : Option FieldType) ∈ eT := eT_of (List.mem_of_getElem? (i := 827) (by decide +kernel)) (by decide +kernel)
theorem tw_828 : Cond.methodLink "ControlledStation" 211 ⟨"ControlledStation$Selection", "isOf", "(LControlledStation$Command;)Z"⟩ ∈ eT := eT_of (List.mem_of_getElem? (i := 828) (by decide +kernel)) (by decide +kernel)
theorem tw_829 : Cond.instanceMethod ⟨"ControlledStation$Selection", "isOf", "(LControlledStation$Command;)Z"⟩ ∈ eT := eT_of (List.mem_of_getElem? (i := 829) (by decide +kernel)) (by decide +kernel)
theorem tw_830 : Cond.selects "ControlledStation$Selection" ⟨"ControlledStation$Selection", "isOf", "(LControlledStation$Command;)Z"⟩ ⟨"ControlledStation$Selection", "isOf", "(LControlledStation$Command;)Z"⟩ ∈ eT := eT_of (List.mem_of_getElem? (i := 830) (by decide +kernel)) (by decide +kernel)
theorem tw_831 : Cond.code ⟨"ControlledStation$Selection", "isOf", "(LControlledStation$Command;)Z"⟩ prog_11_method_5_code 2 (Option.some FieldType.boolean) ∈ eT := eT_of (List.mem_of_getElem? (i := 831) (by decide +kernel)) (by decide +kernel)
theorem tw_832 : Cond.fieldLink "ControlledStation" 419 "ControlledStation" "COMMAND_BYTES" "[I" ∈ eT := eT_of (List.mem_of_getElem? (i := 832) (by decide +kernel)) (by decide +kernel)
theorem tw_834 : Cond.methodLink "ControlledStation" 422 ⟨"ControlledStation$Command", "isOrder", "(I)Z"⟩ ∈ eT := eT_of (List.mem_of_getElem? (i := 834) (by decide +kernel)) (by decide +kernel)
theorem tw_835 : Cond.instanceMethod ⟨"ControlledStation$Command", "isOrder", "(I)Z"⟩ ∈ eT := eT_of (List.mem_of_getElem? (i := 835) (by decide +kernel)) (by decide +kernel)
theorem tw_836 : Cond.selects "ControlledStation$Command" ⟨"ControlledStation$Command", "isOrder", "(I)Z"⟩ ⟨"ControlledStation$Command", "isOrder", "(I)Z"⟩ ∈ eT := eT_of (List.mem_of_getElem? (i := 836) (by decide +kernel)) (by decide +kernel)
theorem tw_837 : Cond.code ⟨"ControlledStation$Command", "isOrder", "(I)Z"⟩ prog_4_method_2_code 2 (Option.some FieldType.boolean) ∈ eT := eT_of (List.mem_of_getElem? (i := 837) (by decide +kernel)) (by decide +kernel)
theorem tw_838 : Cond.methodLink "ControlledStation" 425 ⟨"ControlledStation", "selectCame", "(LControlledStation$Command;IZ)V"⟩ ∈ eT := eT_of (List.mem_of_getElem? (i := 838) (by decide +kernel)) (by decide +kernel)
theorem tw_840 : Cond.instanceMethod ⟨"ControlledStation", "selectCame", "(LControlledStation$Command;IZ)V"⟩ ∈ eT := eT_of (List.mem_of_getElem? (i := 840) (by decide +kernel)) (by decide +kernel)
theorem tw_841 : Cond.code ⟨"ControlledStation", "selectCame", "(LControlledStation$Command;IZ)V"⟩ prog_1_method_38_code 4 (Option.none : Option FieldType) ∈ eT := eT_of (List.mem_of_getElem? (i := 841) (by decide +kernel)) (by decide +kernel)
theorem tw_842 : Cond.methodLink "ControlledStation" 439 ⟨"ControlledStation$Selection", "isOfSome", "()Z"⟩ ∈ eT := eT_of (List.mem_of_getElem? (i := 842) (by decide +kernel)) (by decide +kernel)
theorem tw_843 : Cond.instanceMethod ⟨"ControlledStation$Selection", "isOfSome", "()Z"⟩ ∈ eT := eT_of (List.mem_of_getElem? (i := 843) (by decide +kernel)) (by decide +kernel)
theorem tw_844 : Cond.selects "ControlledStation$Selection" ⟨"ControlledStation$Selection", "isOfSome", "()Z"⟩ ⟨"ControlledStation$Selection", "isOfSome", "()Z"⟩ ∈ eT := eT_of (List.mem_of_getElem? (i := 844) (by decide +kernel)) (by decide +kernel)
theorem tw_845 : Cond.code ⟨"ControlledStation$Selection", "isOfSome", "()Z"⟩ prog_11_method_4_code 1 (Option.some FieldType.boolean) ∈ eT := eT_of (List.mem_of_getElem? (i := 845) (by decide +kernel)) (by decide +kernel)
theorem tw_846 : Cond.methodLink "ControlledStation" 445 ⟨"ControlledStation$Selection", "begin", "(LControlledStation$Command;III)V"⟩ ∈ eT := eT_of (List.mem_of_getElem? (i := 846) (by decide +kernel)) (by decide +kernel)
theorem tw_847 : Cond.instanceMethod ⟨"ControlledStation$Selection", "begin", "(LControlledStation$Command;III)V"⟩ ∈ eT := eT_of (List.mem_of_getElem? (i := 847) (by decide +kernel)) (by decide +kernel)
theorem tw_848 : Cond.selects "ControlledStation$Selection" ⟨"ControlledStation$Selection", "begin", "(LControlledStation$Command;III)V"⟩ ⟨"ControlledStation$Selection", "begin", "(LControlledStation$Command;III)V"⟩ ∈ eT := eT_of (List.mem_of_getElem? (i := 848) (by decide +kernel)) (by decide +kernel)
theorem tw_849 : Cond.code ⟨"ControlledStation$Selection", "begin", "(LControlledStation$Command;III)V"⟩ prog_11_method_2_code 5 (Option.none : Option FieldType) ∈ eT := eT_of (List.mem_of_getElem? (i := 849) (by decide +kernel)) (by decide +kernel)
theorem tw_850 : Cond.methodLink "ControlledStation" 432 ⟨"ControlledStation", "endSelection", "(LControlledStation$Command;IZ)Z"⟩ ∈ eT := eT_of (List.mem_of_getElem? (i := 850) (by decide +kernel)) (by decide +kernel)
theorem tw_852 : Cond.instanceMethod ⟨"ControlledStation", "endSelection", "(LControlledStation$Command;IZ)Z"⟩ ∈ eT := eT_of (List.mem_of_getElem? (i := 852) (by decide +kernel)) (by decide +kernel)
theorem tw_853 : Cond.code ⟨"ControlledStation", "endSelection", "(LControlledStation$Command;IZ)Z"⟩ prog_1_method_39_code 5 (Option.some FieldType.boolean) ∈ eT := eT_of (List.mem_of_getElem? (i := 853) (by decide +kernel)) (by decide +kernel)
theorem tw_854 : Cond.methodLink "ControlledStation" 436 ⟨"ControlledStation", "carryOut", "(LControlledStation$Command;IZ)V"⟩ ∈ eT := eT_of (List.mem_of_getElem? (i := 854) (by decide +kernel)) (by decide +kernel)
theorem tw_856 : Cond.instanceMethod ⟨"ControlledStation", "carryOut", "(LControlledStation$Command;IZ)V"⟩ ∈ eT := eT_of (List.mem_of_getElem? (i := 856) (by decide +kernel)) (by decide +kernel)
theorem tw_857 : Cond.code ⟨"ControlledStation", "carryOut", "(LControlledStation$Command;IZ)V"⟩ prog_1_method_40_code 5 (Option.none : Option FieldType) ∈ eT := eT_of (List.mem_of_getElem? (i := 857) (by decide +kernel)) (by decide +kernel)
theorem tw_858 : Cond.methodLink "ControlledStation" 458 ⟨"ControlledStation$Command", "valueOf", "(I)I"⟩ ∈ eT := eT_of (List.mem_of_getElem? (i := 858) (by decide +kernel)) (by decide +kernel)
theorem tw_859 : Cond.instanceMethod ⟨"ControlledStation$Command", "valueOf", "(I)I"⟩ ∈ eT := eT_of (List.mem_of_getElem? (i := 859) (by decide +kernel)) (by decide +kernel)
theorem tw_860 : Cond.selects "ControlledStation$Command" ⟨"ControlledStation$Command", "valueOf", "(I)I"⟩ ⟨"ControlledStation$Command", "valueOf", "(I)I"⟩ ∈ eT := eT_of (List.mem_of_getElem? (i := 860) (by decide +kernel)) (by decide +kernel)
theorem tw_861 : Cond.code ⟨"ControlledStation$Command", "valueOf", "(I)I"⟩ prog_4_method_3_code 2 (Option.some FieldType.int) ∈ eT := eT_of (List.mem_of_getElem? (i := 861) (by decide +kernel)) (by decide +kernel)
theorem tw_862 : Cond.methodLink "ControlledStation" 181 ⟨"ControlledStation", "behindFrame", "()V"⟩ ∈ eT := eT_of (List.mem_of_getElem? (i := 862) (by decide +kernel)) (by decide +kernel)
theorem tw_864 : Cond.instanceMethod ⟨"ControlledStation", "behindFrame", "()V"⟩ ∈ eT := eT_of (List.mem_of_getElem? (i := 864) (by decide +kernel)) (by decide +kernel)
theorem tw_865 : Cond.code ⟨"ControlledStation", "behindFrame", "()V"⟩ prog_1_method_27_code 1 (Option.none : Option FieldType) ∈ eT := eT_of (List.mem_of_getElem? (i := 865) (by decide +kernel)) (by decide +kernel)
theorem tw_869 : Cond.code ⟨"ControlledStation", "tick", "(I)I"⟩ prog_1_method_9_code 3 (Option.some FieldType.int) ∈ eT := eT_of (List.mem_of_getElem? (i := 869) (by decide +kernel)) (by decide +kernel)
theorem tw_870 : Cond.methodLink "ControlledStation" 184 ⟨"ControlledStation$Calendar", "goOn", "()V"⟩ ∈ eT := eT_of (List.mem_of_getElem? (i := 870) (by decide +kernel)) (by decide +kernel)
theorem tw_871 : Cond.instanceMethod ⟨"ControlledStation$Calendar", "goOn", "()V"⟩ ∈ eT := eT_of (List.mem_of_getElem? (i := 871) (by decide +kernel)) (by decide +kernel)
theorem tw_872 : Cond.selects "ControlledStation$Calendar" ⟨"ControlledStation$Calendar", "goOn", "()V"⟩ ⟨"ControlledStation$Calendar", "goOn", "()V"⟩ ∈ eT := eT_of (List.mem_of_getElem? (i := 872) (by decide +kernel)) (by decide +kernel)
theorem tw_873 : Cond.code ⟨"ControlledStation$Calendar", "goOn", "()V"⟩ prog_3_method_2_code 1 (Option.none : Option FieldType) ∈ eT := eT_of (List.mem_of_getElem? (i := 873) (by decide +kernel)) (by decide +kernel)
theorem tw_874 : Cond.constant "ControlledStation$Calendar" 21 (60000 : Int32) ∈ eT := eT_of (List.mem_of_getElem? (i := 874) (by decide +kernel)) (by decide +kernel)
theorem tw_875 : Cond.methodLink "ControlledStation" 187 ⟨"ControlledStation", "runTimers", "()V"⟩ ∈ eT := eT_of (List.mem_of_getElem? (i := 875) (by decide +kernel)) (by decide +kernel)
theorem tw_877 : Cond.instanceMethod ⟨"ControlledStation", "runTimers", "()V"⟩ ∈ eT := eT_of (List.mem_of_getElem? (i := 877) (by decide +kernel)) (by decide +kernel)
theorem tw_878 : Cond.code ⟨"ControlledStation", "runTimers", "()V"⟩ prog_1_method_19_code 3 (Option.none : Option FieldType) ∈ eT := eT_of (List.mem_of_getElem? (i := 878) (by decide +kernel)) (by decide +kernel)
theorem tw_879 : Cond.methodLink "ControlledStation" 284 ⟨"ControlledStation$SentFrames", "eldestAt", "()I"⟩ ∈ eT := eT_of (List.mem_of_getElem? (i := 879) (by decide +kernel)) (by decide +kernel)
theorem tw_880 : Cond.instanceMethod ⟨"ControlledStation$SentFrames", "eldestAt", "()I"⟩ ∈ eT := eT_of (List.mem_of_getElem? (i := 880) (by decide +kernel)) (by decide +kernel)
theorem tw_881 : Cond.selects "ControlledStation$SentFrames" ⟨"ControlledStation$SentFrames", "eldestAt", "()I"⟩ ⟨"ControlledStation$SentFrames", "eldestAt", "()I"⟩ ∈ eT := eT_of (List.mem_of_getElem? (i := 881) (by decide +kernel)) (by decide +kernel)
theorem tw_882 : Cond.code ⟨"ControlledStation$SentFrames", "eldestAt", "()I"⟩ prog_12_method_5_code 1 (Option.some FieldType.int) ∈ eT := eT_of (List.mem_of_getElem? (i := 882) (by decide +kernel)) (by decide +kernel)
theorem tw_883 : Cond.methodLink "ControlledStation" 287 ⟨"ControlledStation", "isOver", "(II)Z"⟩ ∈ eT := eT_of (List.mem_of_getElem? (i := 883) (by decide +kernel)) (by decide +kernel)
theorem tw_885 : Cond.instanceMethod ⟨"ControlledStation", "isOver", "(II)Z"⟩ ∈ eT := eT_of (List.mem_of_getElem? (i := 885) (by decide +kernel)) (by decide +kernel)
theorem tw_886 : Cond.code ⟨"ControlledStation", "isOver", "(II)Z"⟩ prog_1_method_20_code 3 (Option.some FieldType.boolean) ∈ eT := eT_of (List.mem_of_getElem? (i := 886) (by decide +kernel)) (by decide +kernel)
theorem tw_887 : Cond.methodLink "ControlledStation" 299 ⟨"ControlledStation", "sendTest", "()V"⟩ ∈ eT := eT_of (List.mem_of_getElem? (i := 887) (by decide +kernel)) (by decide +kernel)
theorem tw_889 : Cond.instanceMethod ⟨"ControlledStation", "sendTest", "()V"⟩ ∈ eT := eT_of (List.mem_of_getElem? (i := 889) (by decide +kernel)) (by decide +kernel)
theorem tw_890 : Cond.code ⟨"ControlledStation", "sendTest", "()V"⟩ prog_1_method_21_code 1 (Option.none : Option FieldType) ∈ eT := eT_of (List.mem_of_getElem? (i := 890) (by decide +kernel)) (by decide +kernel)
theorem tw_891 : Cond.methodLink "ControlledStation" 302 ⟨"ControlledStation$Selection", "goOn", "()V"⟩ ∈ eT := eT_of (List.mem_of_getElem? (i := 891) (by decide +kernel)) (by decide +kernel)
theorem tw_892 : Cond.instanceMethod ⟨"ControlledStation$Selection", "goOn", "()V"⟩ ∈ eT := eT_of (List.mem_of_getElem? (i := 892) (by decide +kernel)) (by decide +kernel)
theorem tw_893 : Cond.selects "ControlledStation$Selection" ⟨"ControlledStation$Selection", "goOn", "()V"⟩ ⟨"ControlledStation$Selection", "goOn", "()V"⟩ ∈ eT := eT_of (List.mem_of_getElem? (i := 893) (by decide +kernel)) (by decide +kernel)
theorem tw_894 : Cond.code ⟨"ControlledStation$Selection", "goOn", "()V"⟩ prog_11_method_6_code 1 (Option.none : Option FieldType) ∈ eT := eT_of (List.mem_of_getElem? (i := 894) (by decide +kernel)) (by decide +kernel)
theorem tw_898 : Cond.code ⟨"ControlledStation", "out", "(I)I"⟩ prog_1_method_10_code 2 (Option.some FieldType.int) ∈ eT := eT_of (List.mem_of_getElem? (i := 898) (by decide +kernel)) (by decide +kernel)
theorem tw_899 : Cond.methodLink "ControlledStation" 193 ⟨"ControlledStation$OutBytes", "at", "(I)I"⟩ ∈ eT := eT_of (List.mem_of_getElem? (i := 899) (by decide +kernel)) (by decide +kernel)
theorem tw_900 : Cond.instanceMethod ⟨"ControlledStation$OutBytes", "at", "(I)I"⟩ ∈ eT := eT_of (List.mem_of_getElem? (i := 900) (by decide +kernel)) (by decide +kernel)
theorem tw_901 : Cond.selects "ControlledStation$OutBytes" ⟨"ControlledStation$OutBytes", "at", "(I)I"⟩ ⟨"ControlledStation$OutBytes", "at", "(I)I"⟩ ∈ eT := eT_of (List.mem_of_getElem? (i := 901) (by decide +kernel)) (by decide +kernel)
theorem tw_902 : Cond.code ⟨"ControlledStation$OutBytes", "at", "(I)I"⟩ prog_7_method_4_code 2 (Option.some FieldType.int) ∈ eT := eT_of (List.mem_of_getElem? (i := 902) (by decide +kernel)) (by decide +kernel)
theorem tw_906 : Cond.code ⟨"ControlledStation", "take", "(I)I"⟩ prog_1_method_11_code 2 (Option.some FieldType.int) ∈ eT := eT_of (List.mem_of_getElem? (i := 906) (by decide +kernel)) (by decide +kernel)
theorem tw_907 : Cond.methodLink "ControlledStation" 195 ⟨"ControlledStation$OutBytes", "dropFirst", "(I)V"⟩ ∈ eT := eT_of (List.mem_of_getElem? (i := 907) (by decide +kernel)) (by decide +kernel)
theorem tw_908 : Cond.instanceMethod ⟨"ControlledStation$OutBytes", "dropFirst", "(I)V"⟩ ∈ eT := eT_of (List.mem_of_getElem? (i := 908) (by decide +kernel)) (by decide +kernel)
theorem tw_909 : Cond.selects "ControlledStation$OutBytes" ⟨"ControlledStation$OutBytes", "dropFirst", "(I)V"⟩ ⟨"ControlledStation$OutBytes", "dropFirst", "(I)V"⟩ ∈ eT := eT_of (List.mem_of_getElem? (i := 909) (by decide +kernel)) (by decide +kernel)
theorem tw_910 : Cond.code ⟨"ControlledStation$OutBytes", "dropFirst", "(I)V"⟩ prog_7_method_5_code 2 (Option.none : Option FieldType) ∈ eT := eT_of (List.mem_of_getElem? (i := 910) (by decide +kernel)) (by decide +kernel)
theorem tw_914 : Cond.code ⟨"ControlledStation", "told", "(II)I"⟩ prog_1_method_12_code 4 (Option.some FieldType.int) ∈ eT := eT_of (List.mem_of_getElem? (i := 914) (by decide +kernel)) (by decide +kernel)
theorem tw_918 : Cond.code ⟨"ControlledStation", "ordered", "(II)I"⟩ prog_1_method_13_code 5 (Option.some FieldType.int) ∈ eT := eT_of (List.mem_of_getElem? (i := 918) (by decide +kernel)) (by decide +kernel)
theorem tw_922 : Cond.code ⟨"ControlledStation", "clock", "(I)I"⟩ prog_1_method_14_code 2 (Option.some FieldType.int) ∈ eT := eT_of (List.mem_of_getElem? (i := 922) (by decide +kernel)) (by decide +kernel)
theorem tw_926 : Cond.code ⟨"ControlledStation", "count", "(I)I"⟩ prog_1_method_15_code 2 (Option.some FieldType.int) ∈ eT := eT_of (List.mem_of_getElem? (i := 926) (by decide +kernel)) (by decide +kernel)
theorem tw_931 : Cond.code ⟨"ControlledStationModel", "<init>", "()V"⟩ prog_14_method_1_code 1 (Option.none : Option FieldType) ∈ eT := eT_of (List.mem_of_getElem? (i := 931) (by decide +kernel)) (by decide +kernel)
theorem tw_932 : Cond.methodLink "ControlledStationModel" 1 ⟨"java/lang/Object", "<init>", "()V"⟩ ∈ eT := eT_of (List.mem_of_getElem? (i := 932) (by decide +kernel)) (by decide +kernel)
theorem tw_933 : Cond.fieldLink "ControlledStationModel" 7 "ControlledStationModel" "setting" "[I" ∈ eT := eT_of (List.mem_of_getElem? (i := 933) (by decide +kernel)) (by decide +kernel)
theorem tw_934 : Cond.fieldLink "ControlledStationModel" 108 "ControlledStationModel" "points" "I" ∈ eT := eT_of (List.mem_of_getElem? (i := 934) (by decide +kernel)) (by decide +kernel)
theorem tw_935 : Cond.fieldLink "ControlledStationModel" 13 "ControlledStationModel" "sort" "[I" ∈ eT := eT_of (List.mem_of_getElem? (i := 935) (by decide +kernel)) (by decide +kernel)
theorem tw_936 : Cond.fieldLink "ControlledStationModel" 16 "ControlledStationModel" "address" "[I" ∈ eT := eT_of (List.mem_of_getElem? (i := 936) (by decide +kernel)) (by decide +kernel)
theorem tw_937 : Cond.fieldLink "ControlledStationModel" 19 "ControlledStationModel" "group" "[I" ∈ eT := eT_of (List.mem_of_getElem? (i := 937) (by decide +kernel)) (by decide +kernel)
theorem tw_938 : Cond.fieldLink "ControlledStationModel" 22 "ControlledStationModel" "timed" "[Z" ∈ eT := eT_of (List.mem_of_getElem? (i := 938) (by decide +kernel)) (by decide +kernel)
theorem tw_939 : Cond.fieldLink "ControlledStationModel" 26 "ControlledStationModel" "value" "[I" ∈ eT := eT_of (List.mem_of_getElem? (i := 939) (by decide +kernel)) (by decide +kernel)
theorem tw_940 : Cond.fieldLink "ControlledStationModel" 29 "ControlledStationModel" "quality" "[I" ∈ eT := eT_of (List.mem_of_getElem? (i := 940) (by decide +kernel)) (by decide +kernel)
theorem tw_941 : Cond.fieldLink "ControlledStationModel" 32 "ControlledStationModel" "frozen" "[I" ∈ eT := eT_of (List.mem_of_getElem? (i := 941) (by decide +kernel)) (by decide +kernel)
theorem tw_942 : Cond.fieldLink "ControlledStationModel" 130 "ControlledStationModel" "commands" "I" ∈ eT := eT_of (List.mem_of_getElem? (i := 942) (by decide +kernel)) (by decide +kernel)
theorem tw_943 : Cond.fieldLink "ControlledStationModel" 35 "ControlledStationModel" "order" "[I" ∈ eT := eT_of (List.mem_of_getElem? (i := 943) (by decide +kernel)) (by decide +kernel)
theorem tw_944 : Cond.fieldLink "ControlledStationModel" 38 "ControlledStationModel" "orderAddress" "[I" ∈ eT := eT_of (List.mem_of_getElem? (i := 944) (by decide +kernel)) (by decide +kernel)
theorem tw_945 : Cond.fieldLink "ControlledStationModel" 41 "ControlledStationModel" "orderPoint" "[I" ∈ eT := eT_of (List.mem_of_getElem? (i := 945) (by decide +kernel)) (by decide +kernel)
theorem tw_946 : Cond.fieldLink "ControlledStationModel" 44 "ControlledStationModel" "mustSelect" "[Z" ∈ eT := eT_of (List.mem_of_getElem? (i := 946) (by decide +kernel)) (by decide +kernel)
theorem tw_947 : Cond.fieldLink "ControlledStationModel" 47 "ControlledStationModel" "carried" "[I" ∈ eT := eT_of (List.mem_of_getElem? (i := 947) (by decide +kernel)) (by decide +kernel)
theorem tw_948 : Cond.fieldLink "ControlledStationModel" 50 "ControlledStationModel" "selected" "I" ∈ eT := eT_of (List.mem_of_getElem? (i := 948) (by decide +kernel)) (by decide +kernel)
theorem tw_949 : Cond.fieldLink "ControlledStationModel" 333 "ControlledStationModel" "selectedAt" "I" ∈ eT := eT_of (List.mem_of_getElem? (i := 949) (by decide +kernel)) (by decide +kernel)
theorem tw_950 : Cond.fieldLink "ControlledStationModel" 336 "ControlledStationModel" "selectedBy" "I" ∈ eT := eT_of (List.mem_of_getElem? (i := 950) (by decide +kernel)) (by decide +kernel)
theorem tw_951 : Cond.fieldLink "ControlledStationModel" 54 "ControlledStationModel" "selectedBytes" "[I" ∈ eT := eT_of (List.mem_of_getElem? (i := 951) (by decide +kernel)) (by decide +kernel)
theorem tw_952 : Cond.fieldLink "ControlledStationModel" 219 "ControlledStationModel" "freezes" "I" ∈ eT := eT_of (List.mem_of_getElem? (i := 952) (by decide +kernel)) (by decide +kernel)
theorem tw_953 : Cond.fieldLink "ControlledStationModel" 209 "ControlledStationModel" "ticks" "I" ∈ eT := eT_of (List.mem_of_getElem? (i := 953) (by decide +kernel)) (by decide +kernel)
theorem tw_954 : Cond.fieldLink "ControlledStationModel" 57 "ControlledStationModel" "clock" "[I" ∈ eT := eT_of (List.mem_of_getElem? (i := 954) (by decide +kernel)) (by decide +kernel)
theorem tw_955 : Cond.fieldLink "ControlledStationModel" 168 "ControlledStationModel" "isSet" "Z" ∈ eT := eT_of (List.mem_of_getElem? (i := 955) (by decide +kernel)) (by decide +kernel)
theorem tw_956 : Cond.fieldLink "ControlledStationModel" 158 "ControlledStationModel" "events" "I" ∈ eT := eT_of (List.mem_of_getElem? (i := 956) (by decide +kernel)) (by decide +kernel)
theorem tw_957 : Cond.fieldLink "ControlledStationModel" 60 "ControlledStationModel" "eventPoint" "[I" ∈ eT := eT_of (List.mem_of_getElem? (i := 957) (by decide +kernel)) (by decide +kernel)
theorem tw_958 : Cond.fieldLink "ControlledStationModel" 63 "ControlledStationModel" "eventValue" "[I" ∈ eT := eT_of (List.mem_of_getElem? (i := 958) (by decide +kernel)) (by decide +kernel)
theorem tw_959 : Cond.fieldLink "ControlledStationModel" 66 "ControlledStationModel" "eventQuality" "[I" ∈ eT := eT_of (List.mem_of_getElem? (i := 959) (by decide +kernel)) (by decide +kernel)
theorem tw_960 : Cond.fieldLink "ControlledStationModel" 69 "ControlledStationModel" "eventTime" "[I" ∈ eT := eT_of (List.mem_of_getElem? (i := 960) (by decide +kernel)) (by decide +kernel)
theorem tw_961 : Cond.fieldLink "ControlledStationModel" 206 "ControlledStationModel" "sentMany" "I" ∈ eT := eT_of (List.mem_of_getElem? (i := 961) (by decide +kernel)) (by decide +kernel)
theorem tw_962 : Cond.fieldLink "ControlledStationModel" 72 "ControlledStationModel" "sentAt" "[I" ∈ eT := eT_of (List.mem_of_getElem? (i := 962) (by decide +kernel)) (by decide +kernel)
theorem tw_963 : Cond.fieldLink "ControlledStationModel" 75 "ControlledStationModel" "sentEvent" "[Z" ∈ eT := eT_of (List.mem_of_getElem? (i := 963) (by decide +kernel)) (by decide +kernel)
theorem tw_964 : Cond.fieldLink "ControlledStationModel" 78 "ControlledStationModel" "sentPoint" "[I" ∈ eT := eT_of (List.mem_of_getElem? (i := 964) (by decide +kernel)) (by decide +kernel)
theorem tw_965 : Cond.fieldLink "ControlledStationModel" 81 "ControlledStationModel" "sentValue" "[I" ∈ eT := eT_of (List.mem_of_getElem? (i := 965) (by decide +kernel)) (by decide +kernel)
theorem tw_966 : Cond.fieldLink "ControlledStationModel" 84 "ControlledStationModel" "sentQuality" "[I" ∈ eT := eT_of (List.mem_of_getElem? (i := 966) (by decide +kernel)) (by decide +kernel)
theorem tw_967 : Cond.fieldLink "ControlledStationModel" 87 "ControlledStationModel" "sentTime" "[I" ∈ eT := eT_of (List.mem_of_getElem? (i := 967) (by decide +kernel)) (by decide +kernel)
theorem tw_968 : Cond.fieldLink "ControlledStationModel" 125 "ControlledStationModel" "link" "I" ∈ eT := eT_of (List.mem_of_getElem? (i := 968) (by decide +kernel)) (by decide +kernel)
theorem tw_969 : Cond.fieldLink "ControlledStationModel" 252 "ControlledStationModel" "reason" "I" ∈ eT := eT_of (List.mem_of_getElem? (i := 969) (by decide +kernel)) (by decide +kernel)
theorem tw_970 : Cond.fieldLink "ControlledStationModel" 200 "ControlledStationModel" "sent" "I" ∈ eT := eT_of (List.mem_of_getElem? (i := 970) (by decide +kernel)) (by decide +kernel)
theorem tw_971 : Cond.fieldLink "ControlledStationModel" 182 "ControlledStationModel" "came" "I" ∈ eT := eT_of (List.mem_of_getElem? (i := 971) (by decide +kernel)) (by decide +kernel)
theorem tw_972 : Cond.fieldLink "ControlledStationModel" 197 "ControlledStationModel" "told" "I" ∈ eT := eT_of (List.mem_of_getElem? (i := 972) (by decide +kernel)) (by decide +kernel)
theorem tw_973 : Cond.fieldLink "ControlledStationModel" 290 "ControlledStationModel" "firstAt" "I" ∈ eT := eT_of (List.mem_of_getElem? (i := 973) (by decide +kernel)) (by decide +kernel)
theorem tw_974 : Cond.fieldLink "ControlledStationModel" 261 "ControlledStationModel" "frameAt" "I" ∈ eT := eT_of (List.mem_of_getElem? (i := 974) (by decide +kernel)) (by decide +kernel)
theorem tw_975 : Cond.fieldLink "ControlledStationModel" 258 "ControlledStationModel" "tests" "Z" ∈ eT := eT_of (List.mem_of_getElem? (i := 975) (by decide +kernel)) (by decide +kernel)
theorem tw_976 : Cond.fieldLink "ControlledStationModel" 369 "ControlledStationModel" "testAt" "I" ∈ eT := eT_of (List.mem_of_getElem? (i := 976) (by decide +kernel)) (by decide +kernel)
theorem tw_977 : Cond.fieldLink "ControlledStationModel" 302 "ControlledStationModel" "passed" "I" ∈ eT := eT_of (List.mem_of_getElem? (i := 977) (by decide +kernel)) (by decide +kernel)
theorem tw_978 : Cond.fieldLink "ControlledStationModel" 222 "ControlledStationModel" "answers" "I" ∈ eT := eT_of (List.mem_of_getElem? (i := 978) (by decide +kernel)) (by decide +kernel)
theorem tw_979 : Cond.fieldLink "ControlledStationModel" 90 "ControlledStationModel" "answerSize" "[I" ∈ eT := eT_of (List.mem_of_getElem? (i := 979) (by decide +kernel)) (by decide +kernel)
theorem tw_980 : Cond.fieldLink "ControlledStationModel" 93 "ControlledStationModel" "answer" "[I" ∈ eT := eT_of (List.mem_of_getElem? (i := 980) (by decide +kernel)) (by decide +kernel)
theorem tw_981 : Cond.fieldLink "ControlledStationModel" 96 "ControlledStationModel" "out" "[I" ∈ eT := eT_of (List.mem_of_getElem? (i := 981) (by decide +kernel)) (by decide +kernel)
theorem tw_982 : Cond.fieldLink "ControlledStationModel" 172 "ControlledStationModel" "outSize" "I" ∈ eT := eT_of (List.mem_of_getElem? (i := 982) (by decide +kernel)) (by decide +kernel)
theorem tw_983 : Cond.fieldLink "ControlledStationModel" 99 "ControlledStationModel" "frame" "[I" ∈ eT := eT_of (List.mem_of_getElem? (i := 983) (by decide +kernel)) (by decide +kernel)
theorem tw_984 : Cond.fieldLink "ControlledStationModel" 255 "ControlledStationModel" "framed" "I" ∈ eT := eT_of (List.mem_of_getElem? (i := 984) (by decide +kernel)) (by decide +kernel)
theorem tw_985 : Cond.fieldLink "ControlledStationModel" 102 "ControlledStationModel" "draft" "[I" ∈ eT := eT_of (List.mem_of_getElem? (i := 985) (by decide +kernel)) (by decide +kernel)
theorem tw_986 : Cond.fieldLink "ControlledStationModel" 203 "ControlledStationModel" "drafted" "I" ∈ eT := eT_of (List.mem_of_getElem? (i := 986) (by decide +kernel)) (by decide +kernel)
theorem tw_987 : Cond.fieldLink "ControlledStationModel" 105 "ControlledStationModel" "row" "[I" ∈ eT := eT_of (List.mem_of_getElem? (i := 987) (by decide +kernel)) (by decide +kernel)
theorem tw_1102 : Cond.code ⟨"ControlledStationModel", "set", "(II)I"⟩ prog_14_method_5_code 5 (Option.some FieldType.int) ∈ eT := eT_of (List.mem_of_getElem? (i := 1102) (by decide +kernel)) (by decide +kernel)
theorem tw_1103 : Cond.constantLong "ControlledStationModel" 115 (65534 : Int64) ∈ eT := eT_of (List.mem_of_getElem? (i := 1103) (by decide +kernel)) (by decide +kernel)
theorem tw_1104 : Cond.methodLink "ControlledStationModel" 111 ⟨"ControlledStationModel", "in", "(JJJ)Z"⟩ ∈ eT := eT_of (List.mem_of_getElem? (i := 1104) (by decide +kernel)) (by decide +kernel)
theorem tw_1105 : Cond.static ⟨"ControlledStationModel", "in", "(JJJ)Z"⟩ ∈ eT := eT_of (List.mem_of_getElem? (i := 1105) (by decide +kernel)) (by decide +kernel)
theorem tw_1106 : Cond.code ⟨"ControlledStationModel", "in", "(JJJ)Z"⟩ prog_14_method_3_code 6 (Option.some FieldType.boolean) ∈ eT := eT_of (List.mem_of_getElem? (i := 1106) (by decide +kernel)) (by decide +kernel)
theorem tw_1107 : Cond.constantLong "ControlledStationModel" 117 (12 : Int64) ∈ eT := eT_of (List.mem_of_getElem? (i := 1107) (by decide +kernel)) (by decide +kernel)
theorem tw_1108 : Cond.constantLong "ControlledStationModel" 119 (3 : Int64) ∈ eT := eT_of (List.mem_of_getElem? (i := 1108) (by decide +kernel)) (by decide +kernel)
theorem tw_1109 : Cond.constantLong "ControlledStationModel" 121 (6 : Int64) ∈ eT := eT_of (List.mem_of_getElem? (i := 1109) (by decide +kernel)) (by decide +kernel)
theorem tw_1110 : Cond.constantLong "ControlledStationModel" 123 (1000 : Int64) ∈ eT := eT_of (List.mem_of_getElem? (i := 1110) (by decide +kernel)) (by decide +kernel)
theorem tw_1114 : Cond.code ⟨"ControlledStationModel", "point", "(IIIZ)I"⟩ prog_14_method_7_code 5 (Option.some FieldType.int) ∈ eT := eT_of (List.mem_of_getElem? (i := 1114) (by decide +kernel)) (by decide +kernel)
theorem tw_1115 : Cond.constantLong "ControlledStationModel" 133 (16 : Int64) ∈ eT := eT_of (List.mem_of_getElem? (i := 1115) (by decide +kernel)) (by decide +kernel)
theorem tw_1116 : Cond.methodLink "ControlledStationModel" 135 ⟨"ControlledStationModel", "isFree", "(I)Z"⟩ ∈ eT := eT_of (List.mem_of_getElem? (i := 1116) (by decide +kernel)) (by decide +kernel)
theorem tw_1118 : Cond.instanceMethod ⟨"ControlledStationModel", "isFree", "(I)Z"⟩ ∈ eT := eT_of (List.mem_of_getElem? (i := 1118) (by decide +kernel)) (by decide +kernel)
theorem tw_1119 : Cond.code ⟨"ControlledStationModel", "isFree", "(I)Z"⟩ prog_14_method_6_code 4 (Option.some FieldType.boolean) ∈ eT := eT_of (List.mem_of_getElem? (i := 1119) (by decide +kernel)) (by decide +kernel)
theorem tw_1120 : Cond.constantLong "ControlledStationModel" 128 (16777215 : Int64) ∈ eT := eT_of (List.mem_of_getElem? (i := 1120) (by decide +kernel)) (by decide +kernel)
theorem tw_1124 : Cond.code ⟨"ControlledStationModel", "command", "(IIIZ)I"⟩ prog_14_method_8_code 5 (Option.some FieldType.int) ∈ eT := eT_of (List.mem_of_getElem? (i := 1124) (by decide +kernel)) (by decide +kernel)
theorem tw_1125 : Cond.constantLong "ControlledStationModel" 139 (2 : Int64) ∈ eT := eT_of (List.mem_of_getElem? (i := 1125) (by decide +kernel)) (by decide +kernel)
theorem tw_1126 : Cond.methodLink "ControlledStationModel" 141 ⟨"ControlledStationModel", "isPoint", "(I)Z"⟩ ∈ eT := eT_of (List.mem_of_getElem? (i := 1126) (by decide +kernel)) (by decide +kernel)
theorem tw_1128 : Cond.instanceMethod ⟨"ControlledStationModel", "isPoint", "(I)Z"⟩ ∈ eT := eT_of (List.mem_of_getElem? (i := 1128) (by decide +kernel)) (by decide +kernel)
theorem tw_1129 : Cond.code ⟨"ControlledStationModel", "isPoint", "(I)Z"⟩ prog_14_method_4_code 2 (Option.some FieldType.boolean) ∈ eT := eT_of (List.mem_of_getElem? (i := 1129) (by decide +kernel)) (by decide +kernel)
theorem tw_1133 : Cond.code ⟨"ControlledStationModel", "change", "(III)I"⟩ prog_14_method_10_code 6 (Option.some FieldType.int) ∈ eT := eT_of (List.mem_of_getElem? (i := 1133) (by decide +kernel)) (by decide +kernel)
theorem tw_1134 : Cond.methodLink "ControlledStationModel" 154 ⟨"ControlledStationModel", "isValue", "(II)Z"⟩ ∈ eT := eT_of (List.mem_of_getElem? (i := 1134) (by decide +kernel)) (by decide +kernel)
theorem tw_1135 : Cond.static ⟨"ControlledStationModel", "isValue", "(II)Z"⟩ ∈ eT := eT_of (List.mem_of_getElem? (i := 1135) (by decide +kernel)) (by decide +kernel)
theorem tw_1136 : Cond.code ⟨"ControlledStationModel", "isValue", "(II)Z"⟩ prog_14_method_9_code 2 (Option.some FieldType.boolean) ∈ eT := eT_of (List.mem_of_getElem? (i := 1136) (by decide +kernel)) (by decide +kernel)
theorem tw_1137 : Cond.constantLong "ControlledStationModel" 144 (-64 : Int64) ∈ eT := eT_of (List.mem_of_getElem? (i := 1137) (by decide +kernel)) (by decide +kernel)
theorem tw_1138 : Cond.constantLong "ControlledStationModel" 146 (63 : Int64) ∈ eT := eT_of (List.mem_of_getElem? (i := 1138) (by decide +kernel)) (by decide +kernel)
theorem tw_1139 : Cond.constantLong "ControlledStationModel" 148 (-32768 : Int64) ∈ eT := eT_of (List.mem_of_getElem? (i := 1139) (by decide +kernel)) (by decide +kernel)
theorem tw_1140 : Cond.constantLong "ControlledStationModel" 150 (32767 : Int64) ∈ eT := eT_of (List.mem_of_getElem? (i := 1140) (by decide +kernel)) (by decide +kernel)
theorem tw_1141 : Cond.constant "ControlledStationModel" 152 (2147483647 : Int32) ∈ eT := eT_of (List.mem_of_getElem? (i := 1141) (by decide +kernel)) (by decide +kernel)
theorem tw_1142 : Cond.constant "ControlledStationModel" 153 (2139095040 : Int32) ∈ eT := eT_of (List.mem_of_getElem? (i := 1142) (by decide +kernel)) (by decide +kernel)
theorem tw_1143 : Cond.methodLink "ControlledStationModel" 161 ⟨"ControlledStationModel", "timeByte", "(I)I"⟩ ∈ eT := eT_of (List.mem_of_getElem? (i := 1143) (by decide +kernel)) (by decide +kernel)
theorem tw_1145 : Cond.instanceMethod ⟨"ControlledStationModel", "timeByte", "(I)I"⟩ ∈ eT := eT_of (List.mem_of_getElem? (i := 1145) (by decide +kernel)) (by decide +kernel)
theorem tw_1146 : Cond.code ⟨"ControlledStationModel", "timeByte", "(I)I"⟩ prog_14_method_11_code 2 (Option.some FieldType.int) ∈ eT := eT_of (List.mem_of_getElem? (i := 1146) (by decide +kernel)) (by decide +kernel)
theorem tw_1147 : Cond.methodLink "ControlledStationModel" 165 ⟨"ControlledStationModel", "sends", "()V"⟩ ∈ eT := eT_of (List.mem_of_getElem? (i := 1147) (by decide +kernel)) (by decide +kernel)
theorem tw_1149 : Cond.instanceMethod ⟨"ControlledStationModel", "sends", "()V"⟩ ∈ eT := eT_of (List.mem_of_getElem? (i := 1149) (by decide +kernel)) (by decide +kernel)
theorem tw_1150 : Cond.code ⟨"ControlledStationModel", "sends", "()V"⟩ prog_14_method_24_code 2 (Option.none : Option FieldType) ∈ eT := eT_of (List.mem_of_getElem? (i := 1150) (by decide +kernel)) (by decide +kernel)
theorem tw_1151 : Cond.methodLink "ControlledStationModel" 225 ⟨"ControlledStationModel", "sendsDraft", "()Z"⟩ ∈ eT := eT_of (List.mem_of_getElem? (i := 1151) (by decide +kernel)) (by decide +kernel)
theorem tw_1153 : Cond.instanceMethod ⟨"ControlledStationModel", "sendsDraft", "()Z"⟩ ∈ eT := eT_of (List.mem_of_getElem? (i := 1153) (by decide +kernel)) (by decide +kernel)
theorem tw_1154 : Cond.code ⟨"ControlledStationModel", "sendsDraft", "()Z"⟩ prog_14_method_17_code 2 (Option.some FieldType.boolean) ∈ eT := eT_of (List.mem_of_getElem? (i := 1154) (by decide +kernel)) (by decide +kernel)
theorem tw_1155 : Cond.constant "ControlledStationModel" 185 (32768 : Int32) ∈ eT := eT_of (List.mem_of_getElem? (i := 1155) (by decide +kernel)) (by decide +kernel)
theorem tw_1156 : Cond.methodLink "ControlledStationModel" 186 ⟨"ControlledStationModel", "ackLow", "()I"⟩ ∈ eT := eT_of (List.mem_of_getElem? (i := 1156) (by decide +kernel)) (by decide +kernel)
theorem tw_1158 : Cond.instanceMethod ⟨"ControlledStationModel", "ackLow", "()I"⟩ ∈ eT := eT_of (List.mem_of_getElem? (i := 1158) (by decide +kernel)) (by decide +kernel)
theorem tw_1159 : Cond.code ⟨"ControlledStationModel", "ackLow", "()I"⟩ prog_14_method_14_code 1 (Option.some FieldType.int) ∈ eT := eT_of (List.mem_of_getElem? (i := 1159) (by decide +kernel)) (by decide +kernel)
theorem tw_1160 : Cond.methodLink "ControlledStationModel" 190 ⟨"ControlledStationModel", "ackHigh", "()I"⟩ ∈ eT := eT_of (List.mem_of_getElem? (i := 1160) (by decide +kernel)) (by decide +kernel)
theorem tw_1162 : Cond.instanceMethod ⟨"ControlledStationModel", "ackHigh", "()I"⟩ ∈ eT := eT_of (List.mem_of_getElem? (i := 1162) (by decide +kernel)) (by decide +kernel)
theorem tw_1163 : Cond.code ⟨"ControlledStationModel", "ackHigh", "()I"⟩ prog_14_method_15_code 1 (Option.some FieldType.int) ∈ eT := eT_of (List.mem_of_getElem? (i := 1163) (by decide +kernel)) (by decide +kernel)
theorem tw_1164 : Cond.methodLink "ControlledStationModel" 193 ⟨"ControlledStationModel", "frames", "(IIIII)Z"⟩ ∈ eT := eT_of (List.mem_of_getElem? (i := 1164) (by decide +kernel)) (by decide +kernel)
theorem tw_1166 : Cond.instanceMethod ⟨"ControlledStationModel", "frames", "(IIIII)Z"⟩ ∈ eT := eT_of (List.mem_of_getElem? (i := 1166) (by decide +kernel)) (by decide +kernel)
theorem tw_1167 : Cond.code ⟨"ControlledStationModel", "frames", "(IIIII)Z"⟩ prog_14_method_13_code 7 (Option.some FieldType.boolean) ∈ eT := eT_of (List.mem_of_getElem? (i := 1167) (by decide +kernel)) (by decide +kernel)
theorem tw_1168 : Cond.methodLink "ControlledStationModel" 175 ⟨"ControlledStationModel", "closes", "(I)V"⟩ ∈ eT := eT_of (List.mem_of_getElem? (i := 1168) (by decide +kernel)) (by decide +kernel)
theorem tw_1170 : Cond.instanceMethod ⟨"ControlledStationModel", "closes", "(I)V"⟩ ∈ eT := eT_of (List.mem_of_getElem? (i := 1170) (by decide +kernel)) (by decide +kernel)
theorem tw_1171 : Cond.code ⟨"ControlledStationModel", "closes", "(I)V"⟩ prog_14_method_28_code 4 (Option.none : Option FieldType) ∈ eT := eT_of (List.mem_of_getElem? (i := 1171) (by decide +kernel)) (by decide +kernel)
theorem tw_1172 : Cond.methodLink "ControlledStationModel" 249 ⟨"ControlledStationModel", "moveEvent", "(II)V"⟩ ∈ eT := eT_of (List.mem_of_getElem? (i := 1172) (by decide +kernel)) (by decide +kernel)
theorem tw_1174 : Cond.instanceMethod ⟨"ControlledStationModel", "moveEvent", "(II)V"⟩ ∈ eT := eT_of (List.mem_of_getElem? (i := 1174) (by decide +kernel)) (by decide +kernel)
theorem tw_1175 : Cond.code ⟨"ControlledStationModel", "moveEvent", "(II)V"⟩ prog_14_method_27_code 4 (Option.none : Option FieldType) ∈ eT := eT_of (List.mem_of_getElem? (i := 1175) (by decide +kernel)) (by decide +kernel)
theorem tw_1176 : Cond.methodLink "ControlledStationModel" 179 ⟨"ControlledStationModel", "byteOut", "(I)V"⟩ ∈ eT := eT_of (List.mem_of_getElem? (i := 1176) (by decide +kernel)) (by decide +kernel)
theorem tw_1178 : Cond.instanceMethod ⟨"ControlledStationModel", "byteOut", "(I)V"⟩ ∈ eT := eT_of (List.mem_of_getElem? (i := 1178) (by decide +kernel)) (by decide +kernel)
theorem tw_1179 : Cond.code ⟨"ControlledStationModel", "byteOut", "(I)V"⟩ prog_14_method_12_code 2 (Option.none : Option FieldType) ∈ eT := eT_of (List.mem_of_getElem? (i := 1179) (by decide +kernel)) (by decide +kernel)
theorem tw_1180 : Cond.methodLink "ControlledStationModel" 229 ⟨"ControlledStationModel", "firstAnswerGoes", "()V"⟩ ∈ eT := eT_of (List.mem_of_getElem? (i := 1180) (by decide +kernel)) (by decide +kernel)
theorem tw_1182 : Cond.instanceMethod ⟨"ControlledStationModel", "firstAnswerGoes", "()V"⟩ ∈ eT := eT_of (List.mem_of_getElem? (i := 1182) (by decide +kernel)) (by decide +kernel)
theorem tw_1183 : Cond.code ⟨"ControlledStationModel", "firstAnswerGoes", "()V"⟩ prog_14_method_25_code 3 (Option.none : Option FieldType) ∈ eT := eT_of (List.mem_of_getElem? (i := 1183) (by decide +kernel)) (by decide +kernel)
theorem tw_1184 : Cond.methodLink "ControlledStationModel" 232 ⟨"ControlledStationModel", "sendsEvent", "()Z"⟩ ∈ eT := eT_of (List.mem_of_getElem? (i := 1184) (by decide +kernel)) (by decide +kernel)
theorem tw_1186 : Cond.instanceMethod ⟨"ControlledStationModel", "sendsEvent", "()Z"⟩ ∈ eT := eT_of (List.mem_of_getElem? (i := 1186) (by decide +kernel)) (by decide +kernel)
theorem tw_1187 : Cond.code ⟨"ControlledStationModel", "sendsEvent", "()Z"⟩ prog_14_method_26_code 4 (Option.some FieldType.boolean) ∈ eT := eT_of (List.mem_of_getElem? (i := 1187) (by decide +kernel)) (by decide +kernel)
theorem tw_1188 : Cond.methodLink "ControlledStationModel" 235 ⟨"ControlledStationModel", "timedTypeOf", "(I)I"⟩ ∈ eT := eT_of (List.mem_of_getElem? (i := 1188) (by decide +kernel)) (by decide +kernel)
theorem tw_1189 : Cond.static ⟨"ControlledStationModel", "timedTypeOf", "(I)I"⟩ ∈ eT := eT_of (List.mem_of_getElem? (i := 1189) (by decide +kernel)) (by decide +kernel)
theorem tw_1190 : Cond.code ⟨"ControlledStationModel", "timedTypeOf", "(I)I"⟩ prog_14_method_21_code 1 (Option.some FieldType.int) ∈ eT := eT_of (List.mem_of_getElem? (i := 1190) (by decide +kernel)) (by decide +kernel)
theorem tw_1191 : Cond.methodLink "ControlledStationModel" 238 ⟨"ControlledStationModel", "typeOf", "(I)I"⟩ ∈ eT := eT_of (List.mem_of_getElem? (i := 1191) (by decide +kernel)) (by decide +kernel)
theorem tw_1192 : Cond.static ⟨"ControlledStationModel", "typeOf", "(I)I"⟩ ∈ eT := eT_of (List.mem_of_getElem? (i := 1192) (by decide +kernel)) (by decide +kernel)
theorem tw_1193 : Cond.code ⟨"ControlledStationModel", "typeOf", "(I)I"⟩ prog_14_method_20_code 1 (Option.some FieldType.int) ∈ eT := eT_of (List.mem_of_getElem? (i := 1193) (by decide +kernel)) (by decide +kernel)
theorem tw_1194 : Cond.methodLink "ControlledStationModel" 241 ⟨"ControlledStationModel", "head", "(IIII)V"⟩ ∈ eT := eT_of (List.mem_of_getElem? (i := 1194) (by decide +kernel)) (by decide +kernel)
theorem tw_1196 : Cond.instanceMethod ⟨"ControlledStationModel", "head", "(IIII)V"⟩ ∈ eT := eT_of (List.mem_of_getElem? (i := 1196) (by decide +kernel)) (by decide +kernel)
theorem tw_1197 : Cond.code ⟨"ControlledStationModel", "head", "(IIII)V"⟩ prog_14_method_22_code 5 (Option.none : Option FieldType) ∈ eT := eT_of (List.mem_of_getElem? (i := 1197) (by decide +kernel)) (by decide +kernel)
theorem tw_1198 : Cond.methodLink "ControlledStationModel" 212 ⟨"ControlledStationModel", "put", "(I)V"⟩ ∈ eT := eT_of (List.mem_of_getElem? (i := 1198) (by decide +kernel)) (by decide +kernel)
theorem tw_1200 : Cond.instanceMethod ⟨"ControlledStationModel", "put", "(I)V"⟩ ∈ eT := eT_of (List.mem_of_getElem? (i := 1200) (by decide +kernel)) (by decide +kernel)
theorem tw_1201 : Cond.code ⟨"ControlledStationModel", "put", "(I)V"⟩ prog_14_method_18_code 2 (Option.none : Option FieldType) ∈ eT := eT_of (List.mem_of_getElem? (i := 1201) (by decide +kernel)) (by decide +kernel)
theorem tw_1202 : Cond.methodLink "ControlledStationModel" 215 ⟨"ControlledStationModel", "putNumber", "(II)V"⟩ ∈ eT := eT_of (List.mem_of_getElem? (i := 1202) (by decide +kernel)) (by decide +kernel)
theorem tw_1204 : Cond.instanceMethod ⟨"ControlledStationModel", "putNumber", "(II)V"⟩ ∈ eT := eT_of (List.mem_of_getElem? (i := 1204) (by decide +kernel)) (by decide +kernel)
theorem tw_1205 : Cond.code ⟨"ControlledStationModel", "putNumber", "(II)V"⟩ prog_14_method_19_code 4 (Option.none : Option FieldType) ∈ eT := eT_of (List.mem_of_getElem? (i := 1205) (by decide +kernel)) (by decide +kernel)
theorem tw_1206 : Cond.methodLink "ControlledStationModel" 245 ⟨"ControlledStationModel", "object", "(III)V"⟩ ∈ eT := eT_of (List.mem_of_getElem? (i := 1206) (by decide +kernel)) (by decide +kernel)
theorem tw_1208 : Cond.instanceMethod ⟨"ControlledStationModel", "object", "(III)V"⟩ ∈ eT := eT_of (List.mem_of_getElem? (i := 1208) (by decide +kernel)) (by decide +kernel)
theorem tw_1209 : Cond.code ⟨"ControlledStationModel", "object", "(III)V"⟩ prog_14_method_23_code 6 (Option.none : Option FieldType) ∈ eT := eT_of (List.mem_of_getElem? (i := 1209) (by decide +kernel)) (by decide +kernel)
theorem tw_1213 : Cond.code ⟨"ControlledStationModel", "open", "()I"⟩ prog_14_method_29_code 1 (Option.some FieldType.int) ∈ eT := eT_of (List.mem_of_getElem? (i := 1213) (by decide +kernel)) (by decide +kernel)
theorem tw_1217 : Cond.code ⟨"ControlledStationModel", "close", "()I"⟩ prog_14_method_30_code 1 (Option.some FieldType.int) ∈ eT := eT_of (List.mem_of_getElem? (i := 1217) (by decide +kernel)) (by decide +kernel)
theorem tw_1221 : Cond.code ⟨"ControlledStationModel", "come", "(IJ)I"⟩ prog_14_method_31_code 6 (Option.some FieldType.int) ∈ eT := eT_of (List.mem_of_getElem? (i := 1221) (by decide +kernel)) (by decide +kernel)
theorem tw_1222 : Cond.constantLong "ControlledStationModel" 264 (8 : Int64) ∈ eT := eT_of (List.mem_of_getElem? (i := 1222) (by decide +kernel)) (by decide +kernel)
theorem tw_1223 : Cond.constantLong "ControlledStationModel" 266 (255 : Int64) ∈ eT := eT_of (List.mem_of_getElem? (i := 1223) (by decide +kernel)) (by decide +kernel)
theorem tw_1224 : Cond.methodLink "ControlledStationModel" 268 ⟨"ControlledStationModel", "canBe", "()Z"⟩ ∈ eT := eT_of (List.mem_of_getElem? (i := 1224) (by decide +kernel)) (by decide +kernel)
theorem tw_1226 : Cond.instanceMethod ⟨"ControlledStationModel", "canBe", "()Z"⟩ ∈ eT := eT_of (List.mem_of_getElem? (i := 1226) (by decide +kernel)) (by decide +kernel)
theorem tw_1227 : Cond.code ⟨"ControlledStationModel", "canBe", "()Z"⟩ prog_14_method_32_code 4 (Option.some FieldType.boolean) ∈ eT := eT_of (List.mem_of_getElem? (i := 1227) (by decide +kernel)) (by decide +kernel)
theorem tw_1228 : Cond.constantLong "ControlledStationModel" 274 (4 : Int64) ∈ eT := eT_of (List.mem_of_getElem? (i := 1228) (by decide +kernel)) (by decide +kernel)
theorem tw_1229 : Cond.constantLong "ControlledStationModel" 276 (253 : Int64) ∈ eT := eT_of (List.mem_of_getElem? (i := 1229) (by decide +kernel)) (by decide +kernel)
theorem tw_1230 : Cond.methodLink "ControlledStationModel" 271 ⟨"ControlledStationModel", "takes", "()V"⟩ ∈ eT := eT_of (List.mem_of_getElem? (i := 1230) (by decide +kernel)) (by decide +kernel)
theorem tw_1232 : Cond.instanceMethod ⟨"ControlledStationModel", "takes", "()V"⟩ ∈ eT := eT_of (List.mem_of_getElem? (i := 1232) (by decide +kernel)) (by decide +kernel)
theorem tw_1233 : Cond.code ⟨"ControlledStationModel", "takes", "()V"⟩ prog_14_method_34_code 3 (Option.none : Option FieldType) ∈ eT := eT_of (List.mem_of_getElem? (i := 1233) (by decide +kernel)) (by decide +kernel)
theorem tw_1234 : Cond.methodLink "ControlledStationModel" 278 ⟨"ControlledStationModel", "takesData", "()V"⟩ ∈ eT := eT_of (List.mem_of_getElem? (i := 1234) (by decide +kernel)) (by decide +kernel)
theorem tw_1236 : Cond.instanceMethod ⟨"ControlledStationModel", "takesData", "()V"⟩ ∈ eT := eT_of (List.mem_of_getElem? (i := 1236) (by decide +kernel)) (by decide +kernel)
theorem tw_1237 : Cond.code ⟨"ControlledStationModel", "takesData", "()V"⟩ prog_14_method_35_code 2 (Option.none : Option FieldType) ∈ eT := eT_of (List.mem_of_getElem? (i := 1237) (by decide +kernel)) (by decide +kernel)
theorem tw_1238 : Cond.methodLink "ControlledStationModel" 281 ⟨"ControlledStationModel", "acknowledges", "()Z"⟩ ∈ eT := eT_of (List.mem_of_getElem? (i := 1238) (by decide +kernel)) (by decide +kernel)
theorem tw_1240 : Cond.instanceMethod ⟨"ControlledStationModel", "acknowledges", "()Z"⟩ ∈ eT := eT_of (List.mem_of_getElem? (i := 1240) (by decide +kernel)) (by decide +kernel)
theorem tw_1241 : Cond.code ⟨"ControlledStationModel", "acknowledges", "()Z"⟩ prog_14_method_33_code 6 (Option.some FieldType.boolean) ∈ eT := eT_of (List.mem_of_getElem? (i := 1241) (by decide +kernel)) (by decide +kernel)
theorem tw_1242 : Cond.methodLink "ControlledStationModel" 293 ⟨"ControlledStationModel", "rest", "()V"⟩ ∈ eT := eT_of (List.mem_of_getElem? (i := 1242) (by decide +kernel)) (by decide +kernel)
theorem tw_1244 : Cond.instanceMethod ⟨"ControlledStationModel", "rest", "()V"⟩ ∈ eT := eT_of (List.mem_of_getElem? (i := 1244) (by decide +kernel)) (by decide +kernel)
theorem tw_1245 : Cond.code ⟨"ControlledStationModel", "rest", "()V"⟩ prog_14_method_42_code 7 (Option.none : Option FieldType) ∈ eT := eT_of (List.mem_of_getElem? (i := 1245) (by decide +kernel)) (by decide +kernel)
theorem tw_1246 : Cond.methodLink "ControlledStationModel" 296 ⟨"ControlledStationModel", "at", "(I)I"⟩ ∈ eT := eT_of (List.mem_of_getElem? (i := 1246) (by decide +kernel)) (by decide +kernel)
theorem tw_1248 : Cond.instanceMethod ⟨"ControlledStationModel", "at", "(I)I"⟩ ∈ eT := eT_of (List.mem_of_getElem? (i := 1248) (by decide +kernel)) (by decide +kernel)
theorem tw_1249 : Cond.code ⟨"ControlledStationModel", "at", "(I)I"⟩ prog_14_method_37_code 2 (Option.some FieldType.int) ∈ eT := eT_of (List.mem_of_getElem? (i := 1249) (by decide +kernel)) (by decide +kernel)
theorem tw_1250 : Cond.constant "ControlledStationModel" 305 (65536 : Int32) ∈ eT := eT_of (List.mem_of_getElem? (i := 1250) (by decide +kernel)) (by decide +kernel)
theorem tw_1251 : Cond.methodLink "ControlledStationModel" 306 ⟨"ControlledStationModel", "isOrder", "(I)Z"⟩ ∈ eT := eT_of (List.mem_of_getElem? (i := 1251) (by decide +kernel)) (by decide +kernel)
theorem tw_1252 : Cond.static ⟨"ControlledStationModel", "isOrder", "(I)Z"⟩ ∈ eT := eT_of (List.mem_of_getElem? (i := 1252) (by decide +kernel)) (by decide +kernel)
theorem tw_1253 : Cond.code ⟨"ControlledStationModel", "isOrder", "(I)Z"⟩ prog_14_method_41_code 1 (Option.some FieldType.boolean) ∈ eT := eT_of (List.mem_of_getElem? (i := 1253) (by decide +kernel)) (by decide +kernel)
theorem tw_1254 : Cond.constantLong "ControlledStationModel" 309 (100 : Int64) ∈ eT := eT_of (List.mem_of_getElem? (i := 1254) (by decide +kernel)) (by decide +kernel)
theorem tw_1255 : Cond.constantLong "ControlledStationModel" 311 (104 : Int64) ∈ eT := eT_of (List.mem_of_getElem? (i := 1255) (by decide +kernel)) (by decide +kernel)
theorem tw_1256 : Cond.methodLink "ControlledStationModel" 313 ⟨"ControlledStationModel", "same", "(IZ)V"⟩ ∈ eT := eT_of (List.mem_of_getElem? (i := 1256) (by decide +kernel)) (by decide +kernel)
theorem tw_1258 : Cond.instanceMethod ⟨"ControlledStationModel", "same", "(IZ)V"⟩ ∈ eT := eT_of (List.mem_of_getElem? (i := 1258) (by decide +kernel)) (by decide +kernel)
theorem tw_1259 : Cond.code ⟨"ControlledStationModel", "same", "(IZ)V"⟩ prog_14_method_39_code 4 (Option.none : Option FieldType) ∈ eT := eT_of (List.mem_of_getElem? (i := 1259) (by decide +kernel)) (by decide +kernel)
theorem tw_1260 : Cond.methodLink "ControlledStationModel" 299 ⟨"ControlledStationModel", "waits", "()Z"⟩ ∈ eT := eT_of (List.mem_of_getElem? (i := 1260) (by decide +kernel)) (by decide +kernel)
theorem tw_1262 : Cond.instanceMethod ⟨"ControlledStationModel", "waits", "()Z"⟩ ∈ eT := eT_of (List.mem_of_getElem? (i := 1262) (by decide +kernel)) (by decide +kernel)
theorem tw_1263 : Cond.code ⟨"ControlledStationModel", "waits", "()Z"⟩ prog_14_method_38_code 2 (Option.some FieldType.boolean) ∈ eT := eT_of (List.mem_of_getElem? (i := 1263) (by decide +kernel)) (by decide +kernel)
theorem tw_1264 : Cond.constant "ControlledStationModel" 317 (65535 : Int32) ∈ eT := eT_of (List.mem_of_getElem? (i := 1264) (by decide +kernel)) (by decide +kernel)
theorem tw_1265 : Cond.methodLink "ControlledStationModel" 318 ⟨"ControlledStationModel", "lengthOf", "(I)I"⟩ ∈ eT := eT_of (List.mem_of_getElem? (i := 1265) (by decide +kernel)) (by decide +kernel)
theorem tw_1266 : Cond.static ⟨"ControlledStationModel", "lengthOf", "(I)I"⟩ ∈ eT := eT_of (List.mem_of_getElem? (i := 1266) (by decide +kernel)) (by decide +kernel)
theorem tw_1267 : Cond.code ⟨"ControlledStationModel", "lengthOf", "(I)I"⟩ prog_14_method_40_code 1 (Option.some FieldType.int) ∈ eT := eT_of (List.mem_of_getElem? (i := 1267) (by decide +kernel)) (by decide +kernel)
theorem tw_1268 : Cond.methodLink "ControlledStationModel" 321 ⟨"ControlledStationModel", "commanded", "(III)V"⟩ ∈ eT := eT_of (List.mem_of_getElem? (i := 1268) (by decide +kernel)) (by decide +kernel)
theorem tw_1270 : Cond.instanceMethod ⟨"ControlledStationModel", "commanded", "(III)V"⟩ ∈ eT := eT_of (List.mem_of_getElem? (i := 1270) (by decide +kernel)) (by decide +kernel)
theorem tw_1271 : Cond.code ⟨"ControlledStationModel", "commanded", "(III)V"⟩ prog_14_method_44_code 9 (Option.none : Option FieldType) ∈ eT := eT_of (List.mem_of_getElem? (i := 1271) (by decide +kernel)) (by decide +kernel)
theorem tw_1272 : Cond.methodLink "ControlledStationModel" 330 ⟨"ControlledStationModel", "isTest", "()Z"⟩ ∈ eT := eT_of (List.mem_of_getElem? (i := 1272) (by decide +kernel)) (by decide +kernel)
theorem tw_1274 : Cond.instanceMethod ⟨"ControlledStationModel", "isTest", "()Z"⟩ ∈ eT := eT_of (List.mem_of_getElem? (i := 1274) (by decide +kernel)) (by decide +kernel)
theorem tw_1275 : Cond.code ⟨"ControlledStationModel", "isTest", "()Z"⟩ prog_14_method_43_code 1 (Option.some FieldType.boolean) ∈ eT := eT_of (List.mem_of_getElem? (i := 1275) (by decide +kernel)) (by decide +kernel)
theorem tw_1276 : Cond.methodLink "ControlledStationModel" 339 ⟨"ControlledStationModel", "keepBytes", "(I)V"⟩ ∈ eT := eT_of (List.mem_of_getElem? (i := 1276) (by decide +kernel)) (by decide +kernel)
theorem tw_1278 : Cond.instanceMethod ⟨"ControlledStationModel", "keepBytes", "(I)V"⟩ ∈ eT := eT_of (List.mem_of_getElem? (i := 1278) (by decide +kernel)) (by decide +kernel)
theorem tw_1279 : Cond.code ⟨"ControlledStationModel", "keepBytes", "(I)V"⟩ prog_14_method_45_code 3 (Option.none : Option FieldType) ∈ eT := eT_of (List.mem_of_getElem? (i := 1279) (by decide +kernel)) (by decide +kernel)
theorem tw_1280 : Cond.methodLink "ControlledStationModel" 342 ⟨"ControlledStationModel", "areBytes", "(I)Z"⟩ ∈ eT := eT_of (List.mem_of_getElem? (i := 1280) (by decide +kernel)) (by decide +kernel)
theorem tw_1282 : Cond.instanceMethod ⟨"ControlledStationModel", "areBytes", "(I)Z"⟩ ∈ eT := eT_of (List.mem_of_getElem? (i := 1282) (by decide +kernel)) (by decide +kernel)
theorem tw_1283 : Cond.code ⟨"ControlledStationModel", "areBytes", "(I)Z"⟩ prog_14_method_46_code 4 (Option.some FieldType.boolean) ∈ eT := eT_of (List.mem_of_getElem? (i := 1283) (by decide +kernel)) (by decide +kernel)
theorem tw_1284 : Cond.methodLink "ControlledStationModel" 345 ⟨"ControlledStationModel", "carriesOut", "(III)V"⟩ ∈ eT := eT_of (List.mem_of_getElem? (i := 1284) (by decide +kernel)) (by decide +kernel)
theorem tw_1286 : Cond.instanceMethod ⟨"ControlledStationModel", "carriesOut", "(III)V"⟩ ∈ eT := eT_of (List.mem_of_getElem? (i := 1286) (by decide +kernel)) (by decide +kernel)
theorem tw_1287 : Cond.code ⟨"ControlledStationModel", "carriesOut", "(III)V"⟩ prog_14_method_47_code 6 (Option.none : Option FieldType) ∈ eT := eT_of (List.mem_of_getElem? (i := 1287) (by decide +kernel)) (by decide +kernel)
theorem tw_1288 : Cond.methodLink "ControlledStationModel" 324 ⟨"ControlledStationModel", "reads", "(I)V"⟩ ∈ eT := eT_of (List.mem_of_getElem? (i := 1288) (by decide +kernel)) (by decide +kernel)
theorem tw_1290 : Cond.instanceMethod ⟨"ControlledStationModel", "reads", "(I)V"⟩ ∈ eT := eT_of (List.mem_of_getElem? (i := 1290) (by decide +kernel)) (by decide +kernel)
theorem tw_1291 : Cond.code ⟨"ControlledStationModel", "reads", "(I)V"⟩ prog_14_method_48_code 4 (Option.none : Option FieldType) ∈ eT := eT_of (List.mem_of_getElem? (i := 1291) (by decide +kernel)) (by decide +kernel)
theorem tw_1292 : Cond.methodLink "ControlledStationModel" 327 ⟨"ControlledStationModel", "asked", "(II)V"⟩ ∈ eT := eT_of (List.mem_of_getElem? (i := 1292) (by decide +kernel)) (by decide +kernel)
theorem tw_1294 : Cond.instanceMethod ⟨"ControlledStationModel", "asked", "(II)V"⟩ ∈ eT := eT_of (List.mem_of_getElem? (i := 1294) (by decide +kernel)) (by decide +kernel)
theorem tw_1295 : Cond.code ⟨"ControlledStationModel", "asked", "(II)V"⟩ prog_14_method_51_code 6 (Option.none : Option FieldType) ∈ eT := eT_of (List.mem_of_getElem? (i := 1295) (by decide +kernel)) (by decide +kernel)
theorem tw_1296 : Cond.constantLong "ControlledStationModel" 348 (20 : Int64) ∈ eT := eT_of (List.mem_of_getElem? (i := 1296) (by decide +kernel)) (by decide +kernel)
theorem tw_1297 : Cond.constantLong "ControlledStationModel" 350 (36 : Int64) ∈ eT := eT_of (List.mem_of_getElem? (i := 1297) (by decide +kernel)) (by decide +kernel)
theorem tw_1298 : Cond.methodLink "ControlledStationModel" 352 ⟨"ControlledStationModel", "objects", "(IZI)V"⟩ ∈ eT := eT_of (List.mem_of_getElem? (i := 1298) (by decide +kernel)) (by decide +kernel)
theorem tw_1300 : Cond.instanceMethod ⟨"ControlledStationModel", "objects", "(IZI)V"⟩ ∈ eT := eT_of (List.mem_of_getElem? (i := 1300) (by decide +kernel)) (by decide +kernel)
theorem tw_1301 : Cond.code ⟨"ControlledStationModel", "objects", "(IZI)V"⟩ prog_14_method_49_code 8 (Option.none : Option FieldType) ∈ eT := eT_of (List.mem_of_getElem? (i := 1301) (by decide +kernel)) (by decide +kernel)
theorem tw_1302 : Cond.methodLink "ControlledStationModel" 356 ⟨"ControlledStationModel", "freezes", "(I)V"⟩ ∈ eT := eT_of (List.mem_of_getElem? (i := 1302) (by decide +kernel)) (by decide +kernel)
theorem tw_1304 : Cond.instanceMethod ⟨"ControlledStationModel", "freezes", "(I)V"⟩ ∈ eT := eT_of (List.mem_of_getElem? (i := 1304) (by decide +kernel)) (by decide +kernel)
theorem tw_1305 : Cond.code ⟨"ControlledStationModel", "freezes", "(I)V"⟩ prog_14_method_50_code 3 (Option.none : Option FieldType) ∈ eT := eT_of (List.mem_of_getElem? (i := 1305) (by decide +kernel)) (by decide +kernel)
theorem tw_1306 : Cond.methodLink "ControlledStationModel" 358 ⟨"ControlledStationModel", "isTime", "()Z"⟩ ∈ eT := eT_of (List.mem_of_getElem? (i := 1306) (by decide +kernel)) (by decide +kernel)
theorem tw_1308 : Cond.instanceMethod ⟨"ControlledStationModel", "isTime", "()Z"⟩ ∈ eT := eT_of (List.mem_of_getElem? (i := 1308) (by decide +kernel)) (by decide +kernel)
theorem tw_1309 : Cond.code ⟨"ControlledStationModel", "isTime", "()Z"⟩ prog_14_method_53_code 3 (Option.some FieldType.boolean) ∈ eT := eT_of (List.mem_of_getElem? (i := 1309) (by decide +kernel)) (by decide +kernel)
theorem tw_1310 : Cond.constant "ControlledStationModel" 361 (60000 : Int32) ∈ eT := eT_of (List.mem_of_getElem? (i := 1310) (by decide +kernel)) (by decide +kernel)
theorem tw_1311 : Cond.methodLink "ControlledStationModel" 362 ⟨"ControlledStationModel", "daysOf", "(II)I"⟩ ∈ eT := eT_of (List.mem_of_getElem? (i := 1311) (by decide +kernel)) (by decide +kernel)
theorem tw_1312 : Cond.static ⟨"ControlledStationModel", "daysOf", "(II)I"⟩ ∈ eT := eT_of (List.mem_of_getElem? (i := 1312) (by decide +kernel)) (by decide +kernel)
theorem tw_1313 : Cond.code ⟨"ControlledStationModel", "daysOf", "(II)I"⟩ prog_14_method_52_code 2 (Option.some FieldType.int) ∈ eT := eT_of (List.mem_of_getElem? (i := 1313) (by decide +kernel)) (by decide +kernel)
theorem tw_1314 : Cond.methodLink "ControlledStationModel" 284 ⟨"ControlledStationModel", "takesOrder", "(I)V"⟩ ∈ eT := eT_of (List.mem_of_getElem? (i := 1314) (by decide +kernel)) (by decide +kernel)
theorem tw_1316 : Cond.instanceMethod ⟨"ControlledStationModel", "takesOrder", "(I)V"⟩ ∈ eT := eT_of (List.mem_of_getElem? (i := 1316) (by decide +kernel)) (by decide +kernel)
theorem tw_1317 : Cond.code ⟨"ControlledStationModel", "takesOrder", "(I)V"⟩ prog_14_method_36_code 3 (Option.none : Option FieldType) ∈ eT := eT_of (List.mem_of_getElem? (i := 1317) (by decide +kernel)) (by decide +kernel)
theorem tw_1318 : Cond.methodLink "ControlledStationModel" 287 ⟨"ControlledStationModel", "tells", "()V"⟩ ∈ eT := eT_of (List.mem_of_getElem? (i := 1318) (by decide +kernel)) (by decide +kernel)
theorem tw_1320 : Cond.instanceMethod ⟨"ControlledStationModel", "tells", "()V"⟩ ∈ eT := eT_of (List.mem_of_getElem? (i := 1320) (by decide +kernel)) (by decide +kernel)
theorem tw_1321 : Cond.code ⟨"ControlledStationModel", "tells", "()V"⟩ prog_14_method_16_code 1 (Option.none : Option FieldType) ∈ eT := eT_of (List.mem_of_getElem? (i := 1321) (by decide +kernel)) (by decide +kernel)
theorem tw_1325 : Cond.code ⟨"ControlledStationModel", "tick", "(I)I"⟩ prog_14_method_56_code 3 (Option.some FieldType.int) ∈ eT := eT_of (List.mem_of_getElem? (i := 1325) (by decide +kernel)) (by decide +kernel)
theorem tw_1326 : Cond.methodLink "ControlledStationModel" 372 ⟨"ControlledStationModel", "tickGoes", "()V"⟩ ∈ eT := eT_of (List.mem_of_getElem? (i := 1326) (by decide +kernel)) (by decide +kernel)
theorem tw_1328 : Cond.instanceMethod ⟨"ControlledStationModel", "tickGoes", "()V"⟩ ∈ eT := eT_of (List.mem_of_getElem? (i := 1328) (by decide +kernel)) (by decide +kernel)
theorem tw_1329 : Cond.code ⟨"ControlledStationModel", "tickGoes", "()V"⟩ prog_14_method_55_code 1 (Option.none : Option FieldType) ∈ eT := eT_of (List.mem_of_getElem? (i := 1329) (by decide +kernel)) (by decide +kernel)
theorem tw_1330 : Cond.methodLink "ControlledStationModel" 366 ⟨"ControlledStationModel", "clockGoes", "()V"⟩ ∈ eT := eT_of (List.mem_of_getElem? (i := 1330) (by decide +kernel)) (by decide +kernel)
theorem tw_1332 : Cond.instanceMethod ⟨"ControlledStationModel", "clockGoes", "()V"⟩ ∈ eT := eT_of (List.mem_of_getElem? (i := 1332) (by decide +kernel)) (by decide +kernel)
theorem tw_1333 : Cond.code ⟨"ControlledStationModel", "clockGoes", "()V"⟩ prog_14_method_54_code 1 (Option.none : Option FieldType) ∈ eT := eT_of (List.mem_of_getElem? (i := 1333) (by decide +kernel)) (by decide +kernel)
theorem tw_1337 : Cond.code ⟨"ControlledStationModel", "out", "(I)I"⟩ prog_14_method_57_code 2 (Option.some FieldType.int) ∈ eT := eT_of (List.mem_of_getElem? (i := 1337) (by decide +kernel)) (by decide +kernel)
theorem tw_1341 : Cond.code ⟨"ControlledStationModel", "take", "(I)I"⟩ prog_14_method_58_code 3 (Option.some FieldType.int) ∈ eT := eT_of (List.mem_of_getElem? (i := 1341) (by decide +kernel)) (by decide +kernel)
theorem tw_1345 : Cond.code ⟨"ControlledStationModel", "told", "(II)I"⟩ prog_14_method_59_code 3 (Option.some FieldType.int) ∈ eT := eT_of (List.mem_of_getElem? (i := 1345) (by decide +kernel)) (by decide +kernel)
theorem tw_1349 : Cond.code ⟨"ControlledStationModel", "ordered", "(II)I"⟩ prog_14_method_60_code 4 (Option.some FieldType.int) ∈ eT := eT_of (List.mem_of_getElem? (i := 1349) (by decide +kernel)) (by decide +kernel)
theorem tw_1353 : Cond.code ⟨"ControlledStationModel", "clock", "(I)I"⟩ prog_14_method_61_code 2 (Option.some FieldType.int) ∈ eT := eT_of (List.mem_of_getElem? (i := 1353) (by decide +kernel)) (by decide +kernel)
theorem tw_1354 : Cond.constantLong "ControlledStationModel" 375 (5 : Int64) ∈ eT := eT_of (List.mem_of_getElem? (i := 1354) (by decide +kernel)) (by decide +kernel)
theorem tw_1358 : Cond.code ⟨"ControlledStationModel", "count", "(I)I"⟩ prog_14_method_62_code 2 (Option.some FieldType.int) ∈ eT := eT_of (List.mem_of_getElem? (i := 1358) (by decide +kernel)) (by decide +kernel)
theorem iX_0 : ∀ w ∈ u_ws RX0 TX0 5, w ∈ lw_tbl := by decide +kernel
theorem gX_0 : ∀ w ∈ u_ws RX0 TX0 5, goodWord w = true := by decide +kernel
theorem eX_0 : eX 0 rX0 := ⟨rfl, fun w hw => eT_of (iX_0 w hw) (gX_0 w hw), tyX0_ok, nmX0⟩
theorem eXf_0 : ∀ k, k < 5 → tyC 0 k ≠ .float ∧ tyC 0 k ≠ .double := by decide +kernel
theorem iX_1 : ∀ w ∈ u_ws RX1 TX1 7, w ∈ lw_tbl := by decide +kernel
theorem gX_1 : ∀ w ∈ u_ws RX1 TX1 7, goodWord w = true := by decide +kernel
theorem eX_1 : eX 1 rX1 := ⟨rfl, fun w hw => eT_of (iX_1 w hw) (gX_1 w hw), tyX1_ok, nmX1⟩
theorem eXf_1 : ∀ k, k < 7 → tyC 1 k ≠ .float ∧ tyC 1 k ≠ .double := by decide +kernel
theorem iX_2 : ∀ w ∈ u_ws RX2 TX2 5, w ∈ lw_tbl := by decide +kernel
theorem gX_2 : ∀ w ∈ u_ws RX2 TX2 5, goodWord w = true := by decide +kernel
theorem eX_2 : eX 2 rX2 := ⟨rfl, fun w hw => eT_of (iX_2 w hw) (gX_2 w hw), tyX2_ok, nmX2⟩
theorem eXf_2 : ∀ k, k < 5 → tyC 2 k ≠ .float ∧ tyC 2 k ≠ .double := by decide +kernel
theorem iX_3 : ∀ w ∈ u_ws RX3 TX3 7, w ∈ lw_tbl := by decide +kernel
theorem gX_3 : ∀ w ∈ u_ws RX3 TX3 7, goodWord w = true := by decide +kernel
theorem eX_3 : eX 3 rX3 := ⟨rfl, fun w hw => eT_of (iX_3 w hw) (gX_3 w hw), tyX3_ok, nmX3⟩
theorem eXf_3 : ∀ k, k < 7 → tyC 3 k ≠ .float ∧ tyC 3 k ≠ .double := by decide +kernel
theorem iX_4 : ∀ w ∈ u_ws RX4 TX4 2, w ∈ lw_tbl := by decide +kernel
theorem gX_4 : ∀ w ∈ u_ws RX4 TX4 2, goodWord w = true := by decide +kernel
theorem eX_4 : eX 4 rX4 := ⟨rfl, fun w hw => eT_of (iX_4 w hw) (gX_4 w hw), tyX4_ok, nmX4⟩
theorem eXf_4 : ∀ k, k < 2 → tyC 4 k ≠ .float ∧ tyC 4 k ≠ .double := by decide +kernel
theorem iX_5 : ∀ w ∈ u_ws RX5 TX5 3, w ∈ lw_tbl := by decide +kernel
theorem gX_5 : ∀ w ∈ u_ws RX5 TX5 3, goodWord w = true := by decide +kernel
theorem eX_5 : eX 5 rX5 := ⟨rfl, fun w hw => eT_of (iX_5 w hw) (gX_5 w hw), tyX5_ok, nmX5⟩
theorem eXf_5 : ∀ k, k < 3 → tyC 5 k ≠ .float ∧ tyC 5 k ≠ .double := by decide +kernel
theorem iX_6 : ∀ w ∈ u_ws RX6 TX6 7, w ∈ lw_tbl := by decide +kernel
theorem gX_6 : ∀ w ∈ u_ws RX6 TX6 7, goodWord w = true := by decide +kernel
theorem eX_6 : eX 6 rX6 := ⟨rfl, fun w hw => eT_of (iX_6 w hw) (gX_6 w hw), tyX6_ok, nmX6⟩
theorem eXf_6 : ∀ k, k < 7 → tyC 6 k ≠ .float ∧ tyC 6 k ≠ .double := by decide +kernel
theorem iX_7 : ∀ w ∈ u_ws RX7 TX7 3, w ∈ lw_tbl := by decide +kernel
theorem gX_7 : ∀ w ∈ u_ws RX7 TX7 3, goodWord w = true := by decide +kernel
theorem eX_7 : eX 7 rX7 := ⟨rfl, fun w hw => eT_of (iX_7 w hw) (gX_7 w hw), tyX7_ok, nmX7⟩
theorem eXf_7 : ∀ k, k < 3 → tyC 7 k ≠ .float ∧ tyC 7 k ≠ .double := by decide +kernel
theorem iX_8 : ∀ w ∈ u_ws RX8 TX8 7, w ∈ lw_tbl := by decide +kernel
theorem gX_8 : ∀ w ∈ u_ws RX8 TX8 7, goodWord w = true := by decide +kernel
theorem eX_8 : eX 8 rX8 := ⟨rfl, fun w hw => eT_of (iX_8 w hw) (gX_8 w hw), tyX8_ok, nmX8⟩
theorem eXf_8 : ∀ k, k < 7 → tyC 8 k ≠ .float ∧ tyC 8 k ≠ .double := by decide +kernel
theorem iX_9 : ∀ w ∈ u_ws RX9 TX9 4, w ∈ lw_tbl := by decide +kernel
theorem gX_9 : ∀ w ∈ u_ws RX9 TX9 4, goodWord w = true := by decide +kernel
theorem eX_9 : eX 9 rX9 := ⟨rfl, fun w hw => eT_of (iX_9 w hw) (gX_9 w hw), tyX9_ok, nmX9⟩
theorem eXf_9 : ∀ k, k < 4 → tyC 9 k ≠ .float ∧ tyC 9 k ≠ .double := by decide +kernel
theorem iX_10 : ∀ w ∈ u_ws RX10 TX10 5, w ∈ lw_tbl := by decide +kernel
theorem gX_10 : ∀ w ∈ u_ws RX10 TX10 5, goodWord w = true := by decide +kernel
theorem eX_10 : eX 10 rX10 := ⟨rfl, fun w hw => eT_of (iX_10 w hw) (gX_10 w hw), tyX10_ok, nmX10⟩
theorem eXf_10 : ∀ k, k < 5 → tyC 10 k ≠ .float ∧ tyC 10 k ≠ .double := by decide +kernel
theorem iX_11 : ∀ w ∈ u_ws RX11 TX11 19, w ∈ lw_tbl := by decide +kernel
theorem gX_11 : ∀ w ∈ u_ws RX11 TX11 19, goodWord w = true := by decide +kernel
theorem eX_11 : eX 11 rX11 := ⟨rfl, fun w hw => eT_of (iX_11 w hw) (gX_11 w hw), tyX11_ok, nmX11⟩
theorem eXf_11 : ∀ k, k < 19 → tyC 11 k ≠ .float ∧ tyC 11 k ≠ .double := by decide +kernel
theorem iX_12 : ∀ w ∈ u_ws RX12 TX12 55, w ∈ lw_tbl := by decide +kernel
theorem gX_12 : ∀ w ∈ u_ws RX12 TX12 55, goodWord w = true := by decide +kernel
theorem eX_12 : eX 12 rX12 := ⟨rfl, fun w hw => eT_of (iX_12 w hw) (gX_12 w hw), tyX12_ok, nmX12⟩
theorem eXf_12 : ∀ k, k < 55 → tyC 12 k ≠ .float ∧ tyC 12 k ≠ .double := by decide +kernel
theorem fl_X0_18 : eF RX0 18 0 1 := ⟨rX0, eX_0, by decide, tw_229, rfl⟩
theorem fl_X0_11 : eF RX0 11 0 0 := ⟨rX0, eX_0, by decide, tw_228, rfl⟩
theorem fl_X0_26 : eF RX0 26 0 3 := ⟨rX0, eX_0, by decide, tw_231, rfl⟩
theorem fl_X0_22 : eF RX0 22 0 2 := ⟨rX0, eX_0, by decide, tw_230, rfl⟩
theorem fl_X1_28 : eF RX1 28 1 5 := ⟨rX1, eX_1, by decide, tw_155, rfl⟩
theorem fl_X1_15 : eF RX1 15 1 4 := ⟨rX1, eX_1, by decide, tw_153, rfl⟩
theorem fl_X1_9 : eF RX1 9 1 3 := ⟨rX1, eX_1, by decide, tw_151, rfl⟩
theorem fl_X1_25 : eF RX1 25 1 2 := ⟨rX1, eX_1, by decide, tw_149, rfl⟩
theorem fl_X1_22 : eF RX1 22 1 1 := ⟨rX1, eX_1, by decide, tw_147, rfl⟩
theorem fl_X1_18 : eF RX1 18 1 0 := ⟨rX1, eX_1, by decide, tw_145, rfl⟩
theorem fl_X1_35 : eF RX1 35 1 6 := ⟨rX1, eX_1, by decide, tw_157, rfl⟩
theorem fl_X2_7 : eF RX2 7 2 0 := ⟨rX2, eX_2, by decide, tw_464, rfl⟩
theorem fl_X3_35 : eF RX3 35 3 6 := ⟨rX3, eX_3, by decide, tw_203, rfl⟩
theorem fl_X3_31 : eF RX3 31 3 5 := ⟨rX3, eX_3, by decide, tw_202, rfl⟩
theorem fl_X3_21 : eF RX3 21 3 2 := ⟨rX3, eX_3, by decide, tw_199, rfl⟩
theorem fl_X3_17 : eF RX3 17 3 1 := ⟨rX3, eX_3, by decide, tw_198, rfl⟩
theorem fl_X3_13 : eF RX3 13 3 0 := ⟨rX3, eX_3, by decide, tw_197, rfl⟩
theorem fl_X3_38 : eF RX3 38 3 4 := ⟨rX3, eX_3, by decide, tw_201, rfl⟩
theorem fl_X4_15 : eF RX4 15 4 1 := ⟨rX4, eX_4, by decide, tw_188, rfl⟩
theorem fl_X4_9 : eF RX4 9 4 0 := ⟨rX4, eX_4, by decide, tw_187, rfl⟩
theorem fl_X6_9 : eF RX6 9 6 0 := ⟨rX6, eX_6, by decide, tw_412, rfl⟩
theorem fl_X3_27 : eF RX3 27 3 3 := ⟨rX3, eX_3, by decide, tw_200, rfl⟩
theorem fl_X3_44 : eF RX3 44 6 3 := ⟨rX6, eX_6, by decide, tw_422, rfl⟩
theorem fl_X3_52 : eF RX3 52 6 0 := ⟨rX6, eX_6, by decide, tw_414, rfl⟩
theorem fl_X5_19 : eF RX5 19 5 2 := ⟨rX5, eX_5, by decide, tw_314, rfl⟩
theorem fl_X5_15 : eF RX5 15 5 1 := ⟨rX5, eX_5, by decide, tw_313, rfl⟩
theorem fl_X5_9 : eF RX5 9 5 0 := ⟨rX5, eX_5, by decide, tw_312, rfl⟩
theorem fl_X6_18 : eF RX6 18 6 2 := ⟨rX6, eX_6, by decide, tw_419, rfl⟩
theorem fl_X6_15 : eF RX6 15 6 1 := ⟨rX6, eX_6, by decide, tw_416, rfl⟩
theorem fl_X6_40 : eF RX6 40 6 5 := ⟨rX6, eX_6, by decide, tw_426, rfl⟩
theorem fl_X7_20 : eF RX7 20 7 2 := ⟨rX7, eX_7, by decide, tw_105, rfl⟩
theorem fl_X7_17 : eF RX7 17 7 1 := ⟨rX7, eX_7, by decide, tw_104, rfl⟩
theorem fl_X7_24 : eF RX7 24 6 1 := ⟨rX6, eX_6, by decide, tw_417, rfl⟩
theorem fl_X7_11 : eF RX7 11 7 0 := ⟨rX7, eX_7, by decide, tw_103, rfl⟩
theorem fl_X7_30 : eF RX7 30 6 4 := ⟨rX6, eX_6, by decide, tw_425, rfl⟩
theorem fl_X7_27 : eF RX7 27 6 0 := ⟨rX6, eX_6, by decide, tw_415, rfl⟩
theorem fl_X8_34 : eF RX8 34 8 1 := ⟨rX8, eX_8, by decide, tw_256, rfl⟩
theorem fl_X8_31 : eF RX8 31 8 6 := ⟨rX8, eX_8, by decide, tw_265, rfl⟩
theorem fl_X8_12 : eF RX8 12 8 0 := ⟨rX8, eX_8, by decide, tw_254, rfl⟩
theorem fl_X8_25 : eF RX8 25 8 5 := ⟨rX8, eX_8, by decide, tw_264, rfl⟩
theorem fl_X8_18 : eF RX8 18 8 2 := ⟨rX8, eX_8, by decide, tw_258, rfl⟩
theorem fl_X8_28 : eF RX8 28 8 3 := ⟨rX8, eX_8, by decide, tw_260, rfl⟩
theorem fl_X9_7 : eF RX9 7 9 0 := ⟨rX9, eX_9, by decide, tw_123, rfl⟩
theorem fl_X9_20 : eF RX9 20 9 3 := ⟨rX9, eX_9, by decide, tw_128, rfl⟩
theorem fl_X10_19 : eF RX10 19 10 4 := ⟨rX10, eX_10, by decide, tw_292, rfl⟩
theorem fl_X10_29 : eF RX10 29 10 3 := ⟨rX10, eX_10, by decide, tw_290, rfl⟩
theorem fl_X10_15 : eF RX10 15 10 1 := ⟨rX10, eX_10, by decide, tw_288, rfl⟩
theorem fl_X10_9 : eF RX10 9 10 0 := ⟨rX10, eX_10, by decide, tw_287, rfl⟩
theorem fl_X10_26 : eF RX10 26 10 2 := ⟨rX10, eX_10, by decide, tw_289, rfl⟩
theorem fl_X11_7 : eF RX11 7 11 0 := ⟨rX11, eX_11, by decide, tw_323, rfl⟩
theorem fl_X11_75 : eF RX11 75 11 11 := ⟨rX11, eX_11, by decide, tw_334, rfl⟩
theorem fl_X11_272 : eF RX11 272 2 1 := ⟨rX2, eX_2, by decide, tw_467, rfl⟩
theorem fl_X11_22 : eF RX11 22 11 2 := ⟨rX11, eX_11, by decide, tw_325, rfl⟩
theorem fl_X11_111 : eF RX11 111 11 3 := ⟨rX11, eX_11, by decide, tw_326, rfl⟩
theorem fl_X11_16 : eF RX11 16 11 1 := ⟨rX11, eX_11, by decide, tw_324, rfl⟩
theorem fl_X11_89 : eF RX11 89 7 2 := ⟨rX7, eX_7, by decide, tw_106, rfl⟩
theorem fl_X11_105 : eF RX11 105 6 0 := ⟨rX6, eX_6, by decide, tw_413, rfl⟩
theorem fl_X11_57 : eF RX11 57 11 8 := ⟨rX11, eX_11, by decide, tw_331, rfl⟩
theorem fl_X11_64 : eF RX11 64 11 9 := ⟨rX11, eX_11, by decide, tw_332, rfl⟩
theorem fl_X11_43 : eF RX11 43 11 6 := ⟨rX11, eX_11, by decide, tw_329, rfl⟩
theorem fl_X11_29 : eF RX11 29 11 4 := ⟨rX11, eX_11, by decide, tw_327, rfl⟩
theorem fl_X11_50 : eF RX11 50 11 7 := ⟨rX11, eX_11, by decide, tw_330, rfl⟩
theorem fl_X11_71 : eF RX11 71 11 10 := ⟨rX11, eX_11, by decide, tw_333, rfl⟩
theorem fl_X11_190 : eF RX11 190 5 2 := ⟨rX5, eX_5, by decide, tw_315, rfl⟩
theorem fl_X11_313 : eF RX11 313 4 1 := ⟨rX4, eX_4, by decide, tw_189, rfl⟩
theorem fl_X11_155 : eF RX11 155 11 13 := ⟨rX11, eX_11, by decide, tw_336, rfl⟩
theorem fl_X11_245 : eF RX11 245 10 4 := ⟨rX10, eX_10, by decide, tw_293, rfl⟩
theorem fl_X11_257 : eF RX11 257 0 3 := ⟨rX0, eX_0, by decide, tw_232, rfl⟩
theorem fl_X11_248 : eF RX11 248 10 3 := ⟨rX10, eX_10, by decide, tw_291, rfl⟩
theorem fl_X11_36 : eF RX11 36 11 5 := ⟨rX11, eX_11, by decide, tw_328, rfl⟩
theorem fl_X11_131 : eF RX11 131 11 18 := ⟨rX11, eX_11, by decide, tw_341, rfl⟩
theorem fl_X11_124 : eF RX11 124 6 5 := ⟨rX6, eX_6, by decide, tw_427, rfl⟩
theorem fl_X11_121 : eF RX11 121 6 4 := ⟨rX6, eX_6, by decide, tw_424, rfl⟩
theorem fl_X11_254 : eF RX11 254 8 3 := ⟨rX8, eX_8, by decide, tw_261, rfl⟩
theorem fl_X11_336 : eF RX11 336 8 1 := ⟨rX8, eX_8, by decide, tw_257, rfl⟩
theorem fl_X11_415 : eF RX11 415 2 0 := ⟨rX2, eX_2, by decide, tw_465, rfl⟩
theorem fl_X11_173 : eF RX11 173 8 0 := ⟨rX8, eX_8, by decide, tw_255, rfl⟩
theorem fl_X11_208 : eF RX11 208 6 6 := ⟨rX6, eX_6, by decide, tw_429, rfl⟩
theorem fl_X11_429 : eF RX11 429 2 3 := ⟨rX2, eX_2, by decide, tw_471, rfl⟩
theorem fl_X11_452 : eF RX11 452 9 2 := ⟨rX9, eX_9, by decide, tw_127, rfl⟩
theorem fl_X11_449 : eF RX11 449 9 1 := ⟨rX9, eX_9, by decide, tw_125, rfl⟩
theorem fl_X11_454 : eF RX11 454 2 2 := ⟨rX2, eX_2, by decide, tw_469, rfl⟩
theorem fl_X11_218 : eF RX11 218 2 4 := ⟨rX2, eX_2, by decide, tw_472, rfl⟩
theorem fl_X11_398 : eF RX11 398 0 4 := ⟨rX0, eX_0, by decide, tw_234, rfl⟩
theorem fl_X11_261 : eF RX11 261 11 17 := ⟨rX11, eX_11, by decide, tw_340, rfl⟩
theorem fl_X11_158 : eF RX11 158 11 14 := ⟨rX11, eX_11, by decide, tw_337, rfl⟩
theorem fl_X11_258 : eF RX11 258 11 16 := ⟨rX11, eX_11, by decide, tw_339, rfl⟩
theorem fl_X11_293 : eF RX11 293 8 4 := ⟨rX8, eX_8, by decide, tw_263, rfl⟩
theorem fl_X11_290 : eF RX11 290 11 15 := ⟨rX11, eX_11, by decide, tw_338, rfl⟩
theorem fl_X11_198 : eF RX11 198 6 1 := ⟨rX6, eX_6, by decide, tw_418, rfl⟩
theorem fl_X11_201 : eF RX11 201 6 2 := ⟨rX6, eX_6, by decide, tw_420, rfl⟩
theorem fl_X11_204 : eF RX11 204 6 3 := ⟨rX6, eX_6, by decide, tw_423, rfl⟩
theorem fl_X11_215 : eF RX11 215 9 3 := ⟨rX9, eX_9, by decide, tw_129, rfl⟩
theorem fl_X11_221 : eF RX11 221 1 0 := ⟨rX1, eX_1, by decide, tw_146, rfl⟩
theorem fl_X11_224 : eF RX11 224 1 1 := ⟨rX1, eX_1, by decide, tw_148, rfl⟩
theorem fl_X11_227 : eF RX11 227 1 2 := ⟨rX1, eX_1, by decide, tw_150, rfl⟩
theorem fl_X11_230 : eF RX11 230 1 3 := ⟨rX1, eX_1, by decide, tw_152, rfl⟩
theorem fl_X11_233 : eF RX11 233 1 4 := ⟨rX1, eX_1, by decide, tw_154, rfl⟩
theorem fl_X11_236 : eF RX11 236 1 5 := ⟨rX1, eX_1, by decide, tw_156, rfl⟩
theorem fl_X11_239 : eF RX11 239 1 6 := ⟨rX1, eX_1, by decide, tw_158, rfl⟩
theorem fl_X11_242 : eF RX11 242 11 12 := ⟨rX11, eX_11, by decide, tw_335, rfl⟩
theorem fl_X11_251 : eF RX11 251 8 2 := ⟨rX8, eX_8, by decide, tw_259, rfl⟩
theorem fl_X12_57 : eF RX12 57 12 21 := ⟨rX12, eX_12, by decide, tw_954, rfl⟩
theorem fl_X12_7 : eF RX12 7 12 0 := ⟨rX12, eX_12, by decide, tw_933, rfl⟩
theorem fl_X12_108 : eF RX12 108 12 1 := ⟨rX12, eX_12, by decide, tw_934, rfl⟩
theorem fl_X12_125 : eF RX12 125 12 35 := ⟨rX12, eX_12, by decide, tw_968, rfl⟩
theorem fl_X12_38 : eF RX12 38 12 11 := ⟨rX12, eX_12, by decide, tw_944, rfl⟩
theorem fl_X12_130 : eF RX12 130 12 9 := ⟨rX12, eX_12, by decide, tw_942, rfl⟩
theorem fl_X12_16 : eF RX12 16 12 3 := ⟨rX12, eX_12, by decide, tw_936, rfl⟩
theorem fl_X12_22 : eF RX12 22 12 5 := ⟨rX12, eX_12, by decide, tw_938, rfl⟩
theorem fl_X12_19 : eF RX12 19 12 4 := ⟨rX12, eX_12, by decide, tw_937, rfl⟩
theorem fl_X12_13 : eF RX12 13 12 2 := ⟨rX12, eX_12, by decide, tw_935, rfl⟩
theorem fl_X12_44 : eF RX12 44 12 13 := ⟨rX12, eX_12, by decide, tw_946, rfl⟩
theorem fl_X12_41 : eF RX12 41 12 12 := ⟨rX12, eX_12, by decide, tw_945, rfl⟩
theorem fl_X12_35 : eF RX12 35 12 10 := ⟨rX12, eX_12, by decide, tw_943, rfl⟩
theorem fl_X12_168 : eF RX12 168 12 22 := ⟨rX12, eX_12, by decide, tw_955, rfl⟩
theorem fl_X12_182 : eF RX12 182 12 38 := ⟨rX12, eX_12, by decide, tw_971, rfl⟩
theorem fl_X12_69 : eF RX12 69 12 27 := ⟨rX12, eX_12, by decide, tw_960, rfl⟩
theorem fl_X12_66 : eF RX12 66 12 26 := ⟨rX12, eX_12, by decide, tw_959, rfl⟩
theorem fl_X12_63 : eF RX12 63 12 25 := ⟨rX12, eX_12, by decide, tw_958, rfl⟩
theorem fl_X12_60 : eF RX12 60 12 24 := ⟨rX12, eX_12, by decide, tw_957, rfl⟩
theorem fl_X12_87 : eF RX12 87 12 34 := ⟨rX12, eX_12, by decide, tw_967, rfl⟩
theorem fl_X12_84 : eF RX12 84 12 33 := ⟨rX12, eX_12, by decide, tw_966, rfl⟩
theorem fl_X12_81 : eF RX12 81 12 32 := ⟨rX12, eX_12, by decide, tw_965, rfl⟩
theorem fl_X12_78 : eF RX12 78 12 31 := ⟨rX12, eX_12, by decide, tw_964, rfl⟩
theorem fl_X12_158 : eF RX12 158 12 23 := ⟨rX12, eX_12, by decide, tw_956, rfl⟩
theorem fl_X12_75 : eF RX12 75 12 30 := ⟨rX12, eX_12, by decide, tw_963, rfl⟩
theorem fl_X12_206 : eF RX12 206 12 28 := ⟨rX12, eX_12, by decide, tw_961, rfl⟩
theorem fl_X12_172 : eF RX12 172 12 49 := ⟨rX12, eX_12, by decide, tw_982, rfl⟩
theorem fl_X12_96 : eF RX12 96 12 48 := ⟨rX12, eX_12, by decide, tw_981, rfl⟩
theorem fl_X12_102 : eF RX12 102 12 52 := ⟨rX12, eX_12, by decide, tw_985, rfl⟩
theorem fl_X12_209 : eF RX12 209 12 20 := ⟨rX12, eX_12, by decide, tw_953, rfl⟩
theorem fl_X12_72 : eF RX12 72 12 29 := ⟨rX12, eX_12, by decide, tw_962, rfl⟩
theorem fl_X12_200 : eF RX12 200 12 37 := ⟨rX12, eX_12, by decide, tw_970, rfl⟩
theorem fl_X12_203 : eF RX12 203 12 53 := ⟨rX12, eX_12, by decide, tw_986, rfl⟩
theorem fl_X12_93 : eF RX12 93 12 47 := ⟨rX12, eX_12, by decide, tw_980, rfl⟩
theorem fl_X12_90 : eF RX12 90 12 46 := ⟨rX12, eX_12, by decide, tw_979, rfl⟩
theorem fl_X12_222 : eF RX12 222 12 45 := ⟨rX12, eX_12, by decide, tw_978, rfl⟩
theorem fl_X12_219 : eF RX12 219 12 19 := ⟨rX12, eX_12, by decide, tw_952, rfl⟩
theorem fl_X12_29 : eF RX12 29 12 7 := ⟨rX12, eX_12, by decide, tw_940, rfl⟩
theorem fl_X12_26 : eF RX12 26 12 6 := ⟨rX12, eX_12, by decide, tw_939, rfl⟩
theorem fl_X12_99 : eF RX12 99 12 50 := ⟨rX12, eX_12, by decide, tw_983, rfl⟩
theorem fl_X12_255 : eF RX12 255 12 51 := ⟨rX12, eX_12, by decide, tw_984, rfl⟩
theorem fl_X12_54 : eF RX12 54 12 18 := ⟨rX12, eX_12, by decide, tw_951, rfl⟩
theorem fl_X12_47 : eF RX12 47 12 14 := ⟨rX12, eX_12, by decide, tw_947, rfl⟩
theorem fl_X12_50 : eF RX12 50 12 15 := ⟨rX12, eX_12, by decide, tw_948, rfl⟩
theorem fl_X12_336 : eF RX12 336 12 17 := ⟨rX12, eX_12, by decide, tw_950, rfl⟩
theorem fl_X12_105 : eF RX12 105 12 54 := ⟨rX12, eX_12, by decide, tw_987, rfl⟩
theorem fl_X12_32 : eF RX12 32 12 8 := ⟨rX12, eX_12, by decide, tw_941, rfl⟩
theorem fl_X12_302 : eF RX12 302 12 44 := ⟨rX12, eX_12, by decide, tw_977, rfl⟩
theorem fl_X12_290 : eF RX12 290 12 40 := ⟨rX12, eX_12, by decide, tw_973, rfl⟩
theorem fl_X12_197 : eF RX12 197 12 39 := ⟨rX12, eX_12, by decide, tw_972, rfl⟩
theorem fl_X12_333 : eF RX12 333 12 16 := ⟨rX12, eX_12, by decide, tw_949, rfl⟩
theorem fl_X12_261 : eF RX12 261 12 41 := ⟨rX12, eX_12, by decide, tw_974, rfl⟩
theorem fl_X12_258 : eF RX12 258 12 42 := ⟨rX12, eX_12, by decide, tw_975, rfl⟩
theorem fl_X12_369 : eF RX12 369 12 43 := ⟨rX12, eX_12, by decide, tw_976, rfl⟩
theorem fl_X12_252 : eF RX12 252 12 36 := ⟨rX12, eX_12, by decide, tw_969, rfl⟩
theorem fp_X4_9i : eFp RX4 true 9 4 0 := ⟨rX4, eX_4, by decide, tw_187, rfl, Or.inr ⟨rfl, rfl, rfl⟩⟩
theorem fp_X0_18i : eFp RX0 true 18 0 1 := ⟨rX0, eX_0, by decide, tw_229, rfl, Or.inr ⟨rfl, rfl, rfl⟩⟩
theorem fp_X0_11i : eFp RX0 true 11 0 0 := ⟨rX0, eX_0, by decide, tw_228, rfl, Or.inr ⟨rfl, rfl, rfl⟩⟩
theorem fp_X0_29 : eFp RX0 false 29 0 4 := ⟨rX0, eX_0, by decide, tw_233, rfl, Or.inl rfl⟩
theorem fp_X0_26 : eFp RX0 false 26 0 3 := ⟨rX0, eX_0, by decide, tw_231, rfl, Or.inl rfl⟩
theorem fp_X0_22 : eFp RX0 false 22 0 2 := ⟨rX0, eX_0, by decide, tw_230, rfl, Or.inl rfl⟩
theorem fp_X4_15 : eFp RX4 false 15 4 1 := ⟨rX4, eX_4, by decide, tw_188, rfl, Or.inl rfl⟩
theorem fp_X1_15i : eFp RX1 true 15 1 4 := ⟨rX1, eX_1, by decide, tw_153, rfl, Or.inl rfl⟩
theorem fp_X1_9i : eFp RX1 true 9 1 3 := ⟨rX1, eX_1, by decide, tw_151, rfl, Or.inl rfl⟩
theorem fp_X1_28 : eFp RX1 false 28 1 5 := ⟨rX1, eX_1, by decide, tw_155, rfl, Or.inl rfl⟩
theorem fp_X1_15 : eFp RX1 false 15 1 4 := ⟨rX1, eX_1, by decide, tw_153, rfl, Or.inl rfl⟩
theorem fp_X1_9 : eFp RX1 false 9 1 3 := ⟨rX1, eX_1, by decide, tw_151, rfl, Or.inl rfl⟩
theorem fp_X1_25 : eFp RX1 false 25 1 2 := ⟨rX1, eX_1, by decide, tw_149, rfl, Or.inl rfl⟩
theorem fp_X1_22 : eFp RX1 false 22 1 1 := ⟨rX1, eX_1, by decide, tw_147, rfl, Or.inl rfl⟩
theorem fp_X1_18 : eFp RX1 false 18 1 0 := ⟨rX1, eX_1, by decide, tw_145, rfl, Or.inl rfl⟩
theorem fp_X1_35 : eFp RX1 false 35 1 6 := ⟨rX1, eX_1, by decide, tw_157, rfl, Or.inl rfl⟩
theorem fp_X2_20i : eFp RX2 true 20 2 3 := ⟨rX2, eX_2, by decide, tw_470, rfl, Or.inr ⟨rfl, rfl, rfl⟩⟩
theorem fp_X2_16i : eFp RX2 true 16 2 2 := ⟨rX2, eX_2, by decide, tw_468, rfl, Or.inr ⟨rfl, rfl, rfl⟩⟩
theorem fp_X2_13i : eFp RX2 true 13 2 1 := ⟨rX2, eX_2, by decide, tw_466, rfl, Or.inr ⟨rfl, rfl, rfl⟩⟩
theorem fp_X2_7i : eFp RX2 true 7 2 0 := ⟨rX2, eX_2, by decide, tw_464, rfl, Or.inr ⟨rfl, rfl, rfl⟩⟩
theorem fp_X3_27i : eFp RX3 true 27 3 3 := ⟨rX3, eX_3, by decide, tw_200, rfl, Or.inr ⟨rfl, rfl, rfl⟩⟩
theorem fp_X3_21i : eFp RX3 true 21 3 2 := ⟨rX3, eX_3, by decide, tw_199, rfl, Or.inr ⟨rfl, rfl, rfl⟩⟩
theorem fp_X3_17i : eFp RX3 true 17 3 1 := ⟨rX3, eX_3, by decide, tw_198, rfl, Or.inr ⟨rfl, rfl, rfl⟩⟩
theorem fp_X3_13i : eFp RX3 true 13 3 0 := ⟨rX3, eX_3, by decide, tw_197, rfl, Or.inr ⟨rfl, rfl, rfl⟩⟩
theorem fp_X3_31 : eFp RX3 false 31 3 5 := ⟨rX3, eX_3, by decide, tw_202, rfl, Or.inl rfl⟩
theorem fp_X3_35 : eFp RX3 false 35 3 6 := ⟨rX3, eX_3, by decide, tw_203, rfl, Or.inl rfl⟩
theorem fp_X3_38 : eFp RX3 false 38 3 4 := ⟨rX3, eX_3, by decide, tw_201, rfl, Or.inl rfl⟩
theorem fp_X5_9i : eFp RX5 true 9 5 0 := ⟨rX5, eX_5, by decide, tw_312, rfl, Or.inr ⟨rfl, rfl, rfl⟩⟩
theorem fp_X5_19 : eFp RX5 false 19 5 2 := ⟨rX5, eX_5, by decide, tw_314, rfl, Or.inl rfl⟩
theorem fp_X5_15 : eFp RX5 false 15 5 1 := ⟨rX5, eX_5, by decide, tw_313, rfl, Or.inl rfl⟩
theorem fp_X6_21i : eFp RX6 true 21 6 3 := ⟨rX6, eX_6, by decide, tw_421, rfl, Or.inr ⟨rfl, rfl, rfl⟩⟩
theorem fp_X6_18i : eFp RX6 true 18 6 2 := ⟨rX6, eX_6, by decide, tw_419, rfl, Or.inr ⟨rfl, rfl, rfl⟩⟩
theorem fp_X6_15i : eFp RX6 true 15 6 1 := ⟨rX6, eX_6, by decide, tw_416, rfl, Or.inr ⟨rfl, rfl, rfl⟩⟩
theorem fp_X6_9i : eFp RX6 true 9 6 0 := ⟨rX6, eX_6, by decide, tw_412, rfl, Or.inr ⟨rfl, rfl, rfl⟩⟩
theorem fp_X7_17i : eFp RX7 true 17 7 1 := ⟨rX7, eX_7, by decide, tw_104, rfl, Or.inr ⟨rfl, rfl, rfl⟩⟩
theorem fp_X7_11i : eFp RX7 true 11 7 0 := ⟨rX7, eX_7, by decide, tw_103, rfl, Or.inr ⟨rfl, rfl, rfl⟩⟩
theorem fp_X7_20 : eFp RX7 false 20 7 2 := ⟨rX7, eX_7, by decide, tw_105, rfl, Or.inl rfl⟩
theorem fp_X7_33 : eFp RX7 false 33 6 6 := ⟨rX6, eX_6, by decide, tw_428, rfl, Or.inl rfl⟩
theorem fp_X7_30 : eFp RX7 false 30 6 4 := ⟨rX6, eX_6, by decide, tw_425, rfl, Or.inl rfl⟩
theorem fp_X8_12i : eFp RX8 true 12 8 0 := ⟨rX8, eX_8, by decide, tw_254, rfl, Or.inr ⟨rfl, rfl, rfl⟩⟩
theorem fp_X8_28 : eFp RX8 false 28 8 3 := ⟨rX8, eX_8, by decide, tw_260, rfl, Or.inl rfl⟩
theorem fp_X8_25 : eFp RX8 false 25 8 5 := ⟨rX8, eX_8, by decide, tw_264, rfl, Or.inl rfl⟩
theorem fp_X8_18 : eFp RX8 false 18 8 2 := ⟨rX8, eX_8, by decide, tw_258, rfl, Or.inl rfl⟩
theorem fp_X8_34 : eFp RX8 false 34 8 1 := ⟨rX8, eX_8, by decide, tw_256, rfl, Or.inl rfl⟩
theorem fp_X8_31 : eFp RX8 false 31 8 6 := ⟨rX8, eX_8, by decide, tw_265, rfl, Or.inl rfl⟩
theorem fp_X8_48 : eFp RX8 false 48 8 4 := ⟨rX8, eX_8, by decide, tw_262, rfl, Or.inl rfl⟩
theorem fp_X9_20 : eFp RX9 false 20 9 3 := ⟨rX9, eX_9, by decide, tw_128, rfl, Or.inl rfl⟩
theorem fp_X9_17 : eFp RX9 false 17 9 2 := ⟨rX9, eX_9, by decide, tw_126, rfl, Or.inl rfl⟩
theorem fp_X9_13 : eFp RX9 false 13 9 1 := ⟨rX9, eX_9, by decide, tw_124, rfl, Or.inl rfl⟩
theorem fp_X9_7 : eFp RX9 false 7 9 0 := ⟨rX9, eX_9, by decide, tw_123, rfl, Or.inl rfl⟩
theorem fp_X10_15i : eFp RX10 true 15 10 1 := ⟨rX10, eX_10, by decide, tw_288, rfl, Or.inr ⟨rfl, rfl, rfl⟩⟩
theorem fp_X10_9i : eFp RX10 true 9 10 0 := ⟨rX10, eX_10, by decide, tw_287, rfl, Or.inr ⟨rfl, rfl, rfl⟩⟩
theorem fp_X10_29 : eFp RX10 false 29 10 3 := ⟨rX10, eX_10, by decide, tw_290, rfl, Or.inl rfl⟩
theorem fp_X10_26 : eFp RX10 false 26 10 2 := ⟨rX10, eX_10, by decide, tw_289, rfl, Or.inl rfl⟩
theorem fp_X10_19 : eFp RX10 false 19 10 4 := ⟨rX10, eX_10, by decide, tw_292, rfl, Or.inl rfl⟩
theorem fp_X11_75i : eFp RX11 true 75 11 11 := ⟨rX11, eX_11, by decide, tw_334, rfl, Or.inl rfl⟩
theorem fp_X11_71i : eFp RX11 true 71 11 10 := ⟨rX11, eX_11, by decide, tw_333, rfl, Or.inr ⟨rfl, rfl, rfl⟩⟩
theorem fp_X11_64i : eFp RX11 true 64 11 9 := ⟨rX11, eX_11, by decide, tw_332, rfl, Or.inr ⟨rfl, rfl, rfl⟩⟩
theorem fp_X11_57i : eFp RX11 true 57 11 8 := ⟨rX11, eX_11, by decide, tw_331, rfl, Or.inr ⟨rfl, rfl, rfl⟩⟩
theorem fp_X11_50i : eFp RX11 true 50 11 7 := ⟨rX11, eX_11, by decide, tw_330, rfl, Or.inr ⟨rfl, rfl, rfl⟩⟩
theorem fp_X11_43i : eFp RX11 true 43 11 6 := ⟨rX11, eX_11, by decide, tw_329, rfl, Or.inr ⟨rfl, rfl, rfl⟩⟩
theorem fp_X11_36i : eFp RX11 true 36 11 5 := ⟨rX11, eX_11, by decide, tw_328, rfl, Or.inr ⟨rfl, rfl, rfl⟩⟩
theorem fp_X11_29i : eFp RX11 true 29 11 4 := ⟨rX11, eX_11, by decide, tw_327, rfl, Or.inr ⟨rfl, rfl, rfl⟩⟩
theorem fp_X11_22i : eFp RX11 true 22 11 2 := ⟨rX11, eX_11, by decide, tw_325, rfl, Or.inr ⟨rfl, rfl, rfl⟩⟩
theorem fp_X11_16i : eFp RX11 true 16 11 1 := ⟨rX11, eX_11, by decide, tw_324, rfl, Or.inr ⟨rfl, rfl, rfl⟩⟩
theorem fp_X11_7i : eFp RX11 true 7 11 0 := ⟨rX11, eX_11, by decide, tw_323, rfl, Or.inr ⟨rfl, rfl, rfl⟩⟩
theorem fp_X11_111 : eFp RX11 false 111 11 3 := ⟨rX11, eX_11, by decide, tw_326, rfl, Or.inl rfl⟩
theorem fp_X11_258 : eFp RX11 false 258 11 16 := ⟨rX11, eX_11, by decide, tw_339, rfl, Or.inl rfl⟩
theorem fp_X11_242 : eFp RX11 false 242 11 12 := ⟨rX11, eX_11, by decide, tw_335, rfl, Or.inl rfl⟩
theorem fp_X11_75 : eFp RX11 false 75 11 11 := ⟨rX11, eX_11, by decide, tw_334, rfl, Or.inl rfl⟩
theorem fp_X11_254 : eFp RX11 false 254 8 3 := ⟨rX8, eX_8, by decide, tw_261, rfl, Or.inl rfl⟩
theorem fp_X11_124 : eFp RX11 false 124 6 5 := ⟨rX6, eX_6, by decide, tw_427, rfl, Or.inl rfl⟩
theorem fp_X11_121 : eFp RX11 false 121 6 4 := ⟨rX6, eX_6, by decide, tw_424, rfl, Or.inl rfl⟩
theorem fp_X11_158 : eFp RX11 false 158 11 14 := ⟨rX11, eX_11, by decide, tw_337, rfl, Or.inl rfl⟩
theorem fp_X11_131 : eFp RX11 false 131 11 18 := ⟨rX11, eX_11, by decide, tw_341, rfl, Or.inl rfl⟩
theorem fp_X11_218 : eFp RX11 false 218 2 4 := ⟨rX2, eX_2, by decide, tw_472, rfl, Or.inl rfl⟩
theorem fp_X11_261 : eFp RX11 false 261 11 17 := ⟨rX11, eX_11, by decide, tw_340, rfl, Or.inl rfl⟩
theorem fp_X11_290 : eFp RX11 false 290 11 15 := ⟨rX11, eX_11, by decide, tw_338, rfl, Or.inl rfl⟩
theorem fp_X11_155 : eFp RX11 false 155 11 13 := ⟨rX11, eX_11, by decide, tw_336, rfl, Or.inl rfl⟩
theorem fp_X12_105i : eFp RX12 true 105 12 54 := ⟨rX12, eX_12, by decide, tw_987, rfl, Or.inr ⟨rfl, rfl, rfl⟩⟩
theorem fp_X12_102i : eFp RX12 true 102 12 52 := ⟨rX12, eX_12, by decide, tw_985, rfl, Or.inr ⟨rfl, rfl, rfl⟩⟩
theorem fp_X12_99i : eFp RX12 true 99 12 50 := ⟨rX12, eX_12, by decide, tw_983, rfl, Or.inr ⟨rfl, rfl, rfl⟩⟩
theorem fp_X12_96i : eFp RX12 true 96 12 48 := ⟨rX12, eX_12, by decide, tw_981, rfl, Or.inr ⟨rfl, rfl, rfl⟩⟩
theorem fp_X12_93i : eFp RX12 true 93 12 47 := ⟨rX12, eX_12, by decide, tw_980, rfl, Or.inr ⟨rfl, rfl, rfl⟩⟩
theorem fp_X12_90i : eFp RX12 true 90 12 46 := ⟨rX12, eX_12, by decide, tw_979, rfl, Or.inr ⟨rfl, rfl, rfl⟩⟩
theorem fp_X12_87i : eFp RX12 true 87 12 34 := ⟨rX12, eX_12, by decide, tw_967, rfl, Or.inr ⟨rfl, rfl, rfl⟩⟩
theorem fp_X12_84i : eFp RX12 true 84 12 33 := ⟨rX12, eX_12, by decide, tw_966, rfl, Or.inr ⟨rfl, rfl, rfl⟩⟩
theorem fp_X12_81i : eFp RX12 true 81 12 32 := ⟨rX12, eX_12, by decide, tw_965, rfl, Or.inr ⟨rfl, rfl, rfl⟩⟩
theorem fp_X12_78i : eFp RX12 true 78 12 31 := ⟨rX12, eX_12, by decide, tw_964, rfl, Or.inr ⟨rfl, rfl, rfl⟩⟩
theorem fp_X12_75i : eFp RX12 true 75 12 30 := ⟨rX12, eX_12, by decide, tw_963, rfl, Or.inr ⟨rfl, rfl, rfl⟩⟩
theorem fp_X12_72i : eFp RX12 true 72 12 29 := ⟨rX12, eX_12, by decide, tw_962, rfl, Or.inr ⟨rfl, rfl, rfl⟩⟩
theorem fp_X12_69i : eFp RX12 true 69 12 27 := ⟨rX12, eX_12, by decide, tw_960, rfl, Or.inr ⟨rfl, rfl, rfl⟩⟩
theorem fp_X12_66i : eFp RX12 true 66 12 26 := ⟨rX12, eX_12, by decide, tw_959, rfl, Or.inr ⟨rfl, rfl, rfl⟩⟩
theorem fp_X12_63i : eFp RX12 true 63 12 25 := ⟨rX12, eX_12, by decide, tw_958, rfl, Or.inr ⟨rfl, rfl, rfl⟩⟩
theorem fp_X12_60i : eFp RX12 true 60 12 24 := ⟨rX12, eX_12, by decide, tw_957, rfl, Or.inr ⟨rfl, rfl, rfl⟩⟩
theorem fp_X12_57i : eFp RX12 true 57 12 21 := ⟨rX12, eX_12, by decide, tw_954, rfl, Or.inr ⟨rfl, rfl, rfl⟩⟩
theorem fp_X12_54i : eFp RX12 true 54 12 18 := ⟨rX12, eX_12, by decide, tw_951, rfl, Or.inr ⟨rfl, rfl, rfl⟩⟩
theorem fp_X12_50i : eFp RX12 true 50 12 15 := ⟨rX12, eX_12, by decide, tw_948, rfl, Or.inl rfl⟩
theorem fp_X12_47i : eFp RX12 true 47 12 14 := ⟨rX12, eX_12, by decide, tw_947, rfl, Or.inr ⟨rfl, rfl, rfl⟩⟩
theorem fp_X12_44i : eFp RX12 true 44 12 13 := ⟨rX12, eX_12, by decide, tw_946, rfl, Or.inr ⟨rfl, rfl, rfl⟩⟩
theorem fp_X12_41i : eFp RX12 true 41 12 12 := ⟨rX12, eX_12, by decide, tw_945, rfl, Or.inr ⟨rfl, rfl, rfl⟩⟩
theorem fp_X12_38i : eFp RX12 true 38 12 11 := ⟨rX12, eX_12, by decide, tw_944, rfl, Or.inr ⟨rfl, rfl, rfl⟩⟩
theorem fp_X12_35i : eFp RX12 true 35 12 10 := ⟨rX12, eX_12, by decide, tw_943, rfl, Or.inr ⟨rfl, rfl, rfl⟩⟩
theorem fp_X12_32i : eFp RX12 true 32 12 8 := ⟨rX12, eX_12, by decide, tw_941, rfl, Or.inr ⟨rfl, rfl, rfl⟩⟩
theorem fp_X12_29i : eFp RX12 true 29 12 7 := ⟨rX12, eX_12, by decide, tw_940, rfl, Or.inr ⟨rfl, rfl, rfl⟩⟩
theorem fp_X12_26i : eFp RX12 true 26 12 6 := ⟨rX12, eX_12, by decide, tw_939, rfl, Or.inr ⟨rfl, rfl, rfl⟩⟩
theorem fp_X12_22i : eFp RX12 true 22 12 5 := ⟨rX12, eX_12, by decide, tw_938, rfl, Or.inr ⟨rfl, rfl, rfl⟩⟩
theorem fp_X12_19i : eFp RX12 true 19 12 4 := ⟨rX12, eX_12, by decide, tw_937, rfl, Or.inr ⟨rfl, rfl, rfl⟩⟩
theorem fp_X12_16i : eFp RX12 true 16 12 3 := ⟨rX12, eX_12, by decide, tw_936, rfl, Or.inr ⟨rfl, rfl, rfl⟩⟩
theorem fp_X12_13i : eFp RX12 true 13 12 2 := ⟨rX12, eX_12, by decide, tw_935, rfl, Or.inr ⟨rfl, rfl, rfl⟩⟩
theorem fp_X12_7i : eFp RX12 true 7 12 0 := ⟨rX12, eX_12, by decide, tw_933, rfl, Or.inr ⟨rfl, rfl, rfl⟩⟩
theorem fp_X12_108 : eFp RX12 false 108 12 1 := ⟨rX12, eX_12, by decide, tw_934, rfl, Or.inl rfl⟩
theorem fp_X12_130 : eFp RX12 false 130 12 9 := ⟨rX12, eX_12, by decide, tw_942, rfl, Or.inl rfl⟩
theorem fp_X12_258 : eFp RX12 false 258 12 42 := ⟨rX12, eX_12, by decide, tw_975, rfl, Or.inl rfl⟩
theorem fp_X12_197 : eFp RX12 false 197 12 39 := ⟨rX12, eX_12, by decide, tw_972, rfl, Or.inl rfl⟩
theorem fp_X12_206 : eFp RX12 false 206 12 28 := ⟨rX12, eX_12, by decide, tw_961, rfl, Or.inl rfl⟩
theorem fp_X12_158 : eFp RX12 false 158 12 23 := ⟨rX12, eX_12, by decide, tw_956, rfl, Or.inl rfl⟩
theorem fp_X12_255 : eFp RX12 false 255 12 51 := ⟨rX12, eX_12, by decide, tw_984, rfl, Or.inl rfl⟩
theorem fp_X12_50 : eFp RX12 false 50 12 15 := ⟨rX12, eX_12, by decide, tw_948, rfl, Or.inl rfl⟩
theorem fp_X12_222 : eFp RX12 false 222 12 45 := ⟨rX12, eX_12, by decide, tw_978, rfl, Or.inl rfl⟩
theorem fp_X12_252 : eFp RX12 false 252 12 36 := ⟨rX12, eX_12, by decide, tw_969, rfl, Or.inl rfl⟩
theorem fp_X12_125 : eFp RX12 false 125 12 35 := ⟨rX12, eX_12, by decide, tw_968, rfl, Or.inl rfl⟩
theorem fp_X12_172 : eFp RX12 false 172 12 49 := ⟨rX12, eX_12, by decide, tw_982, rfl, Or.inl rfl⟩
theorem fp_X12_200 : eFp RX12 false 200 12 37 := ⟨rX12, eX_12, by decide, tw_970, rfl, Or.inl rfl⟩
theorem fp_X12_203 : eFp RX12 false 203 12 53 := ⟨rX12, eX_12, by decide, tw_986, rfl, Or.inl rfl⟩
theorem fp_X12_261 : eFp RX12 false 261 12 41 := ⟨rX12, eX_12, by decide, tw_974, rfl, Or.inl rfl⟩
theorem fp_X12_182 : eFp RX12 false 182 12 38 := ⟨rX12, eX_12, by decide, tw_971, rfl, Or.inl rfl⟩
theorem fp_X12_336 : eFp RX12 false 336 12 17 := ⟨rX12, eX_12, by decide, tw_950, rfl, Or.inl rfl⟩
theorem fp_X12_333 : eFp RX12 false 333 12 16 := ⟨rX12, eX_12, by decide, tw_949, rfl, Or.inl rfl⟩
theorem fp_X12_219 : eFp RX12 false 219 12 19 := ⟨rX12, eX_12, by decide, tw_952, rfl, Or.inl rfl⟩
theorem fp_X12_168 : eFp RX12 false 168 12 22 := ⟨rX12, eX_12, by decide, tw_955, rfl, Or.inl rfl⟩
theorem fp_X12_302 : eFp RX12 false 302 12 44 := ⟨rX12, eX_12, by decide, tw_977, rfl, Or.inl rfl⟩
theorem fp_X12_290 : eFp RX12 false 290 12 40 := ⟨rX12, eX_12, by decide, tw_973, rfl, Or.inl rfl⟩
theorem fp_X12_369 : eFp RX12 false 369 12 43 := ⟨rX12, eX_12, by decide, tw_976, rfl, Or.inl rfl⟩
theorem fp_X12_209 : eFp RX12 false 209 12 20 := ⟨rX12, eX_12, by decide, tw_953, rfl, Or.inl rfl⟩
theorem cwX4_init : eCw YX4_init 0 := ⟨tw_185, tw_77, by decide +kernel, by decide +kernel, by decide +kernel⟩
theorem cwX0_init : eCw YX0_init 0 := ⟨tw_223, tw_78, by decide +kernel, by decide +kernel, by decide +kernel⟩
theorem cwX0_clear : eCw YX0_clear 0 := ⟨tw_547, tw_78, by decide +kernel, by decide +kernel, by decide +kernel⟩
theorem cwX4_clear : eCw YX4_clear 0 := ⟨tw_587, tw_77, by decide +kernel, by decide +kernel, by decide +kernel⟩
theorem cwX0_next : eCw YX0_next 0 := ⟨tw_729, tw_78, by decide +kernel, by decide +kernel, by decide +kernel⟩
theorem cwX0_first : eCw YX0_first 0 := ⟨tw_527, tw_78, by decide +kernel, by decide +kernel, by decide +kernel⟩
theorem cwX0_dropFirst : eCw YX0_dropFirst 0 := ⟨tw_579, tw_78, by decide +kernel, by decide +kernel, by decide +kernel⟩
theorem cwX1_init : eCw YX1_init 0 := ⟨tw_143, tw_75, by decide +kernel, by decide +kernel, by decide +kernel⟩
theorem cwX1_daysOf : eCw YX1_daysOf 2 := ⟨tw_815, tw_75, by decide +kernel, by decide +kernel, by decide +kernel⟩
theorem cwX1_goOn : eCw YX1_goOn 0 := ⟨tw_873, tw_75, by decide +kernel, by decide +kernel, by decide +kernel⟩
theorem cwX1_time : eCw YX1_time 0 := ⟨tw_515, tw_75, by decide +kernel, by decide +kernel, by decide +kernel⟩
theorem cwX1_become : eCw YX1_become 1 := ⟨tw_821, tw_75, by decide +kernel, by decide +kernel, by decide +kernel⟩
theorem cwX1_isTime : eCw YX1_isTime 1 := ⟨tw_807, tw_75, by decide +kernel, by decide +kernel, by decide +kernel⟩
theorem cwX2_init : eCw YX2_init 4 := ⟨tw_462, tw_84, by decide +kernel, by decide +kernel, by decide +kernel⟩
theorem cwX2_isOrder : eCw YX2_isOrder 1 := ⟨tw_837, tw_84, by decide +kernel, by decide +kernel, by decide +kernel⟩
theorem cwX2_valueOf : eCw YX2_valueOf 1 := ⟨tw_861, tw_84, by decide +kernel, by decide +kernel, by decide +kernel⟩
theorem cwX3_init : eCw YX3_init 0 := ⟨tw_178, tw_76, by decide +kernel, by decide +kernel, by decide +kernel⟩
theorem cwX3_waiting : eCw YX3_waiting 0 := ⟨tw_503, tw_76, by decide +kernel, by decide +kernel, by decide +kernel⟩
theorem cwX3_add : eCw YX3_add 3 := ⟨tw_519, tw_76, by decide +kernel, by decide +kernel, by decide +kernel⟩
theorem cwX11_objectHead : eCw YX11_objectHead 4 := ⟨tw_594, tw_72, by decide +kernel, by decide +kernel, by decide +kernel⟩
theorem cwX4_add : eCw YX4_add 2 := ⟨tw_598, tw_77, by decide +kernel, by decide +kernel, by decide +kernel⟩
theorem cwX6_objectBytes : eCw YX6_objectBytes 0 := ⟨tw_602, tw_83, by decide +kernel, by decide +kernel, by decide +kernel⟩
theorem cwX3_next : eCw YX3_next 1 := ⟨tw_583, tw_76, by decide +kernel, by decide +kernel, by decide +kernel⟩
theorem cwX3_nextWasSent : eCw YX3_nextWasSent 0 := ⟨tw_606, tw_76, by decide +kernel, by decide +kernel, by decide +kernel⟩
theorem cwX3_dropEldest : eCw YX3_dropEldest 0 := ⟨tw_674, tw_76, by decide +kernel, by decide +kernel, by decide +kernel⟩
theorem cwX3_waitAgain : eCw YX3_waitAgain 0 := ⟨tw_555, tw_76, by decide +kernel, by decide +kernel, by decide +kernel⟩
theorem cwX4_copy : eCw YX4_copy 1 := ⟨tw_734, tw_77, by decide +kernel, by decide +kernel, by decide +kernel⟩
theorem cwX4_replace : eCw YX4_replace 2 := ⟨tw_747, tw_77, by decide +kernel, by decide +kernel, by decide +kernel⟩
theorem cwX4_at : eCw YX4_at 1 := ⟨tw_571, tw_77, by decide +kernel, by decide +kernel, by decide +kernel⟩
theorem cwX4_number : eCw YX4_number 2 := ⟨tw_708, tw_77, by decide +kernel, by decide +kernel, by decide +kernel⟩
theorem cwX4_address : eCw YX4_address 0 := ⟨tw_714, tw_77, by decide +kernel, by decide +kernel, by decide +kernel⟩
theorem cwX5_init : eCw YX5_init 0 := ⟨tw_310, tw_81, by decide +kernel, by decide +kernel, by decide +kernel⟩
theorem cwX5_clear : eCw YX5_clear 0 := ⟨tw_614, tw_81, by decide +kernel, by decide +kernel, by decide +kernel⟩
theorem cwX5_add : eCw YX5_add 1 := ⟨tw_567, tw_81, by decide +kernel, by decide +kernel, by decide +kernel⟩
theorem cwX5_at : eCw YX5_at 1 := ⟨tw_902, tw_81, by decide +kernel, by decide +kernel, by decide +kernel⟩
theorem cwX5_dropFirst : eCw YX5_dropFirst 1 := ⟨tw_910, tw_81, by decide +kernel, by decide +kernel, by decide +kernel⟩
theorem cwX6_init : eCw YX6_init 4 := ⟨tw_410, tw_83, by decide +kernel, by decide +kernel, by decide +kernel⟩
theorem cwX6_fits : eCw YX6_fits 2 := ⟨tw_491, tw_83, by decide +kernel, by decide +kernel, by decide +kernel⟩
theorem cwX6_isAskedBy : eCw YX6_isAskedBy 1 := ⟨tw_784, tw_83, by decide +kernel, by decide +kernel, by decide +kernel⟩
theorem cwX6_object : eCw YX6_object 2 := ⟨tw_507, tw_83, by decide +kernel, by decide +kernel, by decide +kernel⟩
theorem cwX7_init : eCw YX7_init 0 := ⟨tw_99, tw_73, by decide +kernel, by decide +kernel, by decide +kernel⟩
theorem cwX7_add : eCw YX7_add 1 := ⟨tw_448, tw_73, by decide +kernel, by decide +kernel, by decide +kernel⟩
theorem cwX7_at : eCw YX7_at 1 := ⟨tw_456, tw_73, by decide +kernel, by decide +kernel, by decide +kernel⟩
theorem cwX7_atPlace : eCw YX7_atPlace 1 := ⟨tw_780, tw_73, by decide +kernel, by decide +kernel, by decide +kernel⟩
theorem cwX7_withAddress : eCw YX7_withAddress 1 := ⟨tw_401, tw_73, by decide +kernel, by decide +kernel, by decide +kernel⟩
theorem cwX7_freezeCounters : eCw YX7_freezeCounters 0 := ⟨tw_796, tw_73, by decide +kernel, by decide +kernel, by decide +kernel⟩
theorem cwX7_resetCounters : eCw YX7_resetCounters 0 := ⟨tw_800, tw_73, by decide +kernel, by decide +kernel, by decide +kernel⟩
theorem cwX8_init : eCw YX8_init 0 := ⟨tw_250, tw_79, by decide +kernel, by decide +kernel, by decide +kernel⟩
theorem cwX8_forget : eCw YX8_forget 0 := ⟨tw_563, tw_79, by decide +kernel, by decide +kernel, by decide +kernel⟩
theorem cwX8_restart : eCw YX8_restart 0 := ⟨tw_623, tw_79, by decide +kernel, by decide +kernel, by decide +kernel⟩
theorem cwX8_isControl : eCw YX8_isControl 0 := ⟨tw_642, tw_79, by decide +kernel, by decide +kernel, by decide +kernel⟩
theorem cwX8_accept : eCw YX8_accept 1 := ⟨tw_636, tw_79, by decide +kernel, by decide +kernel, by decide +kernel⟩
theorem cwX8_number : eCw YX8_number 0 := ⟨tw_654, tw_79, by decide +kernel, by decide +kernel, by decide +kernel⟩
theorem cwX8_ack : eCw YX8_ack 0 := ⟨tw_658, tw_79, by decide +kernel, by decide +kernel, by decide +kernel⟩
theorem cwX8_ackToTell : eCw YX8_ackToTell 0 := ⟨tw_535, tw_79, by decide +kernel, by decide +kernel, by decide +kernel⟩
theorem cwX8_countData : eCw YX8_countData 1 := ⟨tw_678, tw_79, by decide +kernel, by decide +kernel, by decide +kernel⟩
theorem cwX8_originator : eCw YX8_originator 0 := ⟨tw_765, tw_79, by decide +kernel, by decide +kernel, by decide +kernel⟩
theorem cwX8_isTrial : eCw YX8_isTrial 0 := ⟨tw_755, tw_79, by decide +kernel, by decide +kernel, by decide +kernel⟩
theorem cwX9_init : eCw YX9_init 0 := ⟨tw_121, tw_74, by decide +kernel, by decide +kernel, by decide +kernel⟩
theorem cwX9_begin : eCw YX9_begin 4 := ⟨tw_849, tw_74, by decide +kernel, by decide +kernel, by decide +kernel⟩
theorem cwX9_end : eCw YX9_end 0 := ⟨tw_551, tw_74, by decide +kernel, by decide +kernel, by decide +kernel⟩
theorem cwX9_isOfSome : eCw YX9_isOfSome 0 := ⟨tw_845, tw_74, by decide +kernel, by decide +kernel, by decide +kernel⟩
theorem cwX9_isOf : eCw YX9_isOf 1 := ⟨tw_831, tw_74, by decide +kernel, by decide +kernel, by decide +kernel⟩
theorem cwX9_goOn : eCw YX9_goOn 0 := ⟨tw_894, tw_74, by decide +kernel, by decide +kernel, by decide +kernel⟩
theorem cwX10_init : eCw YX10_init 0 := ⟨tw_285, tw_80, by decide +kernel, by decide +kernel, by decide +kernel⟩
theorem cwX10_forget : eCw YX10_forget 0 := ⟨tw_559, tw_80, by decide +kernel, by decide +kernel, by decide +kernel⟩
theorem cwX10_restart : eCw YX10_restart 0 := ⟨tw_618, tw_80, by decide +kernel, by decide +kernel, by decide +kernel⟩
theorem cwX10_add : eCw YX10_add 2 := ⟨tw_575, tw_80, by decide +kernel, by decide +kernel, by decide +kernel⟩
theorem cwX10_eldestAt : eCw YX10_eldestAt 0 := ⟨tw_882, tw_80, by decide +kernel, by decide +kernel, by decide +kernel⟩
theorem cwX10_newlyAcknowledged : eCw YX10_newlyAcknowledged 1 := ⟨tw_666, tw_80, by decide +kernel, by decide +kernel, by decide +kernel⟩
theorem cwX10_dropEldest : eCw YX10_dropEldest 0 := ⟨tw_670, tw_80, by decide +kernel, by decide +kernel, by decide +kernel⟩
theorem cwX11_init : eCw YX11_init 0 := ⟨tw_91, tw_72, by decide +kernel, by decide +kernel, by decide +kernel⟩
theorem cwX11_set : eCw YX11_set 2 := ⟨tw_384, tw_72, by decide +kernel, by decide +kernel, by decide +kernel⟩
theorem cwX11_commandWith : eCw YX11_commandWith 1 := ⟨tw_405, tw_72, by decide +kernel, by decide +kernel, by decide +kernel⟩
theorem cwX11_isFreeAddress : eCw YX11_isFreeAddress 1 := ⟨tw_396, tw_72, by decide +kernel, by decide +kernel, by decide +kernel⟩
theorem cwX11_point : eCw YX11_point 4 := ⟨tw_392, tw_72, by decide +kernel, by decide +kernel, by decide +kernel⟩
theorem cwX11_command : eCw YX11_command 4 := ⟨tw_452, tw_72, by decide +kernel, by decide +kernel, by decide +kernel⟩
theorem cwX11_shut : eCw YX11_shut 1 := ⟨tw_543, tw_72, by decide +kernel, by decide +kernel, by decide +kernel⟩
theorem cwX11_sendFrame : eCw YX11_sendFrame 2 := ⟨tw_539, tw_72, by decide +kernel, by decide +kernel, by decide +kernel⟩
theorem cwX11_sendData : eCw YX11_sendData 2 := ⟨tw_531, tw_72, by decide +kernel, by decide +kernel, by decide +kernel⟩
theorem cwX11_sendWaiting : eCw YX11_sendWaiting 0 := ⟨tw_523, tw_72, by decide +kernel, by decide +kernel, by decide +kernel⟩
theorem cwX11_change : eCw YX11_change 3 := ⟨tw_487, tw_72, by decide +kernel, by decide +kernel, by decide +kernel⟩
theorem cwX11_open : eCw YX11_open 0 := ⟨tw_610, tw_72, by decide +kernel, by decide +kernel, by decide +kernel⟩
theorem cwX11_close : eCw YX11_close 0 := ⟨tw_628, tw_72, by decide +kernel, by decide +kernel, by decide +kernel⟩
theorem cwX11_acknowledge : eCw YX11_acknowledge 1 := ⟨tw_662, tw_72, by decide +kernel, by decide +kernel, by decide +kernel⟩
theorem cwX11_acceptData : eCw YX11_acceptData 0 := ⟨tw_650, tw_72, by decide +kernel, by decide +kernel, by decide +kernel⟩
theorem cwX11_sendAck : eCw YX11_sendAck 0 := ⟨tw_690, tw_72, by decide +kernel, by decide +kernel, by decide +kernel⟩
theorem cwX11_stopCame : eCw YX11_stopCame 0 := ⟨tw_686, tw_72, by decide +kernel, by decide +kernel, by decide +kernel⟩
theorem cwX11_controlCame : eCw YX11_controlCame 1 := ⟨tw_682, tw_72, by decide +kernel, by decide +kernel, by decide +kernel⟩
theorem cwX11_acceptFrame : eCw YX11_acceptFrame 0 := ⟨tw_646, tw_72, by decide +kernel, by decide +kernel, by decide +kernel⟩
theorem cwX11_restLength : eCw YX11_restLength 1 := ⟨tw_701, tw_72, by decide +kernel, by decide +kernel, by decide +kernel⟩
theorem cwX11_isCauseOf : eCw YX11_isCauseOf 2 := ⟨tw_704, tw_72, by decide +kernel, by decide +kernel, by decide +kernel⟩
theorem cwX11_isAddressOf : eCw YX11_isAddressOf 2 := ⟨tw_719, tw_72, by decide +kernel, by decide +kernel, by decide +kernel⟩
theorem cwX11_faultOf : eCw YX11_faultOf 3 := ⟨tw_698, tw_72, by decide +kernel, by decide +kernel, by decide +kernel⟩
theorem cwX11_answerSame : eCw YX11_answerSame 1 := ⟨tw_725, tw_72, by decide +kernel, by decide +kernel, by decide +kernel⟩
theorem cwX11_answerObject : eCw YX11_answerObject 2 := ⟨tw_760, tw_72, by decide +kernel, by decide +kernel, by decide +kernel⟩
theorem cwX11_readCame : eCw YX11_readCame 1 := ⟨tw_751, tw_72, by decide +kernel, by decide +kernel, by decide +kernel⟩
theorem cwX11_answerPoints : eCw YX11_answerPoints 1 := ⟨tw_776, tw_72, by decide +kernel, by decide +kernel, by decide +kernel⟩
theorem cwX11_interrogationCame : eCw YX11_interrogationCame 2 := ⟨tw_772, tw_72, by decide +kernel, by decide +kernel, by decide +kernel⟩
theorem cwX11_orderCounters : eCw YX11_orderCounters 1 := ⟨tw_792, tw_72, by decide +kernel, by decide +kernel, by decide +kernel⟩
theorem cwX11_countersOrderCame : eCw YX11_countersOrderCame 1 := ⟨tw_788, tw_72, by decide +kernel, by decide +kernel, by decide +kernel⟩
theorem cwX11_clockOrderCame : eCw YX11_clockOrderCame 1 := ⟨tw_804, tw_72, by decide +kernel, by decide +kernel, by decide +kernel⟩
theorem cwX11_selectCame : eCw YX11_selectCame 3 := ⟨tw_841, tw_72, by decide +kernel, by decide +kernel, by decide +kernel⟩
theorem cwX11_endSelection : eCw YX11_endSelection 3 := ⟨tw_853, tw_72, by decide +kernel, by decide +kernel, by decide +kernel⟩
theorem cwX11_carryOut : eCw YX11_carryOut 3 := ⟨tw_857, tw_72, by decide +kernel, by decide +kernel, by decide +kernel⟩
theorem cwX11_commandCame : eCw YX11_commandCame 2 := ⟨tw_827, tw_72, by decide +kernel, by decide +kernel, by decide +kernel⟩
theorem cwX11_takeRest : eCw YX11_takeRest 1 := ⟨tw_694, tw_72, by decide +kernel, by decide +kernel, by decide +kernel⟩
theorem cwX11_behindFrame : eCw YX11_behindFrame 0 := ⟨tw_865, tw_72, by decide +kernel, by decide +kernel, by decide +kernel⟩
theorem cwX11_come : eCw YX11_come 2 := ⟨tw_632, tw_72, by decide +kernel, by decide +kernel, by decide +kernel⟩
theorem cwX11_isOver : eCw YX11_isOver 2 := ⟨tw_886, tw_72, by decide +kernel, by decide +kernel, by decide +kernel⟩
theorem cwX11_sendTest : eCw YX11_sendTest 0 := ⟨tw_890, tw_72, by decide +kernel, by decide +kernel, by decide +kernel⟩
theorem cwX11_runTimers : eCw YX11_runTimers 0 := ⟨tw_878, tw_72, by decide +kernel, by decide +kernel, by decide +kernel⟩
theorem cwX11_tick : eCw YX11_tick 1 := ⟨tw_869, tw_72, by decide +kernel, by decide +kernel, by decide +kernel⟩
theorem cwX11_out : eCw YX11_out 1 := ⟨tw_898, tw_72, by decide +kernel, by decide +kernel, by decide +kernel⟩
theorem cwX11_take : eCw YX11_take 1 := ⟨tw_906, tw_72, by decide +kernel, by decide +kernel, by decide +kernel⟩
theorem cwX11_told : eCw YX11_told 2 := ⟨tw_914, tw_72, by decide +kernel, by decide +kernel, by decide +kernel⟩
theorem cwX11_ordered : eCw YX11_ordered 2 := ⟨tw_918, tw_72, by decide +kernel, by decide +kernel, by decide +kernel⟩
theorem cwX11_clock : eCw YX11_clock 1 := ⟨tw_922, tw_72, by decide +kernel, by decide +kernel, by decide +kernel⟩
theorem cwX11_count : eCw YX11_count 1 := ⟨tw_926, tw_72, by decide +kernel, by decide +kernel, by decide +kernel⟩
theorem cwX12_init : eCw YX12_init 0 := ⟨tw_931, tw_82, by decide +kernel, by decide +kernel, by decide +kernel⟩
theorem cwX12_in : eCw YX12_in 3 := ⟨tw_1106, tw_82, by decide +kernel, by decide +kernel, by decide +kernel⟩
theorem cwX12_isPoint : eCw YX12_isPoint 1 := ⟨tw_1129, tw_82, by decide +kernel, by decide +kernel, by decide +kernel⟩
theorem cwX12_set : eCw YX12_set 2 := ⟨tw_1102, tw_82, by decide +kernel, by decide +kernel, by decide +kernel⟩
theorem cwX12_isFree : eCw YX12_isFree 1 := ⟨tw_1119, tw_82, by decide +kernel, by decide +kernel, by decide +kernel⟩
theorem cwX12_point : eCw YX12_point 4 := ⟨tw_1114, tw_82, by decide +kernel, by decide +kernel, by decide +kernel⟩
theorem cwX12_command : eCw YX12_command 4 := ⟨tw_1124, tw_82, by decide +kernel, by decide +kernel, by decide +kernel⟩
theorem cwX12_isValue : eCw YX12_isValue 2 := ⟨tw_1136, tw_82, by decide +kernel, by decide +kernel, by decide +kernel⟩
theorem cwX12_timeByte : eCw YX12_timeByte 1 := ⟨tw_1146, tw_82, by decide +kernel, by decide +kernel, by decide +kernel⟩
theorem cwX12_ackLow : eCw YX12_ackLow 0 := ⟨tw_1159, tw_82, by decide +kernel, by decide +kernel, by decide +kernel⟩
theorem cwX12_ackHigh : eCw YX12_ackHigh 0 := ⟨tw_1163, tw_82, by decide +kernel, by decide +kernel, by decide +kernel⟩
theorem cwX12_moveEvent : eCw YX12_moveEvent 2 := ⟨tw_1175, tw_82, by decide +kernel, by decide +kernel, by decide +kernel⟩
theorem cwX12_closes : eCw YX12_closes 1 := ⟨tw_1171, tw_82, by decide +kernel, by decide +kernel, by decide +kernel⟩
theorem cwX12_byteOut : eCw YX12_byteOut 1 := ⟨tw_1179, tw_82, by decide +kernel, by decide +kernel, by decide +kernel⟩
theorem cwX12_frames : eCw YX12_frames 5 := ⟨tw_1167, tw_82, by decide +kernel, by decide +kernel, by decide +kernel⟩
theorem cwX12_sendsDraft : eCw YX12_sendsDraft 0 := ⟨tw_1154, tw_82, by decide +kernel, by decide +kernel, by decide +kernel⟩
theorem cwX12_firstAnswerGoes : eCw YX12_firstAnswerGoes 0 := ⟨tw_1183, tw_82, by decide +kernel, by decide +kernel, by decide +kernel⟩
theorem cwX12_timedTypeOf : eCw YX12_timedTypeOf 1 := ⟨tw_1190, tw_82, by decide +kernel, by decide +kernel, by decide +kernel⟩
theorem cwX12_typeOf : eCw YX12_typeOf 1 := ⟨tw_1193, tw_82, by decide +kernel, by decide +kernel, by decide +kernel⟩
theorem cwX12_put : eCw YX12_put 1 := ⟨tw_1201, tw_82, by decide +kernel, by decide +kernel, by decide +kernel⟩
theorem cwX12_putNumber : eCw YX12_putNumber 2 := ⟨tw_1205, tw_82, by decide +kernel, by decide +kernel, by decide +kernel⟩
theorem cwX12_head : eCw YX12_head 4 := ⟨tw_1197, tw_82, by decide +kernel, by decide +kernel, by decide +kernel⟩
theorem cwX12_object : eCw YX12_object 3 := ⟨tw_1209, tw_82, by decide +kernel, by decide +kernel, by decide +kernel⟩
theorem cwX12_sendsEvent : eCw YX12_sendsEvent 0 := ⟨tw_1187, tw_82, by decide +kernel, by decide +kernel, by decide +kernel⟩
theorem cwX12_sends : eCw YX12_sends 0 := ⟨tw_1150, tw_82, by decide +kernel, by decide +kernel, by decide +kernel⟩
theorem cwX12_change : eCw YX12_change 3 := ⟨tw_1133, tw_82, by decide +kernel, by decide +kernel, by decide +kernel⟩
theorem cwX12_tells : eCw YX12_tells 0 := ⟨tw_1321, tw_82, by decide +kernel, by decide +kernel, by decide +kernel⟩
theorem cwX12_open : eCw YX12_open 0 := ⟨tw_1213, tw_82, by decide +kernel, by decide +kernel, by decide +kernel⟩
theorem cwX12_close : eCw YX12_close 0 := ⟨tw_1217, tw_82, by decide +kernel, by decide +kernel, by decide +kernel⟩
theorem cwX12_canBe : eCw YX12_canBe 0 := ⟨tw_1227, tw_82, by decide +kernel, by decide +kernel, by decide +kernel⟩
theorem cwX12_acknowledges : eCw YX12_acknowledges 0 := ⟨tw_1241, tw_82, by decide +kernel, by decide +kernel, by decide +kernel⟩
theorem cwX12_at : eCw YX12_at 1 := ⟨tw_1249, tw_82, by decide +kernel, by decide +kernel, by decide +kernel⟩
theorem cwX12_isOrder : eCw YX12_isOrder 1 := ⟨tw_1253, tw_82, by decide +kernel, by decide +kernel, by decide +kernel⟩
theorem cwX12_waits : eCw YX12_waits 0 := ⟨tw_1263, tw_82, by decide +kernel, by decide +kernel, by decide +kernel⟩
theorem cwX12_same : eCw YX12_same 2 := ⟨tw_1259, tw_82, by decide +kernel, by decide +kernel, by decide +kernel⟩
theorem cwX12_lengthOf : eCw YX12_lengthOf 1 := ⟨tw_1267, tw_82, by decide +kernel, by decide +kernel, by decide +kernel⟩
theorem cwX12_isTest : eCw YX12_isTest 0 := ⟨tw_1275, tw_82, by decide +kernel, by decide +kernel, by decide +kernel⟩
theorem cwX12_keepBytes : eCw YX12_keepBytes 1 := ⟨tw_1279, tw_82, by decide +kernel, by decide +kernel, by decide +kernel⟩
theorem cwX12_areBytes : eCw YX12_areBytes 1 := ⟨tw_1283, tw_82, by decide +kernel, by decide +kernel, by decide +kernel⟩
theorem cwX12_carriesOut : eCw YX12_carriesOut 3 := ⟨tw_1287, tw_82, by decide +kernel, by decide +kernel, by decide +kernel⟩
theorem cwX12_commanded : eCw YX12_commanded 3 := ⟨tw_1271, tw_82, by decide +kernel, by decide +kernel, by decide +kernel⟩
theorem cwX12_reads : eCw YX12_reads 1 := ⟨tw_1291, tw_82, by decide +kernel, by decide +kernel, by decide +kernel⟩
theorem cwX12_objects : eCw YX12_objects 3 := ⟨tw_1301, tw_82, by decide +kernel, by decide +kernel, by decide +kernel⟩
theorem cwX12_freezes : eCw YX12_freezes 1 := ⟨tw_1305, tw_82, by decide +kernel, by decide +kernel, by decide +kernel⟩
theorem cwX12_daysOf : eCw YX12_daysOf 2 := ⟨tw_1313, tw_82, by decide +kernel, by decide +kernel, by decide +kernel⟩
theorem cwX12_isTime : eCw YX12_isTime 0 := ⟨tw_1309, tw_82, by decide +kernel, by decide +kernel, by decide +kernel⟩
theorem cwX12_asked : eCw YX12_asked 2 := ⟨tw_1295, tw_82, by decide +kernel, by decide +kernel, by decide +kernel⟩
theorem cwX12_rest : eCw YX12_rest 0 := ⟨tw_1245, tw_82, by decide +kernel, by decide +kernel, by decide +kernel⟩
theorem cwX12_takesData : eCw YX12_takesData 0 := ⟨tw_1237, tw_82, by decide +kernel, by decide +kernel, by decide +kernel⟩
theorem cwX12_takesOrder : eCw YX12_takesOrder 1 := ⟨tw_1317, tw_82, by decide +kernel, by decide +kernel, by decide +kernel⟩
theorem cwX12_takes : eCw YX12_takes 0 := ⟨tw_1233, tw_82, by decide +kernel, by decide +kernel, by decide +kernel⟩
theorem cwX12_come : eCw YX12_come 2 := ⟨tw_1221, tw_82, by decide +kernel, by decide +kernel, by decide +kernel⟩
theorem cwX12_clockGoes : eCw YX12_clockGoes 0 := ⟨tw_1333, tw_82, by decide +kernel, by decide +kernel, by decide +kernel⟩
theorem cwX12_tickGoes : eCw YX12_tickGoes 0 := ⟨tw_1329, tw_82, by decide +kernel, by decide +kernel, by decide +kernel⟩
theorem cwX12_tick : eCw YX12_tick 1 := ⟨tw_1325, tw_82, by decide +kernel, by decide +kernel, by decide +kernel⟩
theorem cwX12_out : eCw YX12_out 1 := ⟨tw_1337, tw_82, by decide +kernel, by decide +kernel, by decide +kernel⟩
theorem cwX12_take : eCw YX12_take 1 := ⟨tw_1341, tw_82, by decide +kernel, by decide +kernel, by decide +kernel⟩
theorem cwX12_told : eCw YX12_told 2 := ⟨tw_1345, tw_82, by decide +kernel, by decide +kernel, by decide +kernel⟩
theorem cwX12_ordered : eCw YX12_ordered 2 := ⟨tw_1349, tw_82, by decide +kernel, by decide +kernel, by decide +kernel⟩
theorem cwX12_clock : eCw YX12_clock 1 := ⟨tw_1353, tw_82, by decide +kernel, by decide +kernel, by decide +kernel⟩
theorem cwX12_count : eCw YX12_count 1 := ⟨tw_1358, tw_82, by decide +kernel, by decide +kernel, by decide +kernel⟩
