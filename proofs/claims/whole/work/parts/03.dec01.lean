theorem dX8_isControl_75 : decode cX8_isControl 75 = .ok (.getfield 34, 3) := by decide +kernel
theorem dX8_isControl_78 : decode cX8_isControl 78 = .ok (.lookupswitch 60 #[(7, 58), (11, 58), (19, 58), (35, 58), (67, 58), (131, 58)], 58) := by decide +kernel
theorem dX8_isControl_136 : decode cX8_isControl 136 = .ok (.iconst 1, 1) := by decide +kernel
theorem dX8_isControl_137 : decode cX8_isControl 137 = .ok (.ireturn, 1) := by decide +kernel
theorem dX8_isControl_138 : decode cX8_isControl 138 = .ok (.iconst 0, 1) := by decide +kernel
theorem dX8_isControl_139 : decode cX8_isControl 139 = .ok (.ireturn, 1) := by decide +kernel
theorem dX8_number_0 : decode cX8_number 0 = .ok (.aload_n 0, 1) := by decide +kernel
theorem dX8_number_1 : decode cX8_number 1 = .ok (.getfield 34, 3) := by decide +kernel
theorem dX8_number_4 : decode cX8_number 4 = .ok (.iconst 1, 1) := by decide +kernel
theorem dX8_number_5 : decode cX8_number 5 = .ok (.ishr, 1) := by decide +kernel
theorem dX8_number_6 : decode cX8_number 6 = .ok (.sipush 32767, 3) := by decide +kernel
theorem dX8_number_9 : decode cX8_number 9 = .ok (.iand, 1) := by decide +kernel
theorem dX8_number_10 : decode cX8_number 10 = .ok (.ireturn, 1) := by decide +kernel
theorem dX8_ack_0 : decode cX8_ack 0 = .ok (.aload_n 0, 1) := by decide +kernel
theorem dX8_ack_1 : decode cX8_ack 1 = .ok (.getfield 34, 3) := by decide +kernel
theorem dX8_ack_4 : decode cX8_ack 4 = .ok (.bipush 17, 2) := by decide +kernel
theorem dX8_ack_6 : decode cX8_ack 6 = .ok (.ishr, 1) := by decide +kernel
theorem dX8_ack_7 : decode cX8_ack 7 = .ok (.sipush 32767, 3) := by decide +kernel
theorem dX8_ack_10 : decode cX8_ack 10 = .ok (.iand, 1) := by decide +kernel
theorem dX8_ack_11 : decode cX8_ack 11 = .ok (.ireturn, 1) := by decide +kernel
theorem dX8_ackToTell_0 : decode cX8_ackToTell 0 = .ok (.aload_n 0, 1) := by decide +kernel
theorem dX8_ackToTell_1 : decode cX8_ackToTell 1 = .ok (.getfield 18, 3) := by decide +kernel
theorem dX8_ackToTell_4 : decode cX8_ackToTell 4 = .ok (.sipush 32767, 3) := by decide +kernel
theorem dX8_ackToTell_7 : decode cX8_ackToTell 7 = .ok (.iand, 1) := by decide +kernel
theorem dX8_ackToTell_8 : decode cX8_ackToTell 8 = .ok (.ireturn, 1) := by decide +kernel
theorem dX8_countData_0 : decode cX8_countData 0 = .ok (.aload_n 0, 1) := by decide +kernel
theorem dX8_countData_1 : decode cX8_countData 1 = .ok (.getfield 28, 3) := by decide +kernel
theorem dX8_countData_4 : decode cX8_countData 4 = .ok (.ifCond .ne 8, 3) := by decide +kernel
theorem dX8_countData_7 : decode cX8_countData 7 = .ok (.aload_n 0, 1) := by decide +kernel
theorem dX8_countData_8 : decode cX8_countData 8 = .ok (.iload_n 1, 1) := by decide +kernel
theorem dX8_countData_9 : decode cX8_countData 9 = .ok (.putfield 48, 3) := by decide +kernel
theorem dX8_countData_12 : decode cX8_countData 12 = .ok (.aload_n 0, 1) := by decide +kernel
theorem dX8_countData_13 : decode cX8_countData 13 = .ok (.dup, 1) := by decide +kernel
theorem dX8_countData_14 : decode cX8_countData 14 = .ok (.getfield 28, 3) := by decide +kernel
theorem dX8_countData_17 : decode cX8_countData 17 = .ok (.iconst 1, 1) := by decide +kernel
theorem dX8_countData_18 : decode cX8_countData 18 = .ok (.iadd, 1) := by decide +kernel
theorem dX8_countData_19 : decode cX8_countData 19 = .ok (.putfield 28, 3) := by decide +kernel
theorem dX8_countData_22 : decode cX8_countData 22 = .ok (.aload_n 0, 1) := by decide +kernel
theorem dX8_countData_23 : decode cX8_countData 23 = .ok (.dup, 1) := by decide +kernel
theorem dX8_countData_24 : decode cX8_countData 24 = .ok (.getfield 18, 3) := by decide +kernel
theorem dX8_countData_27 : decode cX8_countData 27 = .ok (.iconst 1, 1) := by decide +kernel
theorem dX8_countData_28 : decode cX8_countData 28 = .ok (.iadd, 1) := by decide +kernel
theorem dX8_countData_29 : decode cX8_countData 29 = .ok (.putfield 18, 3) := by decide +kernel
theorem dX8_countData_32 : decode cX8_countData 32 = .ok (.return_, 1) := by decide +kernel
theorem dX8_originator_0 : decode cX8_originator 0 = .ok (.aload_n 0, 1) := by decide +kernel
theorem dX8_originator_1 : decode cX8_originator 1 = .ok (.getfield 12, 3) := by decide +kernel
theorem dX8_originator_4 : decode cX8_originator 4 = .ok (.iconst 3, 1) := by decide +kernel
theorem dX8_originator_5 : decode cX8_originator 5 = .ok (.invokevirtual 51, 3) := by decide +kernel
theorem dX8_originator_8 : decode cX8_originator 8 = .ok (.ireturn, 1) := by decide +kernel
theorem dX8_isTrial_0 : decode cX8_isTrial 0 = .ok (.aload_n 0, 1) := by decide +kernel
theorem dX8_isTrial_1 : decode cX8_isTrial 1 = .ok (.getfield 12, 3) := by decide +kernel
theorem dX8_isTrial_4 : decode cX8_isTrial 4 = .ok (.iconst 2, 1) := by decide +kernel
theorem dX8_isTrial_5 : decode cX8_isTrial 5 = .ok (.invokevirtual 51, 3) := by decide +kernel
theorem dX8_isTrial_8 : decode cX8_isTrial 8 = .ok (.sipush 128, 3) := by decide +kernel
theorem dX8_isTrial_11 : decode cX8_isTrial 11 = .ok (.iand, 1) := by decide +kernel
theorem dX8_isTrial_12 : decode cX8_isTrial 12 = .ok (.ifCond .eq 7, 3) := by decide +kernel
theorem dX8_isTrial_15 : decode cX8_isTrial 15 = .ok (.iconst 1, 1) := by decide +kernel
theorem dX8_isTrial_16 : decode cX8_isTrial 16 = .ok (.goto 4, 3) := by decide +kernel
theorem dX8_isTrial_19 : decode cX8_isTrial 19 = .ok (.iconst 0, 1) := by decide +kernel
theorem dX8_isTrial_20 : decode cX8_isTrial 20 = .ok (.ireturn, 1) := by decide +kernel
theorem dX9_init_0 : decode cX9_init 0 = .ok (.aload_n 0, 1) := by decide +kernel
theorem dX9_init_1 : decode cX9_init 1 = .ok (.invokespecial 1, 3) := by decide +kernel
theorem dX9_init_4 : decode cX9_init 4 = .ok (.return_, 1) := by decide +kernel
theorem dX9_begin_0 : decode cX9_begin 0 = .ok (.aload_n 0, 1) := by decide +kernel
theorem dX9_begin_1 : decode cX9_begin 1 = .ok (.aload_n 1, 1) := by decide +kernel
theorem dX9_begin_2 : decode cX9_begin 2 = .ok (.putfield 7, 3) := by decide +kernel
theorem dX9_begin_5 : decode cX9_begin 5 = .ok (.aload_n 0, 1) := by decide +kernel
theorem dX9_begin_6 : decode cX9_begin 6 = .ok (.iload_n 2, 1) := by decide +kernel
theorem dX9_begin_7 : decode cX9_begin 7 = .ok (.putfield 13, 3) := by decide +kernel
theorem dX9_begin_10 : decode cX9_begin 10 = .ok (.aload_n 0, 1) := by decide +kernel
theorem dX9_begin_11 : decode cX9_begin 11 = .ok (.iload_n 3, 1) := by decide +kernel
theorem dX9_begin_12 : decode cX9_begin 12 = .ok (.putfield 17, 3) := by decide +kernel
theorem dX9_begin_15 : decode cX9_begin 15 = .ok (.aload_n 0, 1) := by decide +kernel
theorem dX9_begin_16 : decode cX9_begin 16 = .ok (.iload 4, 2) := by decide +kernel
theorem dX9_begin_18 : decode cX9_begin 18 = .ok (.putfield 20, 3) := by decide +kernel
theorem dX9_begin_21 : decode cX9_begin 21 = .ok (.return_, 1) := by decide +kernel
theorem dX9_end_0 : decode cX9_end 0 = .ok (.aload_n 0, 1) := by decide +kernel
theorem dX9_end_1 : decode cX9_end 1 = .ok (.aconst_null, 1) := by decide +kernel
theorem dX9_end_2 : decode cX9_end 2 = .ok (.putfield 7, 3) := by decide +kernel
theorem dX9_end_5 : decode cX9_end 5 = .ok (.aload_n 0, 1) := by decide +kernel
theorem dX9_end_6 : decode cX9_end 6 = .ok (.iconst 0, 1) := by decide +kernel
theorem dX9_end_7 : decode cX9_end 7 = .ok (.putfield 20, 3) := by decide +kernel
theorem dX9_end_10 : decode cX9_end 10 = .ok (.return_, 1) := by decide +kernel
theorem dX9_isOfSome_0 : decode cX9_isOfSome 0 = .ok (.aload_n 0, 1) := by decide +kernel
theorem dX9_isOfSome_1 : decode cX9_isOfSome 1 = .ok (.getfield 7, 3) := by decide +kernel
theorem dX9_isOfSome_4 : decode cX9_isOfSome 4 = .ok (.ifnull 7, 3) := by decide +kernel
theorem dX9_isOfSome_7 : decode cX9_isOfSome 7 = .ok (.iconst 1, 1) := by decide +kernel
theorem dX9_isOfSome_8 : decode cX9_isOfSome 8 = .ok (.goto 4, 3) := by decide +kernel
theorem dX9_isOfSome_11 : decode cX9_isOfSome 11 = .ok (.iconst 0, 1) := by decide +kernel
theorem dX9_isOfSome_12 : decode cX9_isOfSome 12 = .ok (.ireturn, 1) := by decide +kernel
theorem dX9_isOf_0 : decode cX9_isOf 0 = .ok (.aload_n 0, 1) := by decide +kernel
theorem dX9_isOf_1 : decode cX9_isOf 1 = .ok (.getfield 7, 3) := by decide +kernel
theorem dX9_isOf_4 : decode cX9_isOf 4 = .ok (.ifnull 15, 3) := by decide +kernel
theorem dX9_isOf_7 : decode cX9_isOf 7 = .ok (.aload_n 0, 1) := by decide +kernel
theorem dX9_isOf_8 : decode cX9_isOf 8 = .ok (.getfield 7, 3) := by decide +kernel
theorem dX9_isOf_11 : decode cX9_isOf 11 = .ok (.aload_n 1, 1) := by decide +kernel
theorem dX9_isOf_12 : decode cX9_isOf 12 = .ok (.if_acmp .ne 7, 3) := by decide +kernel
theorem dX9_isOf_15 : decode cX9_isOf 15 = .ok (.iconst 1, 1) := by decide +kernel
theorem dX9_isOf_16 : decode cX9_isOf 16 = .ok (.goto 4, 3) := by decide +kernel
theorem dX9_isOf_19 : decode cX9_isOf 19 = .ok (.iconst 0, 1) := by decide +kernel
theorem dX9_isOf_20 : decode cX9_isOf 20 = .ok (.ireturn, 1) := by decide +kernel
theorem dX9_goOn_0 : decode cX9_goOn 0 = .ok (.aload_n 0, 1) := by decide +kernel
theorem dX9_goOn_1 : decode cX9_goOn 1 = .ok (.getfield 7, 3) := by decide +kernel
theorem dX9_goOn_4 : decode cX9_goOn 4 = .ok (.ifnull 25, 3) := by decide +kernel
theorem dX9_goOn_7 : decode cX9_goOn 7 = .ok (.aload_n 0, 1) := by decide +kernel
theorem dX9_goOn_8 : decode cX9_goOn 8 = .ok (.dup, 1) := by decide +kernel
theorem dX9_goOn_9 : decode cX9_goOn 9 = .ok (.getfield 20, 3) := by decide +kernel
theorem dX9_goOn_12 : decode cX9_goOn 12 = .ok (.iconst 1, 1) := by decide +kernel
theorem dX9_goOn_13 : decode cX9_goOn 13 = .ok (.isub, 1) := by decide +kernel
theorem dX9_goOn_14 : decode cX9_goOn 14 = .ok (.putfield 20, 3) := by decide +kernel
theorem dX9_goOn_17 : decode cX9_goOn 17 = .ok (.aload_n 0, 1) := by decide +kernel
theorem dX9_goOn_18 : decode cX9_goOn 18 = .ok (.getfield 20, 3) := by decide +kernel
theorem dX9_goOn_21 : decode cX9_goOn 21 = .ok (.ifCond .gt 8, 3) := by decide +kernel
theorem dX9_goOn_24 : decode cX9_goOn 24 = .ok (.aload_n 0, 1) := by decide +kernel
theorem dX9_goOn_25 : decode cX9_goOn 25 = .ok (.aconst_null, 1) := by decide +kernel
theorem dX9_goOn_26 : decode cX9_goOn 26 = .ok (.putfield 7, 3) := by decide +kernel
theorem dX9_goOn_29 : decode cX9_goOn 29 = .ok (.return_, 1) := by decide +kernel
theorem dX10_init_0 : decode cX10_init 0 = .ok (.aload_n 0, 1) := by decide +kernel
theorem dX10_init_1 : decode cX10_init 1 = .ok (.invokespecial 3, 3) := by decide +kernel
theorem dX10_init_4 : decode cX10_init 4 = .ok (.aload_n 0, 1) := by decide +kernel
theorem dX10_init_5 : decode cX10_init 5 = .ok (.bipush 12, 2) := by decide +kernel
theorem dX10_init_7 : decode cX10_init 7 = .ok (.newarray .int, 2) := by decide +kernel
theorem dX10_init_9 : decode cX10_init 9 = .ok (.putfield 9, 3) := by decide +kernel
theorem dX10_init_12 : decode cX10_init 12 = .ok (.aload_n 0, 1) := by decide +kernel
theorem dX10_init_13 : decode cX10_init 13 = .ok (.bipush 12, 2) := by decide +kernel
theorem dX10_init_15 : decode cX10_init 15 = .ok (.newarray .boolean, 2) := by decide +kernel
theorem dX10_init_17 : decode cX10_init 17 = .ok (.putfield 15, 3) := by decide +kernel
theorem dX10_init_20 : decode cX10_init 20 = .ok (.return_, 1) := by decide +kernel
theorem dX10_restart_0 : decode cX10_restart 0 = .ok (.aload_n 0, 1) := by decide +kernel
theorem dX10_restart_1 : decode cX10_restart 1 = .ok (.iconst 0, 1) := by decide +kernel
theorem dX10_restart_2 : decode cX10_restart 2 = .ok (.putfield 19, 3) := by decide +kernel
theorem dX10_restart_5 : decode cX10_restart 5 = .ok (.aload_n 0, 1) := by decide +kernel
theorem dX10_restart_6 : decode cX10_restart 6 = .ok (.invokevirtual 23, 3) := by decide +kernel
theorem dX10_restart_9 : decode cX10_restart 9 = .ok (.return_, 1) := by decide +kernel
theorem dX10_forget_0 : decode cX10_forget 0 = .ok (.aload_n 0, 1) := by decide +kernel
theorem dX10_forget_1 : decode cX10_forget 1 = .ok (.iconst 0, 1) := by decide +kernel
theorem dX10_forget_2 : decode cX10_forget 2 = .ok (.putfield 26, 3) := by decide +kernel
theorem dX10_forget_5 : decode cX10_forget 5 = .ok (.aload_n 0, 1) := by decide +kernel
theorem dX10_forget_6 : decode cX10_forget 6 = .ok (.iconst 0, 1) := by decide +kernel
theorem dX10_forget_7 : decode cX10_forget 7 = .ok (.putfield 29, 3) := by decide +kernel
theorem dX10_forget_10 : decode cX10_forget 10 = .ok (.return_, 1) := by decide +kernel
theorem dX10_add_0 : decode cX10_add 0 = .ok (.aload_n 0, 1) := by decide +kernel
theorem dX10_add_1 : decode cX10_add 1 = .ok (.getfield 29, 3) := by decide +kernel
theorem dX10_add_4 : decode cX10_add 4 = .ok (.bipush 12, 2) := by decide +kernel
theorem dX10_add_6 : decode cX10_add 6 = .ok (.if_icmp .lt 4, 3) := by decide +kernel
theorem dX10_add_9 : decode cX10_add 9 = .ok (.return_, 1) := by decide +kernel
theorem dX10_add_10 : decode cX10_add 10 = .ok (.aload_n 0, 1) := by decide +kernel
theorem dX10_add_11 : decode cX10_add 11 = .ok (.getfield 26, 3) := by decide +kernel
theorem dX10_add_14 : decode cX10_add 14 = .ok (.aload_n 0, 1) := by decide +kernel
theorem dX10_add_15 : decode cX10_add 15 = .ok (.getfield 29, 3) := by decide +kernel
theorem dX10_add_18 : decode cX10_add 18 = .ok (.iadd, 1) := by decide +kernel
theorem dX10_add_19 : decode cX10_add 19 = .ok (.bipush 12, 2) := by decide +kernel
theorem dX10_add_21 : decode cX10_add 21 = .ok (.irem, 1) := by decide +kernel
theorem dX10_add_22 : decode cX10_add 22 = .ok (.istore_n 3, 1) := by decide +kernel
theorem dX10_add_23 : decode cX10_add 23 = .ok (.aload_n 0, 1) := by decide +kernel
theorem dX10_add_24 : decode cX10_add 24 = .ok (.getfield 9, 3) := by decide +kernel
theorem dX10_add_27 : decode cX10_add 27 = .ok (.iload_n 3, 1) := by decide +kernel
theorem dX10_add_28 : decode cX10_add 28 = .ok (.iload_n 1, 1) := by decide +kernel
theorem dX10_add_29 : decode cX10_add 29 = .ok (.iastore, 1) := by decide +kernel
theorem dX10_add_30 : decode cX10_add 30 = .ok (.aload_n 0, 1) := by decide +kernel
theorem dX10_add_31 : decode cX10_add 31 = .ok (.getfield 15, 3) := by decide +kernel
theorem dX10_add_34 : decode cX10_add 34 = .ok (.iload_n 3, 1) := by decide +kernel
theorem dX10_add_35 : decode cX10_add 35 = .ok (.iload_n 2, 1) := by decide +kernel
theorem dX10_add_36 : decode cX10_add 36 = .ok (.bastore, 1) := by decide +kernel
theorem dX10_add_37 : decode cX10_add 37 = .ok (.aload_n 0, 1) := by decide +kernel
theorem dX10_add_38 : decode cX10_add 38 = .ok (.dup, 1) := by decide +kernel
theorem dX10_add_39 : decode cX10_add 39 = .ok (.getfield 29, 3) := by decide +kernel
theorem dX10_add_42 : decode cX10_add 42 = .ok (.iconst 1, 1) := by decide +kernel
theorem dX10_add_43 : decode cX10_add 43 = .ok (.iadd, 1) := by decide +kernel
theorem dX10_add_44 : decode cX10_add 44 = .ok (.putfield 29, 3) := by decide +kernel
theorem dX10_add_47 : decode cX10_add 47 = .ok (.aload_n 0, 1) := by decide +kernel
theorem dX10_add_48 : decode cX10_add 48 = .ok (.dup, 1) := by decide +kernel
theorem dX10_add_49 : decode cX10_add 49 = .ok (.getfield 19, 3) := by decide +kernel
theorem dX10_add_52 : decode cX10_add 52 = .ok (.iconst 1, 1) := by decide +kernel
theorem dX10_add_53 : decode cX10_add 53 = .ok (.iadd, 1) := by decide +kernel
theorem dX10_add_54 : decode cX10_add 54 = .ok (.putfield 19, 3) := by decide +kernel
theorem dX10_add_57 : decode cX10_add 57 = .ok (.return_, 1) := by decide +kernel
theorem dX10_eldestAt_0 : decode cX10_eldestAt 0 = .ok (.aload_n 0, 1) := by decide +kernel
theorem dX10_eldestAt_1 : decode cX10_eldestAt 1 = .ok (.getfield 9, 3) := by decide +kernel
theorem dX10_eldestAt_4 : decode cX10_eldestAt 4 = .ok (.aload_n 0, 1) := by decide +kernel
theorem dX10_eldestAt_5 : decode cX10_eldestAt 5 = .ok (.getfield 26, 3) := by decide +kernel
theorem dX10_eldestAt_8 : decode cX10_eldestAt 8 = .ok (.iaload, 1) := by decide +kernel
theorem dX10_eldestAt_9 : decode cX10_eldestAt 9 = .ok (.ireturn, 1) := by decide +kernel
theorem dX10_newlyAcknowledged_0 : decode cX10_newlyAcknowledged 0 = .ok (.iload_n 1, 1) := by decide +kernel
theorem dX10_newlyAcknowledged_1 : decode cX10_newlyAcknowledged 1 = .ok (.aload_n 0, 1) := by decide +kernel
theorem dX10_newlyAcknowledged_2 : decode cX10_newlyAcknowledged 2 = .ok (.getfield 19, 3) := by decide +kernel
theorem dX10_newlyAcknowledged_5 : decode cX10_newlyAcknowledged 5 = .ok (.aload_n 0, 1) := by decide +kernel
theorem dX10_newlyAcknowledged_6 : decode cX10_newlyAcknowledged 6 = .ok (.getfield 29, 3) := by decide +kernel
theorem dX10_newlyAcknowledged_9 : decode cX10_newlyAcknowledged 9 = .ok (.isub, 1) := by decide +kernel
theorem dX10_newlyAcknowledged_10 : decode cX10_newlyAcknowledged 10 = .ok (.isub, 1) := by decide +kernel
theorem dX10_newlyAcknowledged_11 : decode cX10_newlyAcknowledged 11 = .ok (.sipush 32767, 3) := by decide +kernel
theorem dX10_newlyAcknowledged_14 : decode cX10_newlyAcknowledged 14 = .ok (.iand, 1) := by decide +kernel
theorem dX10_newlyAcknowledged_15 : decode cX10_newlyAcknowledged 15 = .ok (.ireturn, 1) := by decide +kernel
theorem dX10_dropEldest_0 : decode cX10_dropEldest 0 = .ok (.aload_n 0, 1) := by decide +kernel
theorem dX10_dropEldest_1 : decode cX10_dropEldest 1 = .ok (.getfield 15, 3) := by decide +kernel
theorem dX10_dropEldest_4 : decode cX10_dropEldest 4 = .ok (.aload_n 0, 1) := by decide +kernel
theorem dX10_dropEldest_5 : decode cX10_dropEldest 5 = .ok (.getfield 26, 3) := by decide +kernel
theorem dX10_dropEldest_8 : decode cX10_dropEldest 8 = .ok (.baload, 1) := by decide +kernel
theorem dX10_dropEldest_9 : decode cX10_dropEldest 9 = .ok (.istore_n 1, 1) := by decide +kernel
theorem dX10_dropEldest_10 : decode cX10_dropEldest 10 = .ok (.aload_n 0, 1) := by decide +kernel
theorem dX10_dropEldest_11 : decode cX10_dropEldest 11 = .ok (.aload_n 0, 1) := by decide +kernel
theorem dX10_dropEldest_12 : decode cX10_dropEldest 12 = .ok (.getfield 26, 3) := by decide +kernel
theorem dX10_dropEldest_15 : decode cX10_dropEldest 15 = .ok (.iconst 1, 1) := by decide +kernel
theorem dX10_dropEldest_16 : decode cX10_dropEldest 16 = .ok (.iadd, 1) := by decide +kernel
theorem dX10_dropEldest_17 : decode cX10_dropEldest 17 = .ok (.bipush 12, 2) := by decide +kernel
theorem dX10_dropEldest_19 : decode cX10_dropEldest 19 = .ok (.irem, 1) := by decide +kernel
theorem dX10_dropEldest_20 : decode cX10_dropEldest 20 = .ok (.putfield 26, 3) := by decide +kernel
theorem dX10_dropEldest_23 : decode cX10_dropEldest 23 = .ok (.aload_n 0, 1) := by decide +kernel
theorem dX10_dropEldest_24 : decode cX10_dropEldest 24 = .ok (.dup, 1) := by decide +kernel
theorem dX10_dropEldest_25 : decode cX10_dropEldest 25 = .ok (.getfield 29, 3) := by decide +kernel
theorem dX10_dropEldest_28 : decode cX10_dropEldest 28 = .ok (.iconst 1, 1) := by decide +kernel
theorem dX10_dropEldest_29 : decode cX10_dropEldest 29 = .ok (.isub, 1) := by decide +kernel
theorem dX10_dropEldest_30 : decode cX10_dropEldest 30 = .ok (.putfield 29, 3) := by decide +kernel
theorem dX10_dropEldest_33 : decode cX10_dropEldest 33 = .ok (.iload_n 1, 1) := by decide +kernel
theorem dX10_dropEldest_34 : decode cX10_dropEldest 34 = .ok (.ireturn, 1) := by decide +kernel
theorem dX11_init_0 : decode cX11_init 0 = .ok (.aload_n 0, 1) := by decide +kernel
theorem dX11_init_1 : decode cX11_init 1 = .ok (.invokespecial 1, 3) := by decide +kernel
theorem dX11_init_4 : decode cX11_init 4 = .ok (.aload_n 0, 1) := by decide +kernel
theorem dX11_init_5 : decode cX11_init 5 = .ok (.bipush 7, 2) := by decide +kernel
theorem dX11_init_7 : decode cX11_init 7 = .ok (.newarray .int, 2) := by decide +kernel
theorem dX11_init_9 : decode cX11_init 9 = .ok (.dup, 1) := by decide +kernel
theorem dX11_init_10 : decode cX11_init 10 = .ok (.iconst 0, 1) := by decide +kernel
theorem dX11_init_11 : decode cX11_init 11 = .ok (.iconst 1, 1) := by decide +kernel
theorem dX11_init_12 : decode cX11_init 12 = .ok (.iastore, 1) := by decide +kernel
theorem dX11_init_13 : decode cX11_init 13 = .ok (.dup, 1) := by decide +kernel
theorem dX11_init_14 : decode cX11_init 14 = .ok (.iconst 1, 1) := by decide +kernel
theorem dX11_init_15 : decode cX11_init 15 = .ok (.bipush 12, 2) := by decide +kernel
theorem dX11_init_17 : decode cX11_init 17 = .ok (.iastore, 1) := by decide +kernel
theorem dX11_init_18 : decode cX11_init 18 = .ok (.dup, 1) := by decide +kernel
theorem dX11_init_19 : decode cX11_init 19 = .ok (.iconst 2, 1) := by decide +kernel
theorem dX11_init_20 : decode cX11_init 20 = .ok (.bipush 8, 2) := by decide +kernel
theorem dX11_init_22 : decode cX11_init 22 = .ok (.iastore, 1) := by decide +kernel
theorem dX11_init_23 : decode cX11_init 23 = .ok (.dup, 1) := by decide +kernel
theorem dX11_init_24 : decode cX11_init 24 = .ok (.iconst 3, 1) := by decide +kernel
theorem dX11_init_25 : decode cX11_init 25 = .ok (.sipush 150, 3) := by decide +kernel
theorem dX11_init_28 : decode cX11_init 28 = .ok (.iastore, 1) := by decide +kernel
theorem dX11_init_29 : decode cX11_init 29 = .ok (.dup, 1) := by decide +kernel
theorem dX11_init_30 : decode cX11_init 30 = .ok (.iconst 4, 1) := by decide +kernel
theorem dX11_init_31 : decode cX11_init 31 = .ok (.bipush 100, 2) := by decide +kernel
theorem dX11_init_33 : decode cX11_init 33 = .ok (.iastore, 1) := by decide +kernel
theorem dX11_init_34 : decode cX11_init 34 = .ok (.dup, 1) := by decide +kernel
theorem dX11_init_35 : decode cX11_init 35 = .ok (.iconst 5, 1) := by decide +kernel
theorem dX11_init_36 : decode cX11_init 36 = .ok (.sipush 200, 3) := by decide +kernel
theorem dX11_init_39 : decode cX11_init 39 = .ok (.iastore, 1) := by decide +kernel
theorem dX11_init_40 : decode cX11_init 40 = .ok (.dup, 1) := by decide +kernel
theorem dX11_init_41 : decode cX11_init 41 = .ok (.bipush 6, 2) := by decide +kernel
theorem dX11_init_43 : decode cX11_init 43 = .ok (.sipush 300, 3) := by decide +kernel
theorem dX11_init_46 : decode cX11_init 46 = .ok (.iastore, 1) := by decide +kernel
theorem dX11_init_47 : decode cX11_init 47 = .ok (.putfield 7, 3) := by decide +kernel
theorem dX11_init_50 : decode cX11_init 50 = .ok (.aload_n 0, 1) := by decide +kernel
theorem dX11_init_51 : decode cX11_init 51 = .ok (.new 13, 3) := by decide +kernel
theorem dX11_init_54 : decode cX11_init 54 = .ok (.dup, 1) := by decide +kernel
theorem dX11_init_55 : decode cX11_init 55 = .ok (.invokespecial 15, 3) := by decide +kernel
theorem dX11_init_58 : decode cX11_init 58 = .ok (.putfield 16, 3) := by decide +kernel
theorem dX11_init_61 : decode cX11_init 61 = .ok (.aload_n 0, 1) := by decide +kernel
theorem dX11_init_62 : decode cX11_init 62 = .ok (.bipush 12, 2) := by decide +kernel
theorem dX11_init_64 : decode cX11_init 64 = .ok (.anewarray 20, 3) := by decide +kernel
theorem dX11_init_67 : decode cX11_init 67 = .ok (.putfield 22, 3) := by decide +kernel
theorem dX11_init_70 : decode cX11_init 70 = .ok (.aload_n 0, 1) := by decide +kernel
theorem dX11_init_71 : decode cX11_init 71 = .ok (.new 26, 3) := by decide +kernel
theorem dX11_init_74 : decode cX11_init 74 = .ok (.dup, 1) := by decide +kernel
theorem dX11_init_75 : decode cX11_init 75 = .ok (.invokespecial 28, 3) := by decide +kernel
theorem dX11_init_78 : decode cX11_init 78 = .ok (.putfield 29, 3) := by decide +kernel
theorem dX11_init_81 : decode cX11_init 81 = .ok (.aload_n 0, 1) := by decide +kernel
theorem dX11_init_82 : decode cX11_init 82 = .ok (.new 33, 3) := by decide +kernel
theorem dX11_init_85 : decode cX11_init 85 = .ok (.dup, 1) := by decide +kernel
theorem dX11_init_86 : decode cX11_init 86 = .ok (.invokespecial 35, 3) := by decide +kernel
theorem dX11_init_89 : decode cX11_init 89 = .ok (.putfield 36, 3) := by decide +kernel
theorem dX11_init_92 : decode cX11_init 92 = .ok (.aload_n 0, 1) := by decide +kernel
theorem dX11_init_93 : decode cX11_init 93 = .ok (.new 40, 3) := by decide +kernel
theorem dX11_init_96 : decode cX11_init 96 = .ok (.dup, 1) := by decide +kernel
theorem dX11_init_97 : decode cX11_init 97 = .ok (.invokespecial 42, 3) := by decide +kernel
theorem dX11_init_100 : decode cX11_init 100 = .ok (.putfield 43, 3) := by decide +kernel
theorem dX11_init_103 : decode cX11_init 103 = .ok (.aload_n 0, 1) := by decide +kernel
theorem dX11_init_104 : decode cX11_init 104 = .ok (.new 47, 3) := by decide +kernel
theorem dX11_init_107 : decode cX11_init 107 = .ok (.dup, 1) := by decide +kernel
theorem dX11_init_108 : decode cX11_init 108 = .ok (.invokespecial 49, 3) := by decide +kernel
theorem dX11_init_111 : decode cX11_init 111 = .ok (.putfield 50, 3) := by decide +kernel
theorem dX11_init_114 : decode cX11_init 114 = .ok (.aload_n 0, 1) := by decide +kernel
theorem dX11_init_115 : decode cX11_init 115 = .ok (.new 54, 3) := by decide +kernel
theorem dX11_init_118 : decode cX11_init 118 = .ok (.dup, 1) := by decide +kernel
theorem dX11_init_119 : decode cX11_init 119 = .ok (.invokespecial 56, 3) := by decide +kernel
theorem dX11_init_122 : decode cX11_init 122 = .ok (.putfield 57, 3) := by decide +kernel
theorem dX11_init_125 : decode cX11_init 125 = .ok (.aload_n 0, 1) := by decide +kernel
theorem dX11_init_126 : decode cX11_init 126 = .ok (.new 61, 3) := by decide +kernel
theorem dX11_init_129 : decode cX11_init 129 = .ok (.dup, 1) := by decide +kernel
theorem dX11_init_130 : decode cX11_init 130 = .ok (.invokespecial 63, 3) := by decide +kernel
theorem dX11_init_133 : decode cX11_init 133 = .ok (.putfield 64, 3) := by decide +kernel
theorem dX11_init_136 : decode cX11_init 136 = .ok (.aload_n 0, 1) := by decide +kernel
theorem dX11_init_137 : decode cX11_init 137 = .ok (.new 68, 3) := by decide +kernel
theorem dX11_init_140 : decode cX11_init 140 = .ok (.dup, 1) := by decide +kernel
theorem dX11_init_141 : decode cX11_init 141 = .ok (.invokespecial 70, 3) := by decide +kernel
theorem dX11_init_144 : decode cX11_init 144 = .ok (.putfield 71, 3) := by decide +kernel
theorem dX11_init_147 : decode cX11_init 147 = .ok (.aload_n 0, 1) := by decide +kernel
theorem dX11_init_148 : decode cX11_init 148 = .ok (.iconst 0, 1) := by decide +kernel
theorem dX11_init_149 : decode cX11_init 149 = .ok (.putfield 75, 3) := by decide +kernel
theorem dX11_init_152 : decode cX11_init 152 = .ok (.return_, 1) := by decide +kernel
theorem dX11_set_0 : decode cX11_set 0 = .ok (.iload_n 1, 1) := by decide +kernel
theorem dX11_set_1 : decode cX11_set 1 = .ok (.ifCond .lt 27, 3) := by decide +kernel
theorem dX11_set_4 : decode cX11_set 4 = .ok (.iload_n 1, 1) := by decide +kernel
theorem dX11_set_5 : decode cX11_set 5 = .ok (.bipush 7, 2) := by decide +kernel
theorem dX11_set_7 : decode cX11_set 7 = .ok (.if_icmp .ge 21, 3) := by decide +kernel
theorem dX11_set_10 : decode cX11_set 10 = .ok (.iload_n 2, 1) := by decide +kernel
theorem dX11_set_11 : decode cX11_set 11 = .ok (.getstatic 79, 3) := by decide +kernel
theorem dX11_set_14 : decode cX11_set 14 = .ok (.iload_n 1, 1) := by decide +kernel
theorem dX11_set_15 : decode cX11_set 15 = .ok (.iaload, 1) := by decide +kernel
theorem dX11_set_16 : decode cX11_set 16 = .ok (.if_icmp .lt 12, 3) := by decide +kernel
theorem dX11_set_19 : decode cX11_set 19 = .ok (.iload_n 2, 1) := by decide +kernel
theorem dX11_set_20 : decode cX11_set 20 = .ok (.getstatic 82, 3) := by decide +kernel
theorem dX11_set_23 : decode cX11_set 23 = .ok (.iload_n 1, 1) := by decide +kernel
theorem dX11_set_24 : decode cX11_set 24 = .ok (.iaload, 1) := by decide +kernel
theorem dX11_set_25 : decode cX11_set 25 = .ok (.if_icmp .le 5, 3) := by decide +kernel
theorem dX11_set_28 : decode cX11_set 28 = .ok (.iconst (-1), 1) := by decide +kernel
theorem dX11_set_29 : decode cX11_set 29 = .ok (.ireturn, 1) := by decide +kernel
theorem dX11_set_30 : decode cX11_set 30 = .ok (.aload_n 0, 1) := by decide +kernel
theorem dX11_set_31 : decode cX11_set 31 = .ok (.getfield 75, 3) := by decide +kernel
theorem dX11_set_34 : decode cX11_set 34 = .ok (.ifCond .eq 6, 3) := by decide +kernel
theorem dX11_set_37 : decode cX11_set 37 = .ok (.bipush (-2), 2) := by decide +kernel
theorem dX11_set_39 : decode cX11_set 39 = .ok (.ireturn, 1) := by decide +kernel
theorem dX11_set_40 : decode cX11_set 40 = .ok (.aload_n 0, 1) := by decide +kernel
theorem dX11_set_41 : decode cX11_set 41 = .ok (.getfield 7, 3) := by decide +kernel
theorem dX11_set_44 : decode cX11_set 44 = .ok (.iload_n 1, 1) := by decide +kernel
theorem dX11_set_45 : decode cX11_set 45 = .ok (.iaload, 1) := by decide +kernel
theorem dX11_set_46 : decode cX11_set 46 = .ok (.istore_n 3, 1) := by decide +kernel
theorem dX11_set_47 : decode cX11_set 47 = .ok (.aload_n 0, 1) := by decide +kernel
theorem dX11_set_48 : decode cX11_set 48 = .ok (.getfield 7, 3) := by decide +kernel
theorem dX11_set_51 : decode cX11_set 51 = .ok (.iload_n 1, 1) := by decide +kernel
theorem dX11_set_52 : decode cX11_set 52 = .ok (.iload_n 2, 1) := by decide +kernel
theorem dX11_set_53 : decode cX11_set 53 = .ok (.iastore, 1) := by decide +kernel
theorem dX11_set_54 : decode cX11_set 54 = .ok (.iload_n 3, 1) := by decide +kernel
theorem dX11_set_55 : decode cX11_set 55 = .ok (.ireturn, 1) := by decide +kernel
theorem dX11_point_0 : decode cX11_point 0 = .ok (.iload_n 1, 1) := by decide +kernel
theorem dX11_point_1 : decode cX11_point 1 = .ok (.ifCond .lt 27, 3) := by decide +kernel
theorem dX11_point_4 : decode cX11_point 4 = .ok (.iload_n 1, 1) := by decide +kernel
theorem dX11_point_5 : decode cX11_point 5 = .ok (.bipush 7, 2) := by decide +kernel
theorem dX11_point_7 : decode cX11_point 7 = .ok (.if_icmp .ge 21, 3) := by decide +kernel
theorem dX11_point_10 : decode cX11_point 10 = .ok (.iload_n 3, 1) := by decide +kernel
theorem dX11_point_11 : decode cX11_point 11 = .ok (.ifCond .lt 17, 3) := by decide +kernel
theorem dX11_point_14 : decode cX11_point 14 = .ok (.iload_n 3, 1) := by decide +kernel
theorem dX11_point_15 : decode cX11_point 15 = .ok (.bipush 16, 2) := by decide +kernel
theorem dX11_point_17 : decode cX11_point 17 = .ok (.if_icmp .gt 11, 3) := by decide +kernel
theorem dX11_point_20 : decode cX11_point 20 = .ok (.aload_n 0, 1) := by decide +kernel
theorem dX11_point_21 : decode cX11_point 21 = .ok (.iload_n 2, 1) := by decide +kernel
theorem dX11_point_22 : decode cX11_point 22 = .ok (.invokevirtual 85, 3) := by decide +kernel
theorem dX11_point_25 : decode cX11_point 25 = .ok (.ifCond .ne 5, 3) := by decide +kernel
theorem dX11_point_28 : decode cX11_point 28 = .ok (.iconst (-1), 1) := by decide +kernel
theorem dX11_point_29 : decode cX11_point 29 = .ok (.ireturn, 1) := by decide +kernel
theorem dX11_point_30 : decode cX11_point 30 = .ok (.aload_n 0, 1) := by decide +kernel
theorem dX11_point_31 : decode cX11_point 31 = .ok (.getfield 16, 3) := by decide +kernel
theorem dX11_point_34 : decode cX11_point 34 = .ok (.getfield 89, 3) := by decide +kernel
theorem dX11_point_37 : decode cX11_point 37 = .ok (.bipush 24, 2) := by decide +kernel
theorem dX11_point_39 : decode cX11_point 39 = .ok (.if_icmp .lt 6, 3) := by decide +kernel
theorem dX11_point_42 : decode cX11_point 42 = .ok (.bipush (-3), 2) := by decide +kernel
theorem dX11_point_44 : decode cX11_point 44 = .ok (.ireturn, 1) := by decide +kernel
theorem dX11_point_45 : decode cX11_point 45 = .ok (.aload_n 0, 1) := by decide +kernel
theorem dX11_point_46 : decode cX11_point 46 = .ok (.getfield 16, 3) := by decide +kernel
theorem dX11_point_49 : decode cX11_point 49 = .ok (.new 92, 3) := by decide +kernel
theorem dX11_point_52 : decode cX11_point 52 = .ok (.dup, 1) := by decide +kernel
theorem dX11_point_53 : decode cX11_point 53 = .ok (.iload_n 1, 1) := by decide +kernel
theorem dX11_point_54 : decode cX11_point 54 = .ok (.iload_n 2, 1) := by decide +kernel
theorem dX11_point_55 : decode cX11_point 55 = .ok (.iload_n 3, 1) := by decide +kernel
theorem dX11_point_56 : decode cX11_point 56 = .ok (.iload 4, 2) := by decide +kernel
theorem dX11_point_58 : decode cX11_point 58 = .ok (.invokespecial 94, 3) := by decide +kernel
theorem dX11_point_61 : decode cX11_point 61 = .ok (.invokevirtual 97, 3) := by decide +kernel
theorem dX11_point_64 : decode cX11_point 64 = .ok (.aload_n 0, 1) := by decide +kernel
theorem dX11_point_65 : decode cX11_point 65 = .ok (.getfield 16, 3) := by decide +kernel
theorem dX11_point_68 : decode cX11_point 68 = .ok (.getfield 89, 3) := by decide +kernel
theorem dX11_point_71 : decode cX11_point 71 = .ok (.iconst 1, 1) := by decide +kernel
theorem dX11_point_72 : decode cX11_point 72 = .ok (.isub, 1) := by decide +kernel
theorem dX11_point_73 : decode cX11_point 73 = .ok (.ireturn, 1) := by decide +kernel
theorem dX11_command_0 : decode cX11_command 0 = .ok (.iload_n 1, 1) := by decide +kernel
theorem dX11_command_1 : decode cX11_command 1 = .ok (.ifCond .lt 16, 3) := by decide +kernel
theorem dX11_command_4 : decode cX11_command 4 = .ok (.iload_n 1, 1) := by decide +kernel
theorem dX11_command_5 : decode cX11_command 5 = .ok (.iconst 3, 1) := by decide +kernel
theorem dX11_command_6 : decode cX11_command 6 = .ok (.if_icmp .ge 11, 3) := by decide +kernel
theorem dX11_command_9 : decode cX11_command 9 = .ok (.aload_n 0, 1) := by decide +kernel
theorem dX11_command_10 : decode cX11_command 10 = .ok (.iload_n 2, 1) := by decide +kernel
theorem dX11_command_11 : decode cX11_command 11 = .ok (.invokevirtual 85, 3) := by decide +kernel
theorem dX11_command_14 : decode cX11_command 14 = .ok (.ifCond .ne 5, 3) := by decide +kernel
theorem dX11_command_17 : decode cX11_command 17 = .ok (.iconst (-1), 1) := by decide +kernel
theorem dX11_command_18 : decode cX11_command 18 = .ok (.ireturn, 1) := by decide +kernel
theorem dX11_command_19 : decode cX11_command 19 = .ok (.aload_n 0, 1) := by decide +kernel
theorem dX11_command_20 : decode cX11_command 20 = .ok (.getfield 16, 3) := by decide +kernel
theorem dX11_command_23 : decode cX11_command 23 = .ok (.iload_n 3, 1) := by decide +kernel
theorem dX11_command_24 : decode cX11_command 24 = .ok (.invokevirtual 101, 3) := by decide +kernel
theorem dX11_command_27 : decode cX11_command 27 = .ok (.astore 5, 2) := by decide +kernel
theorem dX11_command_29 : decode cX11_command 29 = .ok (.iload_n 3, 1) := by decide +kernel
theorem dX11_command_30 : decode cX11_command 30 = .ok (.iconst (-1), 1) := by decide +kernel
theorem dX11_command_31 : decode cX11_command 31 = .ok (.if_icmp .eq 23, 3) := by decide +kernel
theorem dX11_command_34 : decode cX11_command 34 = .ok (.aload 5, 2) := by decide +kernel
theorem dX11_command_36 : decode cX11_command 36 = .ok (.ifnull 16, 3) := by decide +kernel
theorem dX11_command_39 : decode cX11_command 39 = .ok (.aload 5, 2) := by decide +kernel
theorem dX11_command_41 : decode cX11_command 41 = .ok (.getfield 105, 3) := by decide +kernel
theorem dX11_command_44 : decode cX11_command 44 = .ok (.getstatic 108, 3) := by decide +kernel
theorem dX11_command_47 : decode cX11_command 47 = .ok (.iload_n 1, 1) := by decide +kernel
theorem dX11_command_48 : decode cX11_command 48 = .ok (.iaload, 1) := by decide +kernel
theorem dX11_command_49 : decode cX11_command 49 = .ok (.if_icmp .eq 5, 3) := by decide +kernel
theorem dX11_command_52 : decode cX11_command 52 = .ok (.iconst (-1), 1) := by decide +kernel
theorem dX11_command_53 : decode cX11_command 53 = .ok (.ireturn, 1) := by decide +kernel
theorem dX11_command_54 : decode cX11_command 54 = .ok (.aload_n 0, 1) := by decide +kernel
theorem dX11_command_55 : decode cX11_command 55 = .ok (.getfield 111, 3) := by decide +kernel
theorem dX11_command_58 : decode cX11_command 58 = .ok (.bipush 12, 2) := by decide +kernel
theorem dX11_command_60 : decode cX11_command 60 = .ok (.if_icmp .lt 6, 3) := by decide +kernel
theorem dX11_command_63 : decode cX11_command 63 = .ok (.bipush (-3), 2) := by decide +kernel
theorem dX11_command_65 : decode cX11_command 65 = .ok (.ireturn, 1) := by decide +kernel
theorem dX11_command_66 : decode cX11_command 66 = .ok (.aload_n 0, 1) := by decide +kernel
theorem dX11_command_67 : decode cX11_command 67 = .ok (.getfield 22, 3) := by decide +kernel
theorem dX11_command_70 : decode cX11_command 70 = .ok (.aload_n 0, 1) := by decide +kernel
theorem dX11_command_71 : decode cX11_command 71 = .ok (.getfield 111, 3) := by decide +kernel
theorem dX11_command_74 : decode cX11_command 74 = .ok (.new 20, 3) := by decide +kernel
theorem dX11_command_77 : decode cX11_command 77 = .ok (.dup, 1) := by decide +kernel
theorem dX11_command_78 : decode cX11_command 78 = .ok (.iload_n 1, 1) := by decide +kernel
theorem dX11_command_79 : decode cX11_command 79 = .ok (.iload_n 2, 1) := by decide +kernel
theorem dX11_command_80 : decode cX11_command 80 = .ok (.aload 5, 2) := by decide +kernel
theorem dX11_command_82 : decode cX11_command 82 = .ok (.iload 4, 2) := by decide +kernel
theorem dX11_command_84 : decode cX11_command 84 = .ok (.invokespecial 114, 3) := by decide +kernel
theorem dX11_command_87 : decode cX11_command 87 = .ok (.aastore, 1) := by decide +kernel
theorem dX11_command_88 : decode cX11_command 88 = .ok (.aload_n 0, 1) := by decide +kernel
theorem dX11_command_89 : decode cX11_command 89 = .ok (.dup, 1) := by decide +kernel
theorem dX11_command_90 : decode cX11_command 90 = .ok (.getfield 111, 3) := by decide +kernel
theorem dX11_command_93 : decode cX11_command 93 = .ok (.iconst 1, 1) := by decide +kernel
theorem dX11_command_94 : decode cX11_command 94 = .ok (.iadd, 1) := by decide +kernel
theorem dX11_command_95 : decode cX11_command 95 = .ok (.putfield 111, 3) := by decide +kernel
theorem dX11_command_98 : decode cX11_command 98 = .ok (.aload_n 0, 1) := by decide +kernel
theorem dX11_command_99 : decode cX11_command 99 = .ok (.getfield 111, 3) := by decide +kernel
theorem dX11_command_102 : decode cX11_command 102 = .ok (.iconst 1, 1) := by decide +kernel
theorem dX11_command_103 : decode cX11_command 103 = .ok (.isub, 1) := by decide +kernel
theorem dX11_command_104 : decode cX11_command 104 = .ok (.ireturn, 1) := by decide +kernel
theorem dX11_change_0 : decode cX11_change 0 = .ok (.aload_n 0, 1) := by decide +kernel
theorem dX11_change_1 : decode cX11_change 1 = .ok (.getfield 16, 3) := by decide +kernel
theorem dX11_change_4 : decode cX11_change 4 = .ok (.iload_n 1, 1) := by decide +kernel
theorem dX11_change_5 : decode cX11_change 5 = .ok (.invokevirtual 101, 3) := by decide +kernel
theorem dX11_change_8 : decode cX11_change 8 = .ok (.astore 4, 2) := by decide +kernel
theorem dX11_change_10 : decode cX11_change 10 = .ok (.aload 4, 2) := by decide +kernel
theorem dX11_change_12 : decode cX11_change 12 = .ok (.ifnull 13, 3) := by decide +kernel
theorem dX11_change_15 : decode cX11_change 15 = .ok (.aload 4, 2) := by decide +kernel
theorem dX11_change_17 : decode cX11_change 17 = .ok (.iload_n 2, 1) := by decide +kernel
theorem dX11_change_18 : decode cX11_change 18 = .ok (.iload_n 3, 1) := by decide +kernel
theorem dX11_change_19 : decode cX11_change 19 = .ok (.invokevirtual 117, 3) := by decide +kernel
theorem dX11_change_22 : decode cX11_change 22 = .ok (.ifCond .ne 5, 3) := by decide +kernel
theorem dX11_change_25 : decode cX11_change 25 = .ok (.iconst (-1), 1) := by decide +kernel
theorem dX11_change_26 : decode cX11_change 26 = .ok (.ireturn, 1) := by decide +kernel
theorem dX11_change_27 : decode cX11_change 27 = .ok (.aload 4, 2) := by decide +kernel
theorem dX11_change_29 : decode cX11_change 29 = .ok (.getfield 121, 3) := by decide +kernel
theorem dX11_change_32 : decode cX11_change 32 = .ok (.iload_n 2, 1) := by decide +kernel
theorem dX11_change_33 : decode cX11_change 33 = .ok (.if_icmp .ne 14, 3) := by decide +kernel
theorem dX11_change_36 : decode cX11_change 36 = .ok (.aload 4, 2) := by decide +kernel
theorem dX11_change_38 : decode cX11_change 38 = .ok (.getfield 124, 3) := by decide +kernel
theorem dX11_change_41 : decode cX11_change 41 = .ok (.iload_n 3, 1) := by decide +kernel
theorem dX11_change_42 : decode cX11_change 42 = .ok (.if_icmp .ne 5, 3) := by decide +kernel
theorem dX11_change_45 : decode cX11_change 45 = .ok (.iconst 0, 1) := by decide +kernel
theorem dX11_change_46 : decode cX11_change 46 = .ok (.ireturn, 1) := by decide +kernel
theorem dX11_change_47 : decode cX11_change 47 = .ok (.aload 4, 2) := by decide +kernel
theorem dX11_change_49 : decode cX11_change 49 = .ok (.getfield 105, 3) := by decide +kernel
theorem dX11_change_52 : decode cX11_change 52 = .ok (.bipush 6, 2) := by decide +kernel
theorem dX11_change_54 : decode cX11_change 54 = .ok (.if_icmp .eq 7, 3) := by decide +kernel
theorem dX11_change_57 : decode cX11_change 57 = .ok (.iconst 1, 1) := by decide +kernel
theorem dX11_change_58 : decode cX11_change 58 = .ok (.goto 4, 3) := by decide +kernel
theorem dX11_change_61 : decode cX11_change 61 = .ok (.iconst 0, 1) := by decide +kernel
theorem dX11_change_62 : decode cX11_change 62 = .ok (.istore 5, 2) := by decide +kernel
theorem dX11_change_64 : decode cX11_change 64 = .ok (.iload 5, 2) := by decide +kernel
theorem dX11_change_66 : decode cX11_change 66 = .ok (.ifCond .eq 18, 3) := by decide +kernel
theorem dX11_change_69 : decode cX11_change 69 = .ok (.aload_n 0, 1) := by decide +kernel
theorem dX11_change_70 : decode cX11_change 70 = .ok (.getfield 43, 3) := by decide +kernel
theorem dX11_change_73 : decode cX11_change 73 = .ok (.invokevirtual 127, 3) := by decide +kernel
theorem dX11_change_76 : decode cX11_change 76 = .ok (.bipush 40, 2) := by decide +kernel
theorem dX11_change_78 : decode cX11_change 78 = .ok (.if_icmp .lt 6, 3) := by decide +kernel
theorem dX11_change_81 : decode cX11_change 81 = .ok (.bipush (-3), 2) := by decide +kernel
theorem dX11_change_83 : decode cX11_change 83 = .ok (.ireturn, 1) := by decide +kernel
theorem dX11_change_84 : decode cX11_change 84 = .ok (.aload 4, 2) := by decide +kernel
theorem dX11_change_86 : decode cX11_change 86 = .ok (.iload_n 2, 1) := by decide +kernel
theorem dX11_change_87 : decode cX11_change 87 = .ok (.putfield 121, 3) := by decide +kernel
theorem dX11_change_90 : decode cX11_change 90 = .ok (.aload 4, 2) := by decide +kernel
theorem dX11_change_92 : decode cX11_change 92 = .ok (.iload_n 3, 1) := by decide +kernel
theorem dX11_change_93 : decode cX11_change 93 = .ok (.putfield 124, 3) := by decide +kernel
theorem dX11_change_96 : decode cX11_change 96 = .ok (.iload 5, 2) := by decide +kernel
theorem dX11_change_98 : decode cX11_change 98 = .ok (.ifCond .eq 29, 3) := by decide +kernel
theorem dX11_change_101 : decode cX11_change 101 = .ok (.aload_n 0, 1) := by decide +kernel
theorem dX11_change_102 : decode cX11_change 102 = .ok (.getfield 43, 3) := by decide +kernel
theorem dX11_change_105 : decode cX11_change 105 = .ok (.aload 4, 2) := by decide +kernel
theorem dX11_change_107 : decode cX11_change 107 = .ok (.aload 4, 2) := by decide +kernel
theorem dX11_change_109 : decode cX11_change 109 = .ok (.iload_n 2, 1) := by decide +kernel
theorem dX11_change_110 : decode cX11_change 110 = .ok (.aload_n 0, 1) := by decide +kernel
theorem dX11_change_111 : decode cX11_change 111 = .ok (.getfield 131, 3) := by decide +kernel
theorem dX11_change_114 : decode cX11_change 114 = .ok (.invokevirtual 134, 3) := by decide +kernel
theorem dX11_change_117 : decode cX11_change 117 = .ok (.aload_n 0, 1) := by decide +kernel
theorem dX11_change_118 : decode cX11_change 118 = .ok (.getfield 36, 3) := by decide +kernel
theorem dX11_change_121 : decode cX11_change 121 = .ok (.invokevirtual 138, 3) := by decide +kernel
theorem dX11_change_124 : decode cX11_change 124 = .ok (.invokevirtual 142, 3) := by decide +kernel
theorem dX11_change_127 : decode cX11_change 127 = .ok (.aload_n 0, 1) := by decide +kernel
theorem dX11_change_128 : decode cX11_change 128 = .ok (.invokevirtual 145, 3) := by decide +kernel
theorem dX11_change_131 : decode cX11_change 131 = .ok (.iconst 1, 1) := by decide +kernel
theorem dX11_change_132 : decode cX11_change 132 = .ok (.ireturn, 1) := by decide +kernel
theorem dX11_open_0 : decode cX11_open 0 = .ok (.aload_n 0, 1) := by decide +kernel
theorem dX11_open_1 : decode cX11_open 1 = .ok (.getfield 75, 3) := by decide +kernel
theorem dX11_open_4 : decode cX11_open 4 = .ok (.ifCond .eq 6, 3) := by decide +kernel
theorem dX11_open_7 : decode cX11_open 7 = .ok (.bipush (-2), 2) := by decide +kernel
theorem dX11_open_9 : decode cX11_open 9 = .ok (.ireturn, 1) := by decide +kernel
theorem dX11_open_10 : decode cX11_open 10 = .ok (.aload_n 0, 1) := by decide +kernel
theorem dX11_open_11 : decode cX11_open 11 = .ok (.iconst 1, 1) := by decide +kernel
theorem dX11_open_12 : decode cX11_open 12 = .ok (.putfield 75, 3) := by decide +kernel
theorem dX11_open_15 : decode cX11_open 15 = .ok (.aload_n 0, 1) := by decide +kernel
theorem dX11_open_16 : decode cX11_open 16 = .ok (.getfield 71, 3) := by decide +kernel
theorem dX11_open_19 : decode cX11_open 19 = .ok (.invokevirtual 148, 3) := by decide +kernel
theorem dX11_open_22 : decode cX11_open 22 = .ok (.aload_n 0, 1) := by decide +kernel
theorem dX11_open_23 : decode cX11_open 23 = .ok (.getfield 64, 3) := by decide +kernel
theorem dX11_open_26 : decode cX11_open 26 = .ok (.invokevirtual 151, 3) := by decide +kernel
theorem dX11_open_29 : decode cX11_open 29 = .ok (.aload_n 0, 1) := by decide +kernel
theorem dX11_open_30 : decode cX11_open 30 = .ok (.getfield 57, 3) := by decide +kernel
theorem dX11_open_33 : decode cX11_open 33 = .ok (.invokevirtual 154, 3) := by decide +kernel
theorem dX11_open_36 : decode cX11_open 36 = .ok (.aload_n 0, 1) := by decide +kernel
theorem dX11_open_37 : decode cX11_open 37 = .ok (.aload_n 0, 1) := by decide +kernel
theorem dX11_open_38 : decode cX11_open 38 = .ok (.getfield 155, 3) := by decide +kernel
theorem dX11_open_41 : decode cX11_open 41 = .ok (.putfield 158, 3) := by decide +kernel
theorem dX11_open_44 : decode cX11_open 44 = .ok (.iconst 1, 1) := by decide +kernel
theorem dX11_open_45 : decode cX11_open 45 = .ok (.ireturn, 1) := by decide +kernel
theorem dX11_close_0 : decode cX11_close 0 = .ok (.aload_n 0, 1) := by decide +kernel
theorem dX11_close_1 : decode cX11_close 1 = .ok (.getfield 75, 3) := by decide +kernel
theorem dX11_close_4 : decode cX11_close 4 = .ok (.ifCond .ne 6, 3) := by decide +kernel
theorem dX11_close_7 : decode cX11_close 7 = .ok (.bipush (-2), 2) := by decide +kernel
theorem dX11_close_9 : decode cX11_close 9 = .ok (.ireturn, 1) := by decide +kernel
theorem dX11_close_10 : decode cX11_close 10 = .ok (.aload_n 0, 1) := by decide +kernel
theorem dX11_close_11 : decode cX11_close 11 = .ok (.iconst 1, 1) := by decide +kernel
theorem dX11_close_12 : decode cX11_close 12 = .ok (.invokevirtual 161, 3) := by decide +kernel
theorem dX11_close_15 : decode cX11_close 15 = .ok (.iconst 1, 1) := by decide +kernel
theorem dX11_close_16 : decode cX11_close 16 = .ok (.ireturn, 1) := by decide +kernel
theorem dX11_come_0 : decode cX11_come 0 = .ok (.iload_n 1, 1) := by decide +kernel
theorem dX11_come_1 : decode cX11_come 1 = .ok (.iconst 1, 1) := by decide +kernel
theorem dX11_come_2 : decode cX11_come 2 = .ok (.if_icmp .lt 9, 3) := by decide +kernel
theorem dX11_come_5 : decode cX11_come 5 = .ok (.iload_n 1, 1) := by decide +kernel
theorem dX11_come_6 : decode cX11_come 6 = .ok (.bipush 8, 2) := by decide +kernel
theorem dX11_come_8 : decode cX11_come 8 = .ok (.if_icmp .le 5, 3) := by decide +kernel
theorem dX11_come_11 : decode cX11_come 11 = .ok (.iconst (-1), 1) := by decide +kernel
theorem dX11_come_12 : decode cX11_come 12 = .ok (.ireturn, 1) := by decide +kernel
theorem dX11_come_13 : decode cX11_come 13 = .ok (.aload_n 0, 1) := by decide +kernel
theorem dX11_come_14 : decode cX11_come 14 = .ok (.getfield 75, 3) := by decide +kernel
theorem dX11_come_17 : decode cX11_come 17 = .ok (.ifCond .ne 6, 3) := by decide +kernel
theorem dX11_come_20 : decode cX11_come 20 = .ok (.bipush (-2), 2) := by decide +kernel
theorem dX11_come_22 : decode cX11_come 22 = .ok (.ireturn, 1) := by decide +kernel
theorem dX11_come_23 : decode cX11_come 23 = .ok (.iconst 0, 1) := by decide +kernel
theorem dX11_come_24 : decode cX11_come 24 = .ok (.istore 4, 2) := by decide +kernel
theorem dX11_come_26 : decode cX11_come 26 = .ok (.iload_n 1, 1) := by decide +kernel
theorem dX11_come_27 : decode cX11_come 27 = .ok (.iconst 1, 1) := by decide +kernel
theorem dX11_come_28 : decode cX11_come 28 = .ok (.isub, 1) := by decide +kernel
theorem dX11_come_29 : decode cX11_come 29 = .ok (.istore 5, 2) := by decide +kernel
theorem dX11_come_31 : decode cX11_come 31 = .ok (.iload 5, 2) := by decide +kernel
theorem dX11_come_33 : decode cX11_come 33 = .ok (.ifCond .lt 96, 3) := by decide +kernel
theorem dX11_come_36 : decode cX11_come 36 = .ok (.aload_n 0, 1) := by decide +kernel
theorem dX11_come_37 : decode cX11_come 37 = .ok (.getfield 75, 3) := by decide +kernel
theorem dX11_come_40 : decode cX11_come 40 = .ok (.ifCond .eq 89, 3) := by decide +kernel
theorem dX11_come_43 : decode cX11_come 43 = .ok (.aload_n 0, 1) := by decide +kernel
theorem dX11_come_44 : decode cX11_come 44 = .ok (.getfield 57, 3) := by decide +kernel
theorem dX11_come_47 : decode cX11_come 47 = .ok (.lload_n 2, 1) := by decide +kernel
theorem dX11_come_48 : decode cX11_come 48 = .ok (.bipush 8, 2) := by decide +kernel
theorem dX11_come_50 : decode cX11_come 50 = .ok (.iload 5, 2) := by decide +kernel
theorem dX11_come_52 : decode cX11_come 52 = .ok (.imul, 1) := by decide +kernel
theorem dX11_come_53 : decode cX11_come 53 = .ok (.lshr, 1) := by decide +kernel
theorem dX11_come_54 : decode cX11_come 54 = .ok (.l2i, 1) := by decide +kernel
theorem dX11_come_55 : decode cX11_come 55 = .ok (.sipush 255, 3) := by decide +kernel
theorem dX11_come_58 : decode cX11_come 58 = .ok (.iand, 1) := by decide +kernel
theorem dX11_come_59 : decode cX11_come 59 = .ok (.invokevirtual 165, 3) := by decide +kernel
theorem dX11_come_62 : decode cX11_come 62 = .ok (.istore 6, 2) := by decide +kernel
theorem dX11_come_64 : decode cX11_come 64 = .ok (.iload 6, 2) := by decide +kernel
theorem dX11_come_66 : decode cX11_come 66 = .ok (.iconst 1, 1) := by decide +kernel
theorem dX11_come_67 : decode cX11_come 67 = .ok (.if_icmp .ne 11, 3) := by decide +kernel
theorem dX11_come_70 : decode cX11_come 70 = .ok (.aload_n 0, 1) := by decide +kernel
theorem dX11_come_71 : decode cX11_come 71 = .ok (.iconst 2, 1) := by decide +kernel
theorem dX11_come_72 : decode cX11_come 72 = .ok (.invokevirtual 161, 3) := by decide +kernel
theorem dX11_come_75 : decode cX11_come 75 = .ok (.goto 48, 3) := by decide +kernel
theorem dX11_come_78 : decode cX11_come 78 = .ok (.iload 6, 2) := by decide +kernel
theorem dX11_come_80 : decode cX11_come 80 = .ok (.iconst 2, 1) := by decide +kernel
theorem dX11_come_81 : decode cX11_come 81 = .ok (.if_icmp .ne 42, 3) := by decide +kernel
theorem dX11_come_84 : decode cX11_come 84 = .ok (.aload_n 0, 1) := by decide +kernel
theorem dX11_come_85 : decode cX11_come 85 = .ok (.invokevirtual 169, 3) := by decide +kernel
theorem dX11_come_88 : decode cX11_come 88 = .ok (.ifCond .eq 14, 3) := by decide +kernel
theorem dX11_come_91 : decode cX11_come 91 = .ok (.aload_n 0, 1) := by decide +kernel
theorem dX11_come_92 : decode cX11_come 92 = .ok (.aload_n 0, 1) := by decide +kernel
theorem dX11_come_93 : decode cX11_come 93 = .ok (.getfield 57, 3) := by decide +kernel
theorem dX11_come_96 : decode cX11_come 96 = .ok (.getfield 173, 3) := by decide +kernel
theorem dX11_come_99 : decode cX11_come 99 = .ok (.invokevirtual 177, 3) := by decide +kernel
theorem dX11_come_102 : decode cX11_come 102 = .ok (.aload_n 0, 1) := by decide +kernel
theorem dX11_come_103 : decode cX11_come 103 = .ok (.invokevirtual 181, 3) := by decide +kernel
theorem dX11_come_106 : decode cX11_come 106 = .ok (.iload 4, 2) := by decide +kernel
theorem dX11_come_108 : decode cX11_come 108 = .ok (.aload_n 0, 1) := by decide +kernel
theorem dX11_come_109 : decode cX11_come 109 = .ok (.getfield 75, 3) := by decide +kernel
theorem dX11_come_112 : decode cX11_come 112 = .ok (.ifCond .ne 7, 3) := by decide +kernel
theorem dX11_come_115 : decode cX11_come 115 = .ok (.iconst 0, 1) := by decide +kernel
theorem dX11_come_116 : decode cX11_come 116 = .ok (.goto 4, 3) := by decide +kernel
theorem dX11_come_119 : decode cX11_come 119 = .ok (.iconst 1, 1) := by decide +kernel
theorem dX11_come_120 : decode cX11_come 120 = .ok (.iadd, 1) := by decide +kernel
theorem dX11_come_121 : decode cX11_come 121 = .ok (.istore 4, 2) := by decide +kernel
theorem dX11_come_123 : decode cX11_come 123 = .ok (.iinc 5 (-1), 3) := by decide +kernel
theorem dX11_come_126 : decode cX11_come 126 = .ok (.goto (-95), 3) := by decide +kernel
theorem dX11_come_129 : decode cX11_come 129 = .ok (.iload 4, 2) := by decide +kernel
theorem dX11_come_131 : decode cX11_come 131 = .ok (.ireturn, 1) := by decide +kernel
theorem dX11_tick_0 : decode cX11_tick 0 = .ok (.iload_n 1, 1) := by decide +kernel
theorem dX11_tick_1 : decode cX11_tick 1 = .ok (.ifCond .lt 10, 3) := by decide +kernel
theorem dX11_tick_4 : decode cX11_tick 4 = .ok (.iload_n 1, 1) := by decide +kernel
theorem dX11_tick_5 : decode cX11_tick 5 = .ok (.sipush 1000, 3) := by decide +kernel
theorem dX11_tick_8 : decode cX11_tick 8 = .ok (.if_icmp .le 5, 3) := by decide +kernel
theorem dX11_tick_11 : decode cX11_tick 11 = .ok (.iconst (-1), 1) := by decide +kernel
theorem dX11_tick_12 : decode cX11_tick 12 = .ok (.ireturn, 1) := by decide +kernel
theorem dX11_tick_13 : decode cX11_tick 13 = .ok (.iconst 0, 1) := by decide +kernel
theorem dX11_tick_14 : decode cX11_tick 14 = .ok (.istore_n 2, 1) := by decide +kernel
theorem dX11_tick_15 : decode cX11_tick 15 = .ok (.iload_n 2, 1) := by decide +kernel
theorem dX11_tick_16 : decode cX11_tick 16 = .ok (.iload_n 1, 1) := by decide +kernel
theorem dX11_tick_17 : decode cX11_tick 17 = .ok (.if_icmp .ge 41, 3) := by decide +kernel
theorem dX11_tick_20 : decode cX11_tick 20 = .ok (.aload_n 0, 1) := by decide +kernel
theorem dX11_tick_21 : decode cX11_tick 21 = .ok (.getfield 36, 3) := by decide +kernel
theorem dX11_tick_24 : decode cX11_tick 24 = .ok (.invokevirtual 184, 3) := by decide +kernel
theorem dX11_tick_27 : decode cX11_tick 27 = .ok (.aload_n 0, 1) := by decide +kernel
theorem dX11_tick_28 : decode cX11_tick 28 = .ok (.dup, 1) := by decide +kernel
theorem dX11_tick_29 : decode cX11_tick 29 = .ok (.getfield 155, 3) := by decide +kernel
theorem dX11_tick_32 : decode cX11_tick 32 = .ok (.iconst 1, 1) := by decide +kernel
theorem dX11_tick_33 : decode cX11_tick 33 = .ok (.iadd, 1) := by decide +kernel
theorem dX11_tick_34 : decode cX11_tick 34 = .ok (.putfield 155, 3) := by decide +kernel
theorem dX11_tick_37 : decode cX11_tick 37 = .ok (.aload_n 0, 1) := by decide +kernel
theorem dX11_tick_38 : decode cX11_tick 38 = .ok (.getfield 75, 3) := by decide +kernel
theorem dX11_tick_41 : decode cX11_tick 41 = .ok (.ifCond .eq 11, 3) := by decide +kernel
theorem dX11_tick_44 : decode cX11_tick 44 = .ok (.aload_n 0, 1) := by decide +kernel
theorem dX11_tick_45 : decode cX11_tick 45 = .ok (.invokevirtual 187, 3) := by decide +kernel
theorem dX11_tick_48 : decode cX11_tick 48 = .ok (.aload_n 0, 1) := by decide +kernel
theorem dX11_tick_49 : decode cX11_tick 49 = .ok (.invokevirtual 145, 3) := by decide +kernel
theorem dX11_tick_52 : decode cX11_tick 52 = .ok (.iinc 2 1, 3) := by decide +kernel
theorem dX11_tick_55 : decode cX11_tick 55 = .ok (.goto (-40), 3) := by decide +kernel
theorem dX11_tick_58 : decode cX11_tick 58 = .ok (.aload_n 0, 1) := by decide +kernel
theorem dX11_tick_59 : decode cX11_tick 59 = .ok (.getfield 75, 3) := by decide +kernel
theorem dX11_tick_62 : decode cX11_tick 62 = .ok (.ireturn, 1) := by decide +kernel
theorem dX11_out_0 : decode cX11_out 0 = .ok (.iload_n 1, 1) := by decide +kernel
theorem dX11_out_1 : decode cX11_out 1 = .ok (.ifCond .lt 14, 3) := by decide +kernel
theorem dX11_out_4 : decode cX11_out 4 = .ok (.iload_n 1, 1) := by decide +kernel
theorem dX11_out_5 : decode cX11_out 5 = .ok (.aload_n 0, 1) := by decide +kernel
theorem dX11_out_6 : decode cX11_out 6 = .ok (.getfield 71, 3) := by decide +kernel
theorem dX11_out_9 : decode cX11_out 9 = .ok (.getfield 190, 3) := by decide +kernel
theorem dX11_out_12 : decode cX11_out 12 = .ok (.if_icmp .lt 5, 3) := by decide +kernel
theorem dX11_out_15 : decode cX11_out 15 = .ok (.iconst (-1), 1) := by decide +kernel
theorem dX11_out_16 : decode cX11_out 16 = .ok (.ireturn, 1) := by decide +kernel
theorem dX11_out_17 : decode cX11_out 17 = .ok (.aload_n 0, 1) := by decide +kernel
theorem dX11_out_18 : decode cX11_out 18 = .ok (.getfield 71, 3) := by decide +kernel
theorem dX11_out_21 : decode cX11_out 21 = .ok (.iload_n 1, 1) := by decide +kernel
theorem dX11_out_22 : decode cX11_out 22 = .ok (.invokevirtual 193, 3) := by decide +kernel
theorem dX11_out_25 : decode cX11_out 25 = .ok (.ireturn, 1) := by decide +kernel
theorem dX11_take_0 : decode cX11_take 0 = .ok (.iload_n 1, 1) := by decide +kernel
theorem dX11_take_1 : decode cX11_take 1 = .ok (.ifCond .lt 14, 3) := by decide +kernel
theorem dX11_take_4 : decode cX11_take 4 = .ok (.iload_n 1, 1) := by decide +kernel
theorem dX11_take_5 : decode cX11_take 5 = .ok (.aload_n 0, 1) := by decide +kernel
theorem dX11_take_6 : decode cX11_take 6 = .ok (.getfield 71, 3) := by decide +kernel
theorem dX11_take_9 : decode cX11_take 9 = .ok (.getfield 190, 3) := by decide +kernel
theorem dX11_take_12 : decode cX11_take 12 = .ok (.if_icmp .le 5, 3) := by decide +kernel
theorem dX11_take_15 : decode cX11_take 15 = .ok (.iconst (-1), 1) := by decide +kernel
theorem dX11_take_16 : decode cX11_take 16 = .ok (.ireturn, 1) := by decide +kernel
theorem dX11_take_17 : decode cX11_take 17 = .ok (.aload_n 0, 1) := by decide +kernel
theorem dX11_take_18 : decode cX11_take 18 = .ok (.getfield 71, 3) := by decide +kernel
theorem dX11_take_21 : decode cX11_take 21 = .ok (.iload_n 1, 1) := by decide +kernel
theorem dX11_take_22 : decode cX11_take 22 = .ok (.invokevirtual 195, 3) := by decide +kernel
theorem dX11_take_25 : decode cX11_take 25 = .ok (.aload_n 0, 1) := by decide +kernel
theorem dX11_take_26 : decode cX11_take 26 = .ok (.getfield 71, 3) := by decide +kernel
theorem dX11_take_29 : decode cX11_take 29 = .ok (.getfield 190, 3) := by decide +kernel
theorem dX11_take_32 : decode cX11_take 32 = .ok (.ireturn, 1) := by decide +kernel
theorem dX11_told_0 : decode cX11_told 0 = .ok (.aload_n 0, 1) := by decide +kernel
theorem dX11_told_1 : decode cX11_told 1 = .ok (.getfield 16, 3) := by decide +kernel
theorem dX11_told_4 : decode cX11_told 4 = .ok (.iload_n 1, 1) := by decide +kernel
theorem dX11_told_5 : decode cX11_told 5 = .ok (.invokevirtual 101, 3) := by decide +kernel
theorem dX11_told_8 : decode cX11_told 8 = .ok (.astore_n 3, 1) := by decide +kernel
theorem dX11_told_9 : decode cX11_told 9 = .ok (.aload_n 3, 1) := by decide +kernel
theorem dX11_told_10 : decode cX11_told 10 = .ok (.ifnonnull 5, 3) := by decide +kernel
theorem dX11_told_13 : decode cX11_told 13 = .ok (.iconst 0, 1) := by decide +kernel
theorem dX11_told_14 : decode cX11_told 14 = .ok (.ireturn, 1) := by decide +kernel
theorem dX11_told_15 : decode cX11_told 15 = .ok (.iload_n 2, 1) := by decide +kernel
theorem dX11_told_16 : decode cX11_told 16 = .ok (.tableswitch 87 0 6 #[44, 49, 54, 59, 72, 77, 82], 44) := by decide +kernel
theorem dX11_told_60 : decode cX11_told 60 = .ok (.aload_n 3, 1) := by decide +kernel
theorem dX11_told_61 : decode cX11_told 61 = .ok (.getfield 105, 3) := by decide +kernel
theorem dX11_told_64 : decode cX11_told 64 = .ok (.ireturn, 1) := by decide +kernel
theorem dX11_told_65 : decode cX11_told 65 = .ok (.aload_n 3, 1) := by decide +kernel
theorem dX11_told_66 : decode cX11_told 66 = .ok (.getfield 198, 3) := by decide +kernel
theorem dX11_told_69 : decode cX11_told 69 = .ok (.ireturn, 1) := by decide +kernel
theorem dX11_told_70 : decode cX11_told 70 = .ok (.aload_n 3, 1) := by decide +kernel
theorem dX11_told_71 : decode cX11_told 71 = .ok (.getfield 201, 3) := by decide +kernel
theorem dX11_told_74 : decode cX11_told 74 = .ok (.ireturn, 1) := by decide +kernel
theorem dX11_told_75 : decode cX11_told 75 = .ok (.aload_n 3, 1) := by decide +kernel
theorem dX11_told_76 : decode cX11_told 76 = .ok (.getfield 204, 3) := by decide +kernel
theorem dX11_told_79 : decode cX11_told 79 = .ok (.ifCond .eq 7, 3) := by decide +kernel
theorem dX11_told_82 : decode cX11_told 82 = .ok (.iconst 1, 1) := by decide +kernel
theorem dX11_told_83 : decode cX11_told 83 = .ok (.goto 4, 3) := by decide +kernel
theorem dX11_told_86 : decode cX11_told 86 = .ok (.iconst 0, 1) := by decide +kernel
theorem dX11_told_87 : decode cX11_told 87 = .ok (.ireturn, 1) := by decide +kernel
theorem dX11_told_88 : decode cX11_told 88 = .ok (.aload_n 3, 1) := by decide +kernel
theorem dX11_told_89 : decode cX11_told 89 = .ok (.getfield 121, 3) := by decide +kernel
theorem dX11_told_92 : decode cX11_told 92 = .ok (.ireturn, 1) := by decide +kernel
theorem dX11_told_93 : decode cX11_told 93 = .ok (.aload_n 3, 1) := by decide +kernel
theorem dX11_told_94 : decode cX11_told 94 = .ok (.getfield 124, 3) := by decide +kernel
theorem dX11_told_97 : decode cX11_told 97 = .ok (.ireturn, 1) := by decide +kernel
theorem dX11_told_98 : decode cX11_told 98 = .ok (.aload_n 3, 1) := by decide +kernel
theorem dX11_told_99 : decode cX11_told 99 = .ok (.getfield 208, 3) := by decide +kernel
theorem dX11_told_102 : decode cX11_told 102 = .ok (.ireturn, 1) := by decide +kernel
theorem dX11_told_103 : decode cX11_told 103 = .ok (.iconst 0, 1) := by decide +kernel
theorem dX11_told_104 : decode cX11_told 104 = .ok (.ireturn, 1) := by decide +kernel
theorem dX11_ordered_0 : decode cX11_ordered 0 = .ok (.iload_n 1, 1) := by decide +kernel
theorem dX11_ordered_1 : decode cX11_ordered 1 = .ok (.ifCond .lt 17, 3) := by decide +kernel
theorem dX11_ordered_4 : decode cX11_ordered 4 = .ok (.iload_n 1, 1) := by decide +kernel
theorem dX11_ordered_5 : decode cX11_ordered 5 = .ok (.aload_n 0, 1) := by decide +kernel
theorem dX11_ordered_6 : decode cX11_ordered 6 = .ok (.getfield 111, 3) := by decide +kernel
theorem dX11_ordered_9 : decode cX11_ordered 9 = .ok (.if_icmp .ge 9, 3) := by decide +kernel
theorem dX11_ordered_12 : decode cX11_ordered 12 = .ok (.iload_n 1, 1) := by decide +kernel
theorem dX11_ordered_13 : decode cX11_ordered 13 = .ok (.bipush 12, 2) := by decide +kernel
theorem dX11_ordered_15 : decode cX11_ordered 15 = .ok (.if_icmp .lt 5, 3) := by decide +kernel
theorem dX11_ordered_18 : decode cX11_ordered 18 = .ok (.iconst (-1), 1) := by decide +kernel
theorem dX11_ordered_19 : decode cX11_ordered 19 = .ok (.ireturn, 1) := by decide +kernel
theorem dX11_ordered_20 : decode cX11_ordered 20 = .ok (.aload_n 0, 1) := by decide +kernel
theorem dX11_ordered_21 : decode cX11_ordered 21 = .ok (.getfield 22, 3) := by decide +kernel
theorem dX11_ordered_24 : decode cX11_ordered 24 = .ok (.iload_n 1, 1) := by decide +kernel
theorem dX11_ordered_25 : decode cX11_ordered 25 = .ok (.aaload, 1) := by decide +kernel
theorem dX11_ordered_26 : decode cX11_ordered 26 = .ok (.astore_n 3, 1) := by decide +kernel
theorem dX11_ordered_27 : decode cX11_ordered 27 = .ok (.aload_n 3, 1) := by decide +kernel
theorem dX11_ordered_28 : decode cX11_ordered 28 = .ok (.ifnonnull 5, 3) := by decide +kernel
theorem dX11_ordered_31 : decode cX11_ordered 31 = .ok (.iconst (-1), 1) := by decide +kernel
theorem dX11_ordered_32 : decode cX11_ordered 32 = .ok (.ireturn, 1) := by decide +kernel
theorem dX11_ordered_33 : decode cX11_ordered 33 = .ok (.aload_n 0, 1) := by decide +kernel
theorem dX11_ordered_34 : decode cX11_ordered 34 = .ok (.getfield 29, 3) := by decide +kernel
theorem dX11_ordered_37 : decode cX11_ordered 37 = .ok (.aload_n 3, 1) := by decide +kernel
theorem dX11_ordered_38 : decode cX11_ordered 38 = .ok (.invokevirtual 211, 3) := by decide +kernel
theorem dX11_ordered_41 : decode cX11_ordered 41 = .ok (.istore 4, 2) := by decide +kernel
theorem dX11_ordered_43 : decode cX11_ordered 43 = .ok (.iload_n 2, 1) := by decide +kernel
theorem dX11_ordered_44 : decode cX11_ordered 44 = .ok (.tableswitch 61 0 2 #[28, 39, 56], 28) := by decide +kernel
theorem dX11_ordered_72 : decode cX11_ordered 72 = .ok (.iload 4, 2) := by decide +kernel
theorem dX11_ordered_74 : decode cX11_ordered 74 = .ok (.ifCond .eq 7, 3) := by decide +kernel
theorem dX11_ordered_77 : decode cX11_ordered 77 = .ok (.iconst 1, 1) := by decide +kernel
theorem dX11_ordered_78 : decode cX11_ordered 78 = .ok (.goto 4, 3) := by decide +kernel
theorem dX11_ordered_81 : decode cX11_ordered 81 = .ok (.iconst 0, 1) := by decide +kernel
theorem dX11_ordered_82 : decode cX11_ordered 82 = .ok (.ireturn, 1) := by decide +kernel
theorem dX11_ordered_83 : decode cX11_ordered 83 = .ok (.iload 4, 2) := by decide +kernel
theorem dX11_ordered_85 : decode cX11_ordered 85 = .ok (.ifCond .eq 13, 3) := by decide +kernel
theorem dX11_ordered_88 : decode cX11_ordered 88 = .ok (.aload_n 0, 1) := by decide +kernel
theorem dX11_ordered_89 : decode cX11_ordered 89 = .ok (.getfield 29, 3) := by decide +kernel
theorem dX11_ordered_92 : decode cX11_ordered 92 = .ok (.getfield 215, 3) := by decide +kernel
theorem dX11_ordered_95 : decode cX11_ordered 95 = .ok (.goto 4, 3) := by decide +kernel
theorem dX11_ordered_98 : decode cX11_ordered 98 = .ok (.iconst 0, 1) := by decide +kernel
theorem dX11_ordered_99 : decode cX11_ordered 99 = .ok (.ireturn, 1) := by decide +kernel
theorem dX11_ordered_100 : decode cX11_ordered 100 = .ok (.aload_n 3, 1) := by decide +kernel
theorem dX11_ordered_101 : decode cX11_ordered 101 = .ok (.getfield 218, 3) := by decide +kernel
theorem dX11_ordered_104 : decode cX11_ordered 104 = .ok (.ireturn, 1) := by decide +kernel
theorem dX11_ordered_105 : decode cX11_ordered 105 = .ok (.iconst (-1), 1) := by decide +kernel
theorem dX11_ordered_106 : decode cX11_ordered 106 = .ok (.ireturn, 1) := by decide +kernel
theorem dX11_clock_0 : decode cX11_clock 0 = .ok (.iload_n 1, 1) := by decide +kernel
theorem dX11_clock_1 : decode cX11_clock 1 = .ok (.tableswitch 107 0 6 #[43, 51, 59, 67, 75, 83, 91], 43) := by decide +kernel
theorem dX11_clock_44 : decode cX11_clock 44 = .ok (.aload_n 0, 1) := by decide +kernel
theorem dX11_clock_45 : decode cX11_clock 45 = .ok (.getfield 36, 3) := by decide +kernel
theorem dX11_clock_48 : decode cX11_clock 48 = .ok (.getfield 221, 3) := by decide +kernel
theorem dX11_clock_51 : decode cX11_clock 51 = .ok (.ireturn, 1) := by decide +kernel
theorem dX11_clock_52 : decode cX11_clock 52 = .ok (.aload_n 0, 1) := by decide +kernel
theorem dX11_clock_53 : decode cX11_clock 53 = .ok (.getfield 36, 3) := by decide +kernel
theorem dX11_clock_56 : decode cX11_clock 56 = .ok (.getfield 224, 3) := by decide +kernel
theorem dX11_clock_59 : decode cX11_clock 59 = .ok (.ireturn, 1) := by decide +kernel
theorem dX11_clock_60 : decode cX11_clock 60 = .ok (.aload_n 0, 1) := by decide +kernel
theorem dX11_clock_61 : decode cX11_clock 61 = .ok (.getfield 36, 3) := by decide +kernel
theorem dX11_clock_64 : decode cX11_clock 64 = .ok (.getfield 227, 3) := by decide +kernel
theorem dX11_clock_67 : decode cX11_clock 67 = .ok (.ireturn, 1) := by decide +kernel
theorem dX11_clock_68 : decode cX11_clock 68 = .ok (.aload_n 0, 1) := by decide +kernel
theorem dX11_clock_69 : decode cX11_clock 69 = .ok (.getfield 36, 3) := by decide +kernel
theorem dX11_clock_72 : decode cX11_clock 72 = .ok (.getfield 230, 3) := by decide +kernel
theorem dX11_clock_75 : decode cX11_clock 75 = .ok (.ireturn, 1) := by decide +kernel
theorem dX11_clock_76 : decode cX11_clock 76 = .ok (.aload_n 0, 1) := by decide +kernel
theorem dX11_clock_77 : decode cX11_clock 77 = .ok (.getfield 36, 3) := by decide +kernel
theorem dX11_clock_80 : decode cX11_clock 80 = .ok (.getfield 233, 3) := by decide +kernel
theorem dX11_clock_83 : decode cX11_clock 83 = .ok (.ireturn, 1) := by decide +kernel
theorem dX11_clock_84 : decode cX11_clock 84 = .ok (.aload_n 0, 1) := by decide +kernel
theorem dX11_clock_85 : decode cX11_clock 85 = .ok (.getfield 36, 3) := by decide +kernel
theorem dX11_clock_88 : decode cX11_clock 88 = .ok (.getfield 236, 3) := by decide +kernel
theorem dX11_clock_91 : decode cX11_clock 91 = .ok (.ireturn, 1) := by decide +kernel
theorem dX11_clock_92 : decode cX11_clock 92 = .ok (.aload_n 0, 1) := by decide +kernel
theorem dX11_clock_93 : decode cX11_clock 93 = .ok (.getfield 36, 3) := by decide +kernel
theorem dX11_clock_96 : decode cX11_clock 96 = .ok (.getfield 239, 3) := by decide +kernel
theorem dX11_clock_99 : decode cX11_clock 99 = .ok (.ifCond .eq 7, 3) := by decide +kernel
theorem dX11_clock_102 : decode cX11_clock 102 = .ok (.iconst 1, 1) := by decide +kernel
theorem dX11_clock_103 : decode cX11_clock 103 = .ok (.goto 4, 3) := by decide +kernel
theorem dX11_clock_106 : decode cX11_clock 106 = .ok (.iconst 0, 1) := by decide +kernel
theorem dX11_clock_107 : decode cX11_clock 107 = .ok (.ireturn, 1) := by decide +kernel
theorem dX11_clock_108 : decode cX11_clock 108 = .ok (.iconst (-1), 1) := by decide +kernel
theorem dX11_clock_109 : decode cX11_clock 109 = .ok (.ireturn, 1) := by decide +kernel
theorem dX11_count_0 : decode cX11_count 0 = .ok (.iload_n 1, 1) := by decide +kernel
theorem dX11_count_1 : decode cX11_count 1 = .ok (.tableswitch 173 0 13 #[71, 76, 81, 89, 97, 105, 113, 121, 129, 137, 150, 155, 160, 168], 71) := by decide +kernel
theorem dX11_count_72 : decode cX11_count 72 = .ok (.aload_n 0, 1) := by decide +kernel
theorem dX11_count_73 : decode cX11_count 73 = .ok (.getfield 75, 3) := by decide +kernel
theorem dX11_count_76 : decode cX11_count 76 = .ok (.ireturn, 1) := by decide +kernel
theorem dX11_count_77 : decode cX11_count 77 = .ok (.aload_n 0, 1) := by decide +kernel
theorem dX11_count_78 : decode cX11_count 78 = .ok (.getfield 242, 3) := by decide +kernel
theorem dX11_count_81 : decode cX11_count 81 = .ok (.ireturn, 1) := by decide +kernel
theorem dX11_count_82 : decode cX11_count 82 = .ok (.aload_n 0, 1) := by decide +kernel
theorem dX11_count_83 : decode cX11_count 83 = .ok (.getfield 71, 3) := by decide +kernel
theorem dX11_count_86 : decode cX11_count 86 = .ok (.getfield 190, 3) := by decide +kernel
theorem dX11_count_89 : decode cX11_count 89 = .ok (.ireturn, 1) := by decide +kernel
theorem dX11_count_90 : decode cX11_count 90 = .ok (.aload_n 0, 1) := by decide +kernel
theorem dX11_count_91 : decode cX11_count 91 = .ok (.getfield 64, 3) := by decide +kernel
theorem dX11_count_94 : decode cX11_count 94 = .ok (.getfield 245, 3) := by decide +kernel
theorem dX11_count_97 : decode cX11_count 97 = .ok (.ireturn, 1) := by decide +kernel
theorem dX11_count_98 : decode cX11_count 98 = .ok (.aload_n 0, 1) := by decide +kernel
theorem dX11_count_99 : decode cX11_count 99 = .ok (.getfield 64, 3) := by decide +kernel
theorem dX11_count_102 : decode cX11_count 102 = .ok (.getfield 248, 3) := by decide +kernel
theorem dX11_count_105 : decode cX11_count 105 = .ok (.ireturn, 1) := by decide +kernel
theorem dX11_count_106 : decode cX11_count 106 = .ok (.aload_n 0, 1) := by decide +kernel
theorem dX11_count_107 : decode cX11_count 107 = .ok (.getfield 57, 3) := by decide +kernel
theorem dX11_count_110 : decode cX11_count 110 = .ok (.getfield 251, 3) := by decide +kernel
theorem dX11_count_113 : decode cX11_count 113 = .ok (.ireturn, 1) := by decide +kernel
theorem dX11_count_114 : decode cX11_count 114 = .ok (.aload_n 0, 1) := by decide +kernel
theorem dX11_count_115 : decode cX11_count 115 = .ok (.getfield 57, 3) := by decide +kernel
theorem dX11_count_118 : decode cX11_count 118 = .ok (.getfield 254, 3) := by decide +kernel
theorem dX11_count_121 : decode cX11_count 121 = .ok (.ireturn, 1) := by decide +kernel
theorem dX11_count_122 : decode cX11_count 122 = .ok (.aload_n 0, 1) := by decide +kernel
theorem dX11_count_123 : decode cX11_count 123 = .ok (.getfield 50, 3) := by decide +kernel
theorem dX11_count_126 : decode cX11_count 126 = .ok (.getfield 257, 3) := by decide +kernel
theorem dX11_count_129 : decode cX11_count 129 = .ok (.ireturn, 1) := by decide +kernel
theorem dX11_count_130 : decode cX11_count 130 = .ok (.aload_n 0, 1) := by decide +kernel
theorem dX11_count_131 : decode cX11_count 131 = .ok (.getfield 43, 3) := by decide +kernel
theorem dX11_count_134 : decode cX11_count 134 = .ok (.invokevirtual 127, 3) := by decide +kernel
theorem dX11_count_137 : decode cX11_count 137 = .ok (.ireturn, 1) := by decide +kernel
theorem dX11_count_138 : decode cX11_count 138 = .ok (.aload_n 0, 1) := by decide +kernel
theorem dX11_count_139 : decode cX11_count 139 = .ok (.getfield 258, 3) := by decide +kernel
theorem dX11_count_142 : decode cX11_count 142 = .ok (.ifCond .eq 7, 3) := by decide +kernel
theorem dX11_count_145 : decode cX11_count 145 = .ok (.iconst 1, 1) := by decide +kernel
theorem dX11_count_146 : decode cX11_count 146 = .ok (.goto 4, 3) := by decide +kernel
theorem dX11_count_149 : decode cX11_count 149 = .ok (.iconst 0, 1) := by decide +kernel
theorem dX11_count_150 : decode cX11_count 150 = .ok (.ireturn, 1) := by decide +kernel
theorem dX11_count_151 : decode cX11_count 151 = .ok (.aload_n 0, 1) := by decide +kernel
theorem dX11_count_152 : decode cX11_count 152 = .ok (.getfield 261, 3) := by decide +kernel
theorem dX11_count_155 : decode cX11_count 155 = .ok (.ireturn, 1) := by decide +kernel
theorem dX11_count_156 : decode cX11_count 156 = .ok (.aload_n 0, 1) := by decide +kernel
theorem dX11_count_157 : decode cX11_count 157 = .ok (.getfield 131, 3) := by decide +kernel
theorem dX11_count_160 : decode cX11_count 160 = .ok (.ireturn, 1) := by decide +kernel
theorem dX11_count_161 : decode cX11_count 161 = .ok (.aload_n 0, 1) := by decide +kernel
theorem dX11_count_162 : decode cX11_count 162 = .ok (.getfield 16, 3) := by decide +kernel
theorem dX11_count_165 : decode cX11_count 165 = .ok (.getfield 89, 3) := by decide +kernel
theorem dX11_count_168 : decode cX11_count 168 = .ok (.ireturn, 1) := by decide +kernel
theorem dX11_count_169 : decode cX11_count 169 = .ok (.aload_n 0, 1) := by decide +kernel
theorem dX11_count_170 : decode cX11_count 170 = .ok (.getfield 111, 3) := by decide +kernel
theorem dX11_count_173 : decode cX11_count 173 = .ok (.ireturn, 1) := by decide +kernel
theorem dX11_count_174 : decode cX11_count 174 = .ok (.iconst (-1), 1) := by decide +kernel
theorem dX11_count_175 : decode cX11_count 175 = .ok (.ireturn, 1) := by decide +kernel
theorem dX11_isFreeAddress_0 : decode cX11_isFreeAddress 0 = .ok (.iload_n 1, 1) := by decide +kernel
theorem dX11_isFreeAddress_1 : decode cX11_isFreeAddress 1 = .ok (.iconst 1, 1) := by decide +kernel
theorem dX11_isFreeAddress_2 : decode cX11_isFreeAddress 2 = .ok (.if_icmp .lt 33, 3) := by decide +kernel
theorem dX11_isFreeAddress_5 : decode cX11_isFreeAddress 5 = .ok (.iload_n 1, 1) := by decide +kernel
theorem dX11_isFreeAddress_6 : decode cX11_isFreeAddress 6 = .ok (.ldc_w 264, 3) := by decide +kernel
theorem dX11_isFreeAddress_9 : decode cX11_isFreeAddress 9 = .ok (.if_icmp .gt 26, 3) := by decide +kernel
theorem dX11_isFreeAddress_12 : decode cX11_isFreeAddress 12 = .ok (.aload_n 0, 1) := by decide +kernel
theorem dX11_isFreeAddress_13 : decode cX11_isFreeAddress 13 = .ok (.getfield 16, 3) := by decide +kernel
theorem dX11_isFreeAddress_16 : decode cX11_isFreeAddress 16 = .ok (.iload_n 1, 1) := by decide +kernel
theorem dX11_isFreeAddress_17 : decode cX11_isFreeAddress 17 = .ok (.invokevirtual 265, 3) := by decide +kernel
theorem dX11_isFreeAddress_20 : decode cX11_isFreeAddress 20 = .ok (.ifnonnull 15, 3) := by decide +kernel
theorem dX11_isFreeAddress_23 : decode cX11_isFreeAddress 23 = .ok (.aload_n 0, 1) := by decide +kernel
theorem dX11_isFreeAddress_24 : decode cX11_isFreeAddress 24 = .ok (.iload_n 1, 1) := by decide +kernel
theorem dX11_isFreeAddress_25 : decode cX11_isFreeAddress 25 = .ok (.invokevirtual 268, 3) := by decide +kernel
theorem dX11_isFreeAddress_28 : decode cX11_isFreeAddress 28 = .ok (.ifnonnull 7, 3) := by decide +kernel
theorem dX11_isFreeAddress_31 : decode cX11_isFreeAddress 31 = .ok (.iconst 1, 1) := by decide +kernel
theorem dX11_isFreeAddress_32 : decode cX11_isFreeAddress 32 = .ok (.goto 4, 3) := by decide +kernel
theorem dX11_isFreeAddress_35 : decode cX11_isFreeAddress 35 = .ok (.iconst 0, 1) := by decide +kernel
theorem dX11_isFreeAddress_36 : decode cX11_isFreeAddress 36 = .ok (.ireturn, 1) := by decide +kernel
theorem dX11_commandWith_0 : decode cX11_commandWith 0 = .ok (.iconst 0, 1) := by decide +kernel
theorem dX11_commandWith_1 : decode cX11_commandWith 1 = .ok (.istore_n 2, 1) := by decide +kernel
theorem dX11_commandWith_2 : decode cX11_commandWith 2 = .ok (.iload_n 2, 1) := by decide +kernel
theorem dX11_commandWith_3 : decode cX11_commandWith 3 = .ok (.aload_n 0, 1) := by decide +kernel
theorem dX11_commandWith_4 : decode cX11_commandWith 4 = .ok (.getfield 111, 3) := by decide +kernel
theorem dX11_commandWith_7 : decode cX11_commandWith 7 = .ok (.if_icmp .ge 36, 3) := by decide +kernel
theorem dX11_commandWith_10 : decode cX11_commandWith 10 = .ok (.iload_n 2, 1) := by decide +kernel
theorem dX11_commandWith_11 : decode cX11_commandWith 11 = .ok (.bipush 12, 2) := by decide +kernel
theorem dX11_commandWith_13 : decode cX11_commandWith 13 = .ok (.if_icmp .ge 30, 3) := by decide +kernel
theorem dX11_commandWith_16 : decode cX11_commandWith 16 = .ok (.aload_n 0, 1) := by decide +kernel
theorem dX11_commandWith_17 : decode cX11_commandWith 17 = .ok (.getfield 22, 3) := by decide +kernel
theorem dX11_commandWith_20 : decode cX11_commandWith 20 = .ok (.iload_n 2, 1) := by decide +kernel
theorem dX11_commandWith_21 : decode cX11_commandWith 21 = .ok (.aaload, 1) := by decide +kernel
theorem dX11_commandWith_22 : decode cX11_commandWith 22 = .ok (.astore_n 3, 1) := by decide +kernel
theorem dX11_commandWith_23 : decode cX11_commandWith 23 = .ok (.aload_n 3, 1) := by decide +kernel
theorem dX11_commandWith_24 : decode cX11_commandWith 24 = .ok (.ifnull 13, 3) := by decide +kernel
theorem dX11_commandWith_27 : decode cX11_commandWith 27 = .ok (.aload_n 3, 1) := by decide +kernel
theorem dX11_commandWith_28 : decode cX11_commandWith 28 = .ok (.getfield 272, 3) := by decide +kernel
theorem dX11_commandWith_31 : decode cX11_commandWith 31 = .ok (.iload_n 1, 1) := by decide +kernel
theorem dX11_commandWith_32 : decode cX11_commandWith 32 = .ok (.if_icmp .ne 5, 3) := by decide +kernel
theorem dX11_commandWith_35 : decode cX11_commandWith 35 = .ok (.aload_n 3, 1) := by decide +kernel
theorem dX11_commandWith_36 : decode cX11_commandWith 36 = .ok (.areturn, 1) := by decide +kernel
theorem dX11_commandWith_37 : decode cX11_commandWith 37 = .ok (.iinc 2 1, 3) := by decide +kernel
theorem dX11_commandWith_40 : decode cX11_commandWith 40 = .ok (.goto (-38), 3) := by decide +kernel
theorem dX11_commandWith_43 : decode cX11_commandWith 43 = .ok (.aconst_null, 1) := by decide +kernel
theorem dX11_commandWith_44 : decode cX11_commandWith 44 = .ok (.areturn, 1) := by decide +kernel
theorem dX11_shut_0 : decode cX11_shut 0 = .ok (.aload_n 0, 1) := by decide +kernel
theorem dX11_shut_1 : decode cX11_shut 1 = .ok (.iconst 0, 1) := by decide +kernel
theorem dX11_shut_2 : decode cX11_shut 2 = .ok (.putfield 75, 3) := by decide +kernel
theorem dX11_shut_5 : decode cX11_shut 5 = .ok (.aload_n 0, 1) := by decide +kernel
theorem dX11_shut_6 : decode cX11_shut 6 = .ok (.iload_n 1, 1) := by decide +kernel
theorem dX11_shut_7 : decode cX11_shut 7 = .ok (.putfield 242, 3) := by decide +kernel
theorem dX11_shut_10 : decode cX11_shut 10 = .ok (.aload_n 0, 1) := by decide +kernel
theorem dX11_shut_11 : decode cX11_shut 11 = .ok (.getfield 50, 3) := by decide +kernel
theorem dX11_shut_14 : decode cX11_shut 14 = .ok (.invokevirtual 273, 3) := by decide +kernel
theorem dX11_shut_17 : decode cX11_shut 17 = .ok (.aload_n 0, 1) := by decide +kernel
theorem dX11_shut_18 : decode cX11_shut 18 = .ok (.getfield 29, 3) := by decide +kernel
theorem dX11_shut_21 : decode cX11_shut 21 = .ok (.invokevirtual 274, 3) := by decide +kernel
theorem dX11_shut_24 : decode cX11_shut 24 = .ok (.aload_n 0, 1) := by decide +kernel
theorem dX11_shut_25 : decode cX11_shut 25 = .ok (.getfield 43, 3) := by decide +kernel
theorem dX11_shut_28 : decode cX11_shut 28 = .ok (.invokevirtual 277, 3) := by decide +kernel
theorem dX11_shut_31 : decode cX11_shut 31 = .ok (.aload_n 0, 1) := by decide +kernel
theorem dX11_shut_32 : decode cX11_shut 32 = .ok (.getfield 64, 3) := by decide +kernel
theorem dX11_shut_35 : decode cX11_shut 35 = .ok (.invokevirtual 280, 3) := by decide +kernel
theorem dX11_shut_38 : decode cX11_shut 38 = .ok (.aload_n 0, 1) := by decide +kernel
theorem dX11_shut_39 : decode cX11_shut 39 = .ok (.getfield 57, 3) := by decide +kernel
theorem dX11_shut_42 : decode cX11_shut 42 = .ok (.invokevirtual 283, 3) := by decide +kernel
theorem dX11_shut_45 : decode cX11_shut 45 = .ok (.aload_n 0, 1) := by decide +kernel
theorem dX11_shut_46 : decode cX11_shut 46 = .ok (.iconst 0, 1) := by decide +kernel
theorem dX11_shut_47 : decode cX11_shut 47 = .ok (.putfield 258, 3) := by decide +kernel
theorem dX11_shut_50 : decode cX11_shut 50 = .ok (.return_, 1) := by decide +kernel
theorem dX11_runTimers_0 : decode cX11_runTimers 0 = .ok (.aload_n 0, 1) := by decide +kernel
theorem dX11_runTimers_1 : decode cX11_runTimers 1 = .ok (.getfield 64, 3) := by decide +kernel
theorem dX11_runTimers_4 : decode cX11_runTimers 4 = .ok (.getfield 248, 3) := by decide +kernel
theorem dX11_runTimers_7 : decode cX11_runTimers 7 = .ok (.ifCond .le 27, 3) := by decide +kernel
theorem dX11_runTimers_10 : decode cX11_runTimers 10 = .ok (.aload_n 0, 1) := by decide +kernel
theorem dX11_runTimers_11 : decode cX11_runTimers 11 = .ok (.aload_n 0, 1) := by decide +kernel
theorem dX11_runTimers_12 : decode cX11_runTimers 12 = .ok (.getfield 64, 3) := by decide +kernel
theorem dX11_runTimers_15 : decode cX11_runTimers 15 = .ok (.invokevirtual 284, 3) := by decide +kernel
theorem dX11_runTimers_18 : decode cX11_runTimers 18 = .ok (.aload_n 0, 1) := by decide +kernel
theorem dX11_runTimers_19 : decode cX11_runTimers 19 = .ok (.getfield 7, 3) := by decide +kernel
theorem dX11_runTimers_22 : decode cX11_runTimers 22 = .ok (.iconst 3, 1) := by decide +kernel
theorem dX11_runTimers_23 : decode cX11_runTimers 23 = .ok (.iaload, 1) := by decide +kernel
theorem dX11_runTimers_24 : decode cX11_runTimers 24 = .ok (.invokevirtual 287, 3) := by decide +kernel
theorem dX11_runTimers_27 : decode cX11_runTimers 27 = .ok (.ifCond .eq 7, 3) := by decide +kernel
theorem dX11_runTimers_30 : decode cX11_runTimers 30 = .ok (.iconst 1, 1) := by decide +kernel
theorem dX11_runTimers_31 : decode cX11_runTimers 31 = .ok (.goto 4, 3) := by decide +kernel
theorem dX11_runTimers_34 : decode cX11_runTimers 34 = .ok (.iconst 0, 1) := by decide +kernel
theorem dX11_runTimers_35 : decode cX11_runTimers 35 = .ok (.istore_n 1, 1) := by decide +kernel
theorem dX11_runTimers_36 : decode cX11_runTimers 36 = .ok (.aload_n 0, 1) := by decide +kernel
theorem dX11_runTimers_37 : decode cX11_runTimers 37 = .ok (.getfield 258, 3) := by decide +kernel
theorem dX11_runTimers_40 : decode cX11_runTimers 40 = .ok (.ifCond .eq 24, 3) := by decide +kernel
theorem dX11_runTimers_43 : decode cX11_runTimers 43 = .ok (.aload_n 0, 1) := by decide +kernel
theorem dX11_runTimers_44 : decode cX11_runTimers 44 = .ok (.aload_n 0, 1) := by decide +kernel
theorem dX11_runTimers_45 : decode cX11_runTimers 45 = .ok (.getfield 290, 3) := by decide +kernel
theorem dX11_runTimers_48 : decode cX11_runTimers 48 = .ok (.aload_n 0, 1) := by decide +kernel
theorem dX11_runTimers_49 : decode cX11_runTimers 49 = .ok (.getfield 7, 3) := by decide +kernel
theorem dX11_runTimers_52 : decode cX11_runTimers 52 = .ok (.iconst 3, 1) := by decide +kernel
theorem dX11_runTimers_53 : decode cX11_runTimers 53 = .ok (.iaload, 1) := by decide +kernel
theorem dX11_runTimers_54 : decode cX11_runTimers 54 = .ok (.invokevirtual 287, 3) := by decide +kernel
theorem dX11_runTimers_57 : decode cX11_runTimers 57 = .ok (.ifCond .eq 7, 3) := by decide +kernel
theorem dX11_runTimers_60 : decode cX11_runTimers 60 = .ok (.iconst 1, 1) := by decide +kernel
theorem dX11_runTimers_61 : decode cX11_runTimers 61 = .ok (.goto 4, 3) := by decide +kernel
theorem dX11_runTimers_64 : decode cX11_runTimers 64 = .ok (.iconst 0, 1) := by decide +kernel
theorem dX11_runTimers_65 : decode cX11_runTimers 65 = .ok (.istore_n 2, 1) := by decide +kernel
theorem dX11_runTimers_66 : decode cX11_runTimers 66 = .ok (.iload_n 1, 1) := by decide +kernel
theorem dX11_runTimers_67 : decode cX11_runTimers 67 = .ok (.ifCond .ne 7, 3) := by decide +kernel
theorem dX11_runTimers_70 : decode cX11_runTimers 70 = .ok (.iload_n 2, 1) := by decide +kernel
theorem dX11_runTimers_71 : decode cX11_runTimers 71 = .ok (.ifCond .eq 9, 3) := by decide +kernel
theorem dX11_runTimers_74 : decode cX11_runTimers 74 = .ok (.aload_n 0, 1) := by decide +kernel
theorem dX11_runTimers_75 : decode cX11_runTimers 75 = .ok (.iconst 4, 1) := by decide +kernel
theorem dX11_runTimers_76 : decode cX11_runTimers 76 = .ok (.invokevirtual 161, 3) := by decide +kernel
theorem dX11_runTimers_79 : decode cX11_runTimers 79 = .ok (.return_, 1) := by decide +kernel
theorem dX11_runTimers_80 : decode cX11_runTimers 80 = .ok (.aload_n 0, 1) := by decide +kernel
theorem dX11_runTimers_81 : decode cX11_runTimers 81 = .ok (.getfield 57, 3) := by decide +kernel
theorem dX11_runTimers_84 : decode cX11_runTimers 84 = .ok (.getfield 254, 3) := by decide +kernel
theorem dX11_runTimers_87 : decode cX11_runTimers 87 = .ok (.ifCond .le 27, 3) := by decide +kernel
theorem dX11_runTimers_90 : decode cX11_runTimers 90 = .ok (.aload_n 0, 1) := by decide +kernel
theorem dX11_runTimers_91 : decode cX11_runTimers 91 = .ok (.aload_n 0, 1) := by decide +kernel
theorem dX11_runTimers_92 : decode cX11_runTimers 92 = .ok (.getfield 57, 3) := by decide +kernel
theorem dX11_runTimers_95 : decode cX11_runTimers 95 = .ok (.getfield 293, 3) := by decide +kernel
theorem dX11_runTimers_98 : decode cX11_runTimers 98 = .ok (.aload_n 0, 1) := by decide +kernel
theorem dX11_runTimers_99 : decode cX11_runTimers 99 = .ok (.getfield 7, 3) := by decide +kernel
theorem dX11_runTimers_102 : decode cX11_runTimers 102 = .ok (.iconst 4, 1) := by decide +kernel
theorem dX11_runTimers_103 : decode cX11_runTimers 103 = .ok (.iaload, 1) := by decide +kernel
theorem dX11_runTimers_104 : decode cX11_runTimers 104 = .ok (.invokevirtual 287, 3) := by decide +kernel
theorem dX11_runTimers_107 : decode cX11_runTimers 107 = .ok (.ifCond .eq 7, 3) := by decide +kernel
theorem dX11_runTimers_110 : decode cX11_runTimers 110 = .ok (.aload_n 0, 1) := by decide +kernel
theorem dX11_runTimers_111 : decode cX11_runTimers 111 = .ok (.invokevirtual 296, 3) := by decide +kernel
theorem dX11_runTimers_114 : decode cX11_runTimers 114 = .ok (.aload_n 0, 1) := by decide +kernel
theorem dX11_runTimers_115 : decode cX11_runTimers 115 = .ok (.getfield 75, 3) := by decide +kernel
theorem dX11_runTimers_118 : decode cX11_runTimers 118 = .ok (.ifCond .eq 31, 3) := by decide +kernel
theorem dX11_runTimers_121 : decode cX11_runTimers 121 = .ok (.aload_n 0, 1) := by decide +kernel
theorem dX11_runTimers_122 : decode cX11_runTimers 122 = .ok (.getfield 258, 3) := by decide +kernel
theorem dX11_runTimers_125 : decode cX11_runTimers 125 = .ok (.ifCond .ne 24, 3) := by decide +kernel
theorem dX11_runTimers_128 : decode cX11_runTimers 128 = .ok (.aload_n 0, 1) := by decide +kernel
theorem dX11_runTimers_129 : decode cX11_runTimers 129 = .ok (.aload_n 0, 1) := by decide +kernel
theorem dX11_runTimers_130 : decode cX11_runTimers 130 = .ok (.getfield 158, 3) := by decide +kernel
theorem dX11_runTimers_133 : decode cX11_runTimers 133 = .ok (.aload_n 0, 1) := by decide +kernel
theorem dX11_runTimers_134 : decode cX11_runTimers 134 = .ok (.getfield 7, 3) := by decide +kernel
theorem dX11_runTimers_137 : decode cX11_runTimers 137 = .ok (.iconst 5, 1) := by decide +kernel
theorem dX11_runTimers_138 : decode cX11_runTimers 138 = .ok (.iaload, 1) := by decide +kernel
theorem dX11_runTimers_139 : decode cX11_runTimers 139 = .ok (.invokevirtual 287, 3) := by decide +kernel
theorem dX11_runTimers_142 : decode cX11_runTimers 142 = .ok (.ifCond .eq 7, 3) := by decide +kernel
theorem dX11_runTimers_145 : decode cX11_runTimers 145 = .ok (.aload_n 0, 1) := by decide +kernel
theorem dX11_runTimers_146 : decode cX11_runTimers 146 = .ok (.invokevirtual 299, 3) := by decide +kernel
theorem dX11_runTimers_149 : decode cX11_runTimers 149 = .ok (.aload_n 0, 1) := by decide +kernel
theorem dX11_runTimers_150 : decode cX11_runTimers 150 = .ok (.getfield 29, 3) := by decide +kernel
theorem dX11_runTimers_153 : decode cX11_runTimers 153 = .ok (.invokevirtual 302, 3) := by decide +kernel
theorem dX11_runTimers_156 : decode cX11_runTimers 156 = .ok (.return_, 1) := by decide +kernel
theorem dX11_isOver_0 : decode cX11_isOver 0 = .ok (.aload_n 0, 1) := by decide +kernel
theorem dX11_isOver_1 : decode cX11_isOver 1 = .ok (.getfield 155, 3) := by decide +kernel
theorem dX11_isOver_4 : decode cX11_isOver 4 = .ok (.iload_n 1, 1) := by decide +kernel
theorem dX11_isOver_5 : decode cX11_isOver 5 = .ok (.isub, 1) := by decide +kernel
theorem dX11_isOver_6 : decode cX11_isOver 6 = .ok (.iload_n 2, 1) := by decide +kernel
theorem dX11_isOver_7 : decode cX11_isOver 7 = .ok (.if_icmp .lt 7, 3) := by decide +kernel
theorem dX11_isOver_10 : decode cX11_isOver 10 = .ok (.iconst 1, 1) := by decide +kernel
theorem dX11_isOver_11 : decode cX11_isOver 11 = .ok (.goto 4, 3) := by decide +kernel
theorem dX11_isOver_14 : decode cX11_isOver 14 = .ok (.iconst 0, 1) := by decide +kernel
theorem dX11_isOver_15 : decode cX11_isOver 15 = .ok (.ireturn, 1) := by decide +kernel
theorem dX11_sendTest_0 : decode cX11_sendTest 0 = .ok (.aload_n 0, 1) := by decide +kernel
theorem dX11_sendTest_1 : decode cX11_sendTest 1 = .ok (.bipush 67, 2) := by decide +kernel
theorem dX11_sendTest_3 : decode cX11_sendTest 3 = .ok (.aconst_null, 1) := by decide +kernel
theorem dX11_sendTest_4 : decode cX11_sendTest 4 = .ok (.invokevirtual 303, 3) := by decide +kernel
theorem dX11_sendTest_7 : decode cX11_sendTest 7 = .ok (.ifCond .eq 24, 3) := by decide +kernel
theorem dX11_sendTest_10 : decode cX11_sendTest 10 = .ok (.aload_n 0, 1) := by decide +kernel
theorem dX11_sendTest_11 : decode cX11_sendTest 11 = .ok (.iconst 1, 1) := by decide +kernel
theorem dX11_sendTest_12 : decode cX11_sendTest 12 = .ok (.putfield 258, 3) := by decide +kernel
theorem dX11_sendTest_15 : decode cX11_sendTest 15 = .ok (.aload_n 0, 1) := by decide +kernel
theorem dX11_sendTest_16 : decode cX11_sendTest 16 = .ok (.aload_n 0, 1) := by decide +kernel
theorem dX11_sendTest_17 : decode cX11_sendTest 17 = .ok (.getfield 155, 3) := by decide +kernel
theorem dX11_sendTest_20 : decode cX11_sendTest 20 = .ok (.putfield 290, 3) := by decide +kernel
theorem dX11_sendTest_23 : decode cX11_sendTest 23 = .ok (.aload_n 0, 1) := by decide +kernel
theorem dX11_sendTest_24 : decode cX11_sendTest 24 = .ok (.aload_n 0, 1) := by decide +kernel
theorem dX11_sendTest_25 : decode cX11_sendTest 25 = .ok (.getfield 155, 3) := by decide +kernel
theorem dX11_sendTest_28 : decode cX11_sendTest 28 = .ok (.putfield 158, 3) := by decide +kernel
theorem dX11_sendTest_31 : decode cX11_sendTest 31 = .ok (.return_, 1) := by decide +kernel
theorem dX11_sendAck_0 : decode cX11_sendAck 0 = .ok (.aload_n 0, 1) := by decide +kernel
theorem dX11_sendAck_1 : decode cX11_sendAck 1 = .ok (.iconst 1, 1) := by decide +kernel
theorem dX11_sendAck_2 : decode cX11_sendAck 2 = .ok (.aload_n 0, 1) := by decide +kernel
theorem dX11_sendAck_3 : decode cX11_sendAck 3 = .ok (.getfield 57, 3) := by decide +kernel
theorem dX11_sendAck_6 : decode cX11_sendAck 6 = .ok (.invokevirtual 307, 3) := by decide +kernel
theorem dX11_sendAck_9 : decode cX11_sendAck 9 = .ok (.bipush 17, 2) := by decide +kernel
theorem dX11_sendAck_11 : decode cX11_sendAck 11 = .ok (.ishl, 1) := by decide +kernel
theorem dX11_sendAck_12 : decode cX11_sendAck 12 = .ok (.ior, 1) := by decide +kernel
theorem dX11_sendAck_13 : decode cX11_sendAck 13 = .ok (.aconst_null, 1) := by decide +kernel
theorem dX11_sendAck_14 : decode cX11_sendAck 14 = .ok (.invokevirtual 303, 3) := by decide +kernel
theorem dX11_sendAck_17 : decode cX11_sendAck 17 = .ok (.ifCond .eq 11, 3) := by decide +kernel
theorem dX11_sendAck_20 : decode cX11_sendAck 20 = .ok (.aload_n 0, 1) := by decide +kernel
theorem dX11_sendAck_21 : decode cX11_sendAck 21 = .ok (.getfield 57, 3) := by decide +kernel
theorem dX11_sendAck_24 : decode cX11_sendAck 24 = .ok (.iconst 0, 1) := by decide +kernel
theorem dX11_sendAck_25 : decode cX11_sendAck 25 = .ok (.putfield 254, 3) := by decide +kernel
theorem dX11_sendAck_28 : decode cX11_sendAck 28 = .ok (.return_, 1) := by decide +kernel
theorem dX11_sendData_0 : decode cX11_sendData 0 = .ok (.aload_n 0, 1) := by decide +kernel
theorem dX11_sendData_1 : decode cX11_sendData 1 = .ok (.getfield 64, 3) := by decide +kernel
theorem dX11_sendData_4 : decode cX11_sendData 4 = .ok (.getfield 245, 3) := by decide +kernel
theorem dX11_sendData_7 : decode cX11_sendData 7 = .ok (.sipush 32767, 3) := by decide +kernel
theorem dX11_sendData_10 : decode cX11_sendData 10 = .ok (.iand, 1) := by decide +kernel
theorem dX11_sendData_11 : decode cX11_sendData 11 = .ok (.iconst 1, 1) := by decide +kernel
theorem dX11_sendData_12 : decode cX11_sendData 12 = .ok (.ishl, 1) := by decide +kernel
theorem dX11_sendData_13 : decode cX11_sendData 13 = .ok (.istore_n 3, 1) := by decide +kernel
theorem dX11_sendData_14 : decode cX11_sendData 14 = .ok (.aload_n 0, 1) := by decide +kernel
theorem dX11_sendData_15 : decode cX11_sendData 15 = .ok (.iload_n 3, 1) := by decide +kernel
theorem dX11_sendData_16 : decode cX11_sendData 16 = .ok (.aload_n 0, 1) := by decide +kernel
theorem dX11_sendData_17 : decode cX11_sendData 17 = .ok (.getfield 57, 3) := by decide +kernel
theorem dX11_sendData_20 : decode cX11_sendData 20 = .ok (.invokevirtual 307, 3) := by decide +kernel
theorem dX11_sendData_23 : decode cX11_sendData 23 = .ok (.bipush 17, 2) := by decide +kernel
theorem dX11_sendData_25 : decode cX11_sendData 25 = .ok (.ishl, 1) := by decide +kernel
theorem dX11_sendData_26 : decode cX11_sendData 26 = .ok (.ior, 1) := by decide +kernel
theorem dX11_sendData_27 : decode cX11_sendData 27 = .ok (.aload_n 1, 1) := by decide +kernel
theorem dX11_sendData_28 : decode cX11_sendData 28 = .ok (.invokevirtual 303, 3) := by decide +kernel
theorem dX11_sendData_31 : decode cX11_sendData 31 = .ok (.ifCond .ne 5, 3) := by decide +kernel
theorem dX11_sendData_34 : decode cX11_sendData 34 = .ok (.iconst 0, 1) := by decide +kernel
theorem dX11_sendData_35 : decode cX11_sendData 35 = .ok (.ireturn, 1) := by decide +kernel
theorem dX11_sendData_36 : decode cX11_sendData 36 = .ok (.aload_n 0, 1) := by decide +kernel
theorem dX11_sendData_37 : decode cX11_sendData 37 = .ok (.getfield 57, 3) := by decide +kernel
theorem dX11_sendData_40 : decode cX11_sendData 40 = .ok (.iconst 0, 1) := by decide +kernel
theorem dX11_sendData_41 : decode cX11_sendData 41 = .ok (.putfield 254, 3) := by decide +kernel
theorem dX11_sendData_44 : decode cX11_sendData 44 = .ok (.aload_n 0, 1) := by decide +kernel
theorem dX11_sendData_45 : decode cX11_sendData 45 = .ok (.getfield 64, 3) := by decide +kernel
theorem dX11_sendData_48 : decode cX11_sendData 48 = .ok (.aload_n 0, 1) := by decide +kernel
theorem dX11_sendData_49 : decode cX11_sendData 49 = .ok (.getfield 155, 3) := by decide +kernel
theorem dX11_sendData_52 : decode cX11_sendData 52 = .ok (.iload_n 2, 1) := by decide +kernel
theorem dX11_sendData_53 : decode cX11_sendData 53 = .ok (.invokevirtual 310, 3) := by decide +kernel
theorem dX11_sendData_56 : decode cX11_sendData 56 = .ok (.iconst 1, 1) := by decide +kernel
theorem dX11_sendData_57 : decode cX11_sendData 57 = .ok (.ireturn, 1) := by decide +kernel
theorem dX11_sendFrame_0 : decode cX11_sendFrame 0 = .ok (.aload_n 2, 1) := by decide +kernel
theorem dX11_sendFrame_1 : decode cX11_sendFrame 1 = .ok (.ifnonnull 7, 3) := by decide +kernel
theorem dX11_sendFrame_4 : decode cX11_sendFrame 4 = .ok (.iconst 0, 1) := by decide +kernel
theorem dX11_sendFrame_5 : decode cX11_sendFrame 5 = .ok (.goto 7, 3) := by decide +kernel
theorem dX11_sendFrame_8 : decode cX11_sendFrame 8 = .ok (.aload_n 2, 1) := by decide +kernel
theorem dX11_sendFrame_9 : decode cX11_sendFrame 9 = .ok (.getfield 313, 3) := by decide +kernel
theorem dX11_sendFrame_12 : decode cX11_sendFrame 12 = .ok (.istore_n 3, 1) := by decide +kernel
theorem dX11_sendFrame_13 : decode cX11_sendFrame 13 = .ok (.aload_n 0, 1) := by decide +kernel
theorem dX11_sendFrame_14 : decode cX11_sendFrame 14 = .ok (.getfield 71, 3) := by decide +kernel
theorem dX11_sendFrame_17 : decode cX11_sendFrame 17 = .ok (.getfield 190, 3) := by decide +kernel
theorem dX11_sendFrame_20 : decode cX11_sendFrame 20 = .ok (.bipush 6, 2) := by decide +kernel
theorem dX11_sendFrame_22 : decode cX11_sendFrame 22 = .ok (.iadd, 1) := by decide +kernel
theorem dX11_sendFrame_23 : decode cX11_sendFrame 23 = .ok (.iload_n 3, 1) := by decide +kernel
theorem dX11_sendFrame_24 : decode cX11_sendFrame 24 = .ok (.iadd, 1) := by decide +kernel
theorem dX11_sendFrame_25 : decode cX11_sendFrame 25 = .ok (.sipush 4096, 3) := by decide +kernel
theorem dX11_sendFrame_28 : decode cX11_sendFrame 28 = .ok (.if_icmp .le 11, 3) := by decide +kernel
theorem dX11_sendFrame_31 : decode cX11_sendFrame 31 = .ok (.aload_n 0, 1) := by decide +kernel
theorem dX11_sendFrame_32 : decode cX11_sendFrame 32 = .ok (.bipush 6, 2) := by decide +kernel
theorem dX11_sendFrame_34 : decode cX11_sendFrame 34 = .ok (.invokevirtual 161, 3) := by decide +kernel
theorem dX11_sendFrame_37 : decode cX11_sendFrame 37 = .ok (.iconst 0, 1) := by decide +kernel
theorem dX11_sendFrame_38 : decode cX11_sendFrame 38 = .ok (.ireturn, 1) := by decide +kernel
theorem dX11_sendFrame_39 : decode cX11_sendFrame 39 = .ok (.aload_n 0, 1) := by decide +kernel
theorem dX11_sendFrame_40 : decode cX11_sendFrame 40 = .ok (.getfield 71, 3) := by decide +kernel
theorem dX11_sendFrame_43 : decode cX11_sendFrame 43 = .ok (.bipush 104, 2) := by decide +kernel
theorem dX11_sendFrame_45 : decode cX11_sendFrame 45 = .ok (.invokevirtual 316, 3) := by decide +kernel
theorem dX11_sendFrame_48 : decode cX11_sendFrame 48 = .ok (.aload_n 0, 1) := by decide +kernel
theorem dX11_sendFrame_49 : decode cX11_sendFrame 49 = .ok (.getfield 71, 3) := by decide +kernel
theorem dX11_sendFrame_52 : decode cX11_sendFrame 52 = .ok (.iconst 4, 1) := by decide +kernel
theorem dX11_sendFrame_53 : decode cX11_sendFrame 53 = .ok (.iload_n 3, 1) := by decide +kernel
theorem dX11_sendFrame_54 : decode cX11_sendFrame 54 = .ok (.iadd, 1) := by decide +kernel
theorem dX11_sendFrame_55 : decode cX11_sendFrame 55 = .ok (.invokevirtual 316, 3) := by decide +kernel
theorem dX11_sendFrame_58 : decode cX11_sendFrame 58 = .ok (.iconst 0, 1) := by decide +kernel
theorem dX11_sendFrame_59 : decode cX11_sendFrame 59 = .ok (.istore 4, 2) := by decide +kernel
theorem dX11_sendFrame_61 : decode cX11_sendFrame 61 = .ok (.iload 4, 2) := by decide +kernel
theorem dX11_sendFrame_63 : decode cX11_sendFrame 63 = .ok (.iconst 4, 1) := by decide +kernel
theorem dX11_sendFrame_64 : decode cX11_sendFrame 64 = .ok (.if_icmp .ge 23, 3) := by decide +kernel
theorem dX11_sendFrame_67 : decode cX11_sendFrame 67 = .ok (.aload_n 0, 1) := by decide +kernel
theorem dX11_sendFrame_68 : decode cX11_sendFrame 68 = .ok (.getfield 71, 3) := by decide +kernel
theorem dX11_sendFrame_71 : decode cX11_sendFrame 71 = .ok (.iload_n 1, 1) := by decide +kernel
theorem dX11_sendFrame_72 : decode cX11_sendFrame 72 = .ok (.bipush 8, 2) := by decide +kernel
theorem dX11_sendFrame_74 : decode cX11_sendFrame 74 = .ok (.iload 4, 2) := by decide +kernel
theorem dX11_sendFrame_76 : decode cX11_sendFrame 76 = .ok (.imul, 1) := by decide +kernel
theorem dX11_sendFrame_77 : decode cX11_sendFrame 77 = .ok (.ishr, 1) := by decide +kernel
theorem dX11_sendFrame_78 : decode cX11_sendFrame 78 = .ok (.invokevirtual 316, 3) := by decide +kernel
theorem dX11_sendFrame_81 : decode cX11_sendFrame 81 = .ok (.iinc 4 1, 3) := by decide +kernel
theorem dX11_sendFrame_84 : decode cX11_sendFrame 84 = .ok (.goto (-23), 3) := by decide +kernel
theorem dX11_sendFrame_87 : decode cX11_sendFrame 87 = .ok (.iconst 0, 1) := by decide +kernel
theorem dX11_sendFrame_88 : decode cX11_sendFrame 88 = .ok (.istore 4, 2) := by decide +kernel
theorem dX11_sendFrame_90 : decode cX11_sendFrame 90 = .ok (.iload 4, 2) := by decide +kernel
theorem dX11_sendFrame_92 : decode cX11_sendFrame 92 = .ok (.iload_n 3, 1) := by decide +kernel
theorem dX11_sendFrame_93 : decode cX11_sendFrame 93 = .ok (.if_icmp .ge 22, 3) := by decide +kernel
theorem dX11_sendFrame_96 : decode cX11_sendFrame 96 = .ok (.aload_n 0, 1) := by decide +kernel
theorem dX11_sendFrame_97 : decode cX11_sendFrame 97 = .ok (.getfield 71, 3) := by decide +kernel
theorem dX11_sendFrame_100 : decode cX11_sendFrame 100 = .ok (.aload_n 2, 1) := by decide +kernel
theorem dX11_sendFrame_101 : decode cX11_sendFrame 101 = .ok (.iload 4, 2) := by decide +kernel
theorem dX11_sendFrame_103 : decode cX11_sendFrame 103 = .ok (.invokevirtual 318, 3) := by decide +kernel
theorem dX11_sendFrame_106 : decode cX11_sendFrame 106 = .ok (.invokevirtual 316, 3) := by decide +kernel
theorem dX11_sendFrame_109 : decode cX11_sendFrame 109 = .ok (.iinc 4 1, 3) := by decide +kernel
theorem dX11_sendFrame_112 : decode cX11_sendFrame 112 = .ok (.goto (-22), 3) := by decide +kernel
theorem dX11_sendFrame_115 : decode cX11_sendFrame 115 = .ok (.iconst 1, 1) := by decide +kernel
theorem dX11_sendFrame_116 : decode cX11_sendFrame 116 = .ok (.ireturn, 1) := by decide +kernel
theorem dX11_sendWaiting_0 : decode cX11_sendWaiting 0 = .ok (.iconst 0, 1) := by decide +kernel
theorem dX11_sendWaiting_1 : decode cX11_sendWaiting 1 = .ok (.istore_n 1, 1) := by decide +kernel
theorem dX11_sendWaiting_2 : decode cX11_sendWaiting 2 = .ok (.iload_n 1, 1) := by decide +kernel
theorem dX11_sendWaiting_3 : decode cX11_sendWaiting 3 = .ok (.bipush 12, 2) := by decide +kernel
theorem dX11_sendWaiting_5 : decode cX11_sendWaiting 5 = .ok (.if_icmp .ge 111, 3) := by decide +kernel
theorem dX11_sendWaiting_8 : decode cX11_sendWaiting 8 = .ok (.aload_n 0, 1) := by decide +kernel
theorem dX11_sendWaiting_9 : decode cX11_sendWaiting 9 = .ok (.getfield 75, 3) := by decide +kernel
theorem dX11_sendWaiting_12 : decode cX11_sendWaiting 12 = .ok (.iconst 2, 1) := by decide +kernel
theorem dX11_sendWaiting_13 : decode cX11_sendWaiting 13 = .ok (.if_icmp .ne 103, 3) := by decide +kernel
theorem dX11_sendWaiting_16 : decode cX11_sendWaiting 16 = .ok (.aload_n 0, 1) := by decide +kernel
theorem dX11_sendWaiting_17 : decode cX11_sendWaiting 17 = .ok (.getfield 64, 3) := by decide +kernel
theorem dX11_sendWaiting_20 : decode cX11_sendWaiting 20 = .ok (.getfield 248, 3) := by decide +kernel
theorem dX11_sendWaiting_23 : decode cX11_sendWaiting 23 = .ok (.aload_n 0, 1) := by decide +kernel
theorem dX11_sendWaiting_24 : decode cX11_sendWaiting 24 = .ok (.getfield 7, 3) := by decide +kernel
theorem dX11_sendWaiting_27 : decode cX11_sendWaiting 27 = .ok (.iconst 1, 1) := by decide +kernel
theorem dX11_sendWaiting_28 : decode cX11_sendWaiting 28 = .ok (.iaload, 1) := by decide +kernel
theorem dX11_sendWaiting_29 : decode cX11_sendWaiting 29 = .ok (.if_icmp .lt 4, 3) := by decide +kernel
theorem dX11_sendWaiting_32 : decode cX11_sendWaiting 32 = .ok (.return_, 1) := by decide +kernel
theorem dX11_sendWaiting_33 : decode cX11_sendWaiting 33 = .ok (.aload_n 0, 1) := by decide +kernel
theorem dX11_sendWaiting_34 : decode cX11_sendWaiting 34 = .ok (.getfield 50, 3) := by decide +kernel
theorem dX11_sendWaiting_37 : decode cX11_sendWaiting 37 = .ok (.getfield 257, 3) := by decide +kernel
theorem dX11_sendWaiting_40 : decode cX11_sendWaiting 40 = .ok (.ifCond .le 28, 3) := by decide +kernel
theorem dX11_sendWaiting_43 : decode cX11_sendWaiting 43 = .ok (.aload_n 0, 1) := by decide +kernel
theorem dX11_sendWaiting_44 : decode cX11_sendWaiting 44 = .ok (.aload_n 0, 1) := by decide +kernel
theorem dX11_sendWaiting_45 : decode cX11_sendWaiting 45 = .ok (.getfield 50, 3) := by decide +kernel
theorem dX11_sendWaiting_48 : decode cX11_sendWaiting 48 = .ok (.invokevirtual 319, 3) := by decide +kernel
theorem dX11_sendWaiting_51 : decode cX11_sendWaiting 51 = .ok (.iconst 0, 1) := by decide +kernel
theorem dX11_sendWaiting_52 : decode cX11_sendWaiting 52 = .ok (.invokevirtual 323, 3) := by decide +kernel
theorem dX11_sendWaiting_55 : decode cX11_sendWaiting 55 = .ok (.ifCond .eq 55, 3) := by decide +kernel
theorem dX11_sendWaiting_58 : decode cX11_sendWaiting 58 = .ok (.aload_n 0, 1) := by decide +kernel
theorem dX11_sendWaiting_59 : decode cX11_sendWaiting 59 = .ok (.getfield 50, 3) := by decide +kernel
theorem dX11_sendWaiting_62 : decode cX11_sendWaiting 62 = .ok (.invokevirtual 327, 3) := by decide +kernel
theorem dX11_sendWaiting_65 : decode cX11_sendWaiting 65 = .ok (.goto 45, 3) := by decide +kernel
theorem dX11_sendWaiting_68 : decode cX11_sendWaiting 68 = .ok (.aload_n 0, 1) := by decide +kernel
theorem dX11_sendWaiting_69 : decode cX11_sendWaiting 69 = .ok (.getfield 43, 3) := by decide +kernel
theorem dX11_sendWaiting_72 : decode cX11_sendWaiting 72 = .ok (.invokevirtual 127, 3) := by decide +kernel
theorem dX11_sendWaiting_75 : decode cX11_sendWaiting 75 = .ok (.ifCond .le 34, 3) := by decide +kernel
theorem dX11_sendWaiting_78 : decode cX11_sendWaiting 78 = .ok (.aload_n 0, 1) := by decide +kernel
theorem dX11_sendWaiting_79 : decode cX11_sendWaiting 79 = .ok (.aload_n 0, 1) := by decide +kernel
theorem dX11_sendWaiting_80 : decode cX11_sendWaiting 80 = .ok (.getfield 43, 3) := by decide +kernel
theorem dX11_sendWaiting_83 : decode cX11_sendWaiting 83 = .ok (.aload_n 0, 1) := by decide +kernel
theorem dX11_sendWaiting_84 : decode cX11_sendWaiting 84 = .ok (.getfield 7, 3) := by decide +kernel
theorem dX11_sendWaiting_87 : decode cX11_sendWaiting 87 = .ok (.iconst 0, 1) := by decide +kernel
theorem dX11_sendWaiting_88 : decode cX11_sendWaiting 88 = .ok (.iaload, 1) := by decide +kernel
theorem dX11_sendWaiting_89 : decode cX11_sendWaiting 89 = .ok (.invokevirtual 329, 3) := by decide +kernel
theorem dX11_sendWaiting_92 : decode cX11_sendWaiting 92 = .ok (.iconst 1, 1) := by decide +kernel
theorem dX11_sendWaiting_93 : decode cX11_sendWaiting 93 = .ok (.invokevirtual 323, 3) := by decide +kernel
theorem dX11_sendWaiting_96 : decode cX11_sendWaiting 96 = .ok (.ifCond .eq 14, 3) := by decide +kernel
theorem dX11_sendWaiting_99 : decode cX11_sendWaiting 99 = .ok (.aload_n 0, 1) := by decide +kernel
theorem dX11_sendWaiting_100 : decode cX11_sendWaiting 100 = .ok (.getfield 43, 3) := by decide +kernel
theorem dX11_sendWaiting_103 : decode cX11_sendWaiting 103 = .ok (.invokevirtual 333, 3) := by decide +kernel
theorem dX11_sendWaiting_106 : decode cX11_sendWaiting 106 = .ok (.goto 4, 3) := by decide +kernel
theorem dX11_sendWaiting_109 : decode cX11_sendWaiting 109 = .ok (.return_, 1) := by decide +kernel
theorem dX11_sendWaiting_110 : decode cX11_sendWaiting 110 = .ok (.iinc 1 1, 3) := by decide +kernel
theorem dX11_sendWaiting_113 : decode cX11_sendWaiting 113 = .ok (.goto (-111), 3) := by decide +kernel
theorem dX11_sendWaiting_116 : decode cX11_sendWaiting 116 = .ok (.return_, 1) := by decide +kernel
theorem dX11_acceptFrame_0 : decode cX11_acceptFrame 0 = .ok (.aload_n 0, 1) := by decide +kernel
theorem dX11_acceptFrame_1 : decode cX11_acceptFrame 1 = .ok (.aload_n 0, 1) := by decide +kernel
theorem dX11_acceptFrame_2 : decode cX11_acceptFrame 2 = .ok (.getfield 155, 3) := by decide +kernel
theorem dX11_acceptFrame_5 : decode cX11_acceptFrame 5 = .ok (.putfield 158, 3) := by decide +kernel
theorem dX11_acceptFrame_8 : decode cX11_acceptFrame 8 = .ok (.aload_n 0, 1) := by decide +kernel
theorem dX11_acceptFrame_9 : decode cX11_acceptFrame 9 = .ok (.getfield 57, 3) := by decide +kernel
theorem dX11_acceptFrame_12 : decode cX11_acceptFrame 12 = .ok (.getfield 336, 3) := by decide +kernel
theorem dX11_acceptFrame_15 : decode cX11_acceptFrame 15 = .ok (.sipush 255, 3) := by decide +kernel
theorem dX11_acceptFrame_18 : decode cX11_acceptFrame 18 = .ok (.iand, 1) := by decide +kernel
theorem dX11_acceptFrame_19 : decode cX11_acceptFrame 19 = .ok (.istore_n 1, 1) := by decide +kernel
theorem dX11_acceptFrame_20 : decode cX11_acceptFrame 20 = .ok (.iload_n 1, 1) := by decide +kernel
theorem dX11_acceptFrame_21 : decode cX11_acceptFrame 21 = .ok (.iconst 1, 1) := by decide +kernel
theorem dX11_acceptFrame_22 : decode cX11_acceptFrame 22 = .ok (.iand, 1) := by decide +kernel
theorem dX11_acceptFrame_23 : decode cX11_acceptFrame 23 = .ok (.ifCond .ne 8, 3) := by decide +kernel
theorem dX11_acceptFrame_26 : decode cX11_acceptFrame 26 = .ok (.aload_n 0, 1) := by decide +kernel
theorem dX11_acceptFrame_27 : decode cX11_acceptFrame 27 = .ok (.invokevirtual 339, 3) := by decide +kernel
theorem dX11_acceptFrame_30 : decode cX11_acceptFrame 30 = .ok (.ireturn, 1) := by decide +kernel
theorem dX11_acceptFrame_31 : decode cX11_acceptFrame 31 = .ok (.iload_n 1, 1) := by decide +kernel
theorem dX11_acceptFrame_32 : decode cX11_acceptFrame 32 = .ok (.iconst 1, 1) := by decide +kernel
theorem dX11_acceptFrame_33 : decode cX11_acceptFrame 33 = .ok (.if_icmp .eq 11, 3) := by decide +kernel
theorem dX11_acceptFrame_36 : decode cX11_acceptFrame 36 = .ok (.aload_n 0, 1) := by decide +kernel
theorem dX11_acceptFrame_37 : decode cX11_acceptFrame 37 = .ok (.iload_n 1, 1) := by decide +kernel
theorem dX11_acceptFrame_38 : decode cX11_acceptFrame 38 = .ok (.invokevirtual 342, 3) := by decide +kernel
theorem dX11_acceptFrame_41 : decode cX11_acceptFrame 41 = .ok (.goto 22, 3) := by decide +kernel
theorem dX11_acceptFrame_44 : decode cX11_acceptFrame 44 = .ok (.aload_n 0, 1) := by decide +kernel
theorem dX11_acceptFrame_45 : decode cX11_acceptFrame 45 = .ok (.aload_n 0, 1) := by decide +kernel
theorem dX11_acceptFrame_46 : decode cX11_acceptFrame 46 = .ok (.getfield 57, 3) := by decide +kernel
theorem dX11_acceptFrame_49 : decode cX11_acceptFrame 49 = .ok (.invokevirtual 345, 3) := by decide +kernel
theorem dX11_acceptFrame_52 : decode cX11_acceptFrame 52 = .ok (.invokevirtual 348, 3) := by decide +kernel
theorem dX11_acceptFrame_55 : decode cX11_acceptFrame 55 = .ok (.ifCond .ne 8, 3) := by decide +kernel
theorem dX11_acceptFrame_58 : decode cX11_acceptFrame 58 = .ok (.aload_n 0, 1) := by decide +kernel
theorem dX11_acceptFrame_59 : decode cX11_acceptFrame 59 = .ok (.iconst 3, 1) := by decide +kernel
theorem dX11_acceptFrame_60 : decode cX11_acceptFrame 60 = .ok (.invokevirtual 161, 3) := by decide +kernel
theorem dX11_acceptFrame_63 : decode cX11_acceptFrame 63 = .ok (.iconst 0, 1) := by decide +kernel
theorem dX11_acceptFrame_64 : decode cX11_acceptFrame 64 = .ok (.ireturn, 1) := by decide +kernel
theorem dX11_behindFrame_0 : decode cX11_behindFrame 0 = .ok (.aload_n 0, 1) := by decide +kernel
theorem dX11_behindFrame_1 : decode cX11_behindFrame 1 = .ok (.getfield 75, 3) := by decide +kernel
theorem dX11_behindFrame_4 : decode cX11_behindFrame 4 = .ok (.iconst 3, 1) := by decide +kernel
theorem dX11_behindFrame_5 : decode cX11_behindFrame 5 = .ok (.if_icmp .ne 26, 3) := by decide +kernel
theorem dX11_behindFrame_8 : decode cX11_behindFrame 8 = .ok (.aload_n 0, 1) := by decide +kernel
theorem dX11_behindFrame_9 : decode cX11_behindFrame 9 = .ok (.getfield 64, 3) := by decide +kernel
theorem dX11_behindFrame_12 : decode cX11_behindFrame 12 = .ok (.getfield 248, 3) := by decide +kernel
theorem dX11_behindFrame_15 : decode cX11_behindFrame 15 = .ok (.ifCond .ne 16, 3) := by decide +kernel
theorem dX11_behindFrame_18 : decode cX11_behindFrame 18 = .ok (.aload_n 0, 1) := by decide +kernel
theorem dX11_behindFrame_19 : decode cX11_behindFrame 19 = .ok (.iconst 1, 1) := by decide +kernel
theorem dX11_behindFrame_20 : decode cX11_behindFrame 20 = .ok (.putfield 75, 3) := by decide +kernel
theorem dX11_behindFrame_23 : decode cX11_behindFrame 23 = .ok (.aload_n 0, 1) := by decide +kernel
theorem dX11_behindFrame_24 : decode cX11_behindFrame 24 = .ok (.bipush 35, 2) := by decide +kernel
theorem dX11_behindFrame_26 : decode cX11_behindFrame 26 = .ok (.aconst_null, 1) := by decide +kernel
theorem dX11_behindFrame_27 : decode cX11_behindFrame 27 = .ok (.invokevirtual 303, 3) := by decide +kernel
theorem dX11_behindFrame_30 : decode cX11_behindFrame 30 = .ok (.pop, 1) := by decide +kernel
theorem dX11_behindFrame_31 : decode cX11_behindFrame 31 = .ok (.aload_n 0, 1) := by decide +kernel
theorem dX11_behindFrame_32 : decode cX11_behindFrame 32 = .ok (.invokevirtual 145, 3) := by decide +kernel
theorem dX11_behindFrame_35 : decode cX11_behindFrame 35 = .ok (.aload_n 0, 1) := by decide +kernel
theorem dX11_behindFrame_36 : decode cX11_behindFrame 36 = .ok (.getfield 75, 3) := by decide +kernel
theorem dX11_behindFrame_39 : decode cX11_behindFrame 39 = .ok (.ifCond .eq 23, 3) := by decide +kernel
theorem dX11_behindFrame_42 : decode cX11_behindFrame 42 = .ok (.aload_n 0, 1) := by decide +kernel
theorem dX11_behindFrame_43 : decode cX11_behindFrame 43 = .ok (.getfield 57, 3) := by decide +kernel
theorem dX11_behindFrame_46 : decode cX11_behindFrame 46 = .ok (.getfield 254, 3) := by decide +kernel
theorem dX11_behindFrame_49 : decode cX11_behindFrame 49 = .ok (.aload_n 0, 1) := by decide +kernel
theorem dX11_behindFrame_50 : decode cX11_behindFrame 50 = .ok (.getfield 7, 3) := by decide +kernel
theorem dX11_behindFrame_53 : decode cX11_behindFrame 53 = .ok (.iconst 2, 1) := by decide +kernel
theorem dX11_behindFrame_54 : decode cX11_behindFrame 54 = .ok (.iaload, 1) := by decide +kernel
theorem dX11_behindFrame_55 : decode cX11_behindFrame 55 = .ok (.if_icmp .lt 7, 3) := by decide +kernel
theorem dX11_behindFrame_58 : decode cX11_behindFrame 58 = .ok (.aload_n 0, 1) := by decide +kernel
theorem dX11_behindFrame_59 : decode cX11_behindFrame 59 = .ok (.invokevirtual 296, 3) := by decide +kernel
theorem dX11_behindFrame_62 : decode cX11_behindFrame 62 = .ok (.return_, 1) := by decide +kernel
theorem dX11_acknowledge_0 : decode cX11_acknowledge 0 = .ok (.aload_n 0, 1) := by decide +kernel
theorem dX11_acknowledge_1 : decode cX11_acknowledge 1 = .ok (.getfield 64, 3) := by decide +kernel
theorem dX11_acknowledge_4 : decode cX11_acknowledge 4 = .ok (.iload_n 1, 1) := by decide +kernel
theorem dX11_acknowledge_5 : decode cX11_acknowledge 5 = .ok (.invokevirtual 351, 3) := by decide +kernel
theorem dX11_acknowledge_8 : decode cX11_acknowledge 8 = .ok (.istore_n 2, 1) := by decide +kernel
theorem dX11_acknowledge_9 : decode cX11_acknowledge 9 = .ok (.iload_n 2, 1) := by decide +kernel
theorem dX11_acknowledge_10 : decode cX11_acknowledge 10 = .ok (.aload_n 0, 1) := by decide +kernel
theorem dX11_acknowledge_11 : decode cX11_acknowledge 11 = .ok (.getfield 64, 3) := by decide +kernel
theorem dX11_acknowledge_14 : decode cX11_acknowledge 14 = .ok (.getfield 248, 3) := by decide +kernel
theorem dX11_acknowledge_17 : decode cX11_acknowledge 17 = .ok (.if_icmp .le 5, 3) := by decide +kernel
theorem dX11_acknowledge_20 : decode cX11_acknowledge 20 = .ok (.iconst 0, 1) := by decide +kernel
theorem dX11_acknowledge_21 : decode cX11_acknowledge 21 = .ok (.ireturn, 1) := by decide +kernel
theorem dX11_acknowledge_22 : decode cX11_acknowledge 22 = .ok (.iconst 0, 1) := by decide +kernel
theorem dX11_acknowledge_23 : decode cX11_acknowledge 23 = .ok (.istore_n 3, 1) := by decide +kernel
theorem dX11_acknowledge_24 : decode cX11_acknowledge 24 = .ok (.iload_n 3, 1) := by decide +kernel
theorem dX11_acknowledge_25 : decode cX11_acknowledge 25 = .ok (.iload_n 2, 1) := by decide +kernel
theorem dX11_acknowledge_26 : decode cX11_acknowledge 26 = .ok (.if_icmp .ge 26, 3) := by decide +kernel
theorem dX11_acknowledge_29 : decode cX11_acknowledge 29 = .ok (.aload_n 0, 1) := by decide +kernel
theorem dX11_acknowledge_30 : decode cX11_acknowledge 30 = .ok (.getfield 64, 3) := by decide +kernel
theorem dX11_acknowledge_33 : decode cX11_acknowledge 33 = .ok (.invokevirtual 354, 3) := by decide +kernel
theorem dX11_acknowledge_36 : decode cX11_acknowledge 36 = .ok (.ifCond .eq 10, 3) := by decide +kernel
theorem dX11_acknowledge_39 : decode cX11_acknowledge 39 = .ok (.aload_n 0, 1) := by decide +kernel
theorem dX11_acknowledge_40 : decode cX11_acknowledge 40 = .ok (.getfield 43, 3) := by decide +kernel
theorem dX11_acknowledge_43 : decode cX11_acknowledge 43 = .ok (.invokevirtual 357, 3) := by decide +kernel
theorem dX11_acknowledge_46 : decode cX11_acknowledge 46 = .ok (.iinc 3 1, 3) := by decide +kernel
theorem dX11_acknowledge_49 : decode cX11_acknowledge 49 = .ok (.goto (-25), 3) := by decide +kernel
theorem dX11_acknowledge_52 : decode cX11_acknowledge 52 = .ok (.iconst 1, 1) := by decide +kernel
theorem dX11_acknowledge_53 : decode cX11_acknowledge 53 = .ok (.ireturn, 1) := by decide +kernel
theorem dX11_controlCame_0 : decode cX11_controlCame 0 = .ok (.iload_n 1, 1) := by decide +kernel
theorem dX11_controlCame_1 : decode cX11_controlCame 1 = .ok (.lookupswitch 86 #[(7, 43), (19, 59), (67, 66), (131, 78)], 43) := by decide +kernel
theorem dX11_controlCame_44 : decode cX11_controlCame 44 = .ok (.aload_n 0, 1) := by decide +kernel
theorem dX11_controlCame_45 : decode cX11_controlCame 45 = .ok (.iconst 2, 1) := by decide +kernel
theorem dX11_controlCame_46 : decode cX11_controlCame 46 = .ok (.putfield 75, 3) := by decide +kernel
theorem dX11_controlCame_49 : decode cX11_controlCame 49 = .ok (.aload_n 0, 1) := by decide +kernel
theorem dX11_controlCame_50 : decode cX11_controlCame 50 = .ok (.bipush 11, 2) := by decide +kernel
theorem dX11_controlCame_52 : decode cX11_controlCame 52 = .ok (.aconst_null, 1) := by decide +kernel
theorem dX11_controlCame_53 : decode cX11_controlCame 53 = .ok (.invokevirtual 303, 3) := by decide +kernel
theorem dX11_controlCame_56 : decode cX11_controlCame 56 = .ok (.pop, 1) := by decide +kernel
theorem dX11_controlCame_57 : decode cX11_controlCame 57 = .ok (.goto 30, 3) := by decide +kernel
theorem dX11_controlCame_60 : decode cX11_controlCame 60 = .ok (.aload_n 0, 1) := by decide +kernel
theorem dX11_controlCame_61 : decode cX11_controlCame 61 = .ok (.invokevirtual 359, 3) := by decide +kernel
theorem dX11_controlCame_64 : decode cX11_controlCame 64 = .ok (.goto 23, 3) := by decide +kernel
theorem dX11_controlCame_67 : decode cX11_controlCame 67 = .ok (.aload_n 0, 1) := by decide +kernel
theorem dX11_controlCame_68 : decode cX11_controlCame 68 = .ok (.sipush 131, 3) := by decide +kernel
theorem dX11_controlCame_71 : decode cX11_controlCame 71 = .ok (.aconst_null, 1) := by decide +kernel
theorem dX11_controlCame_72 : decode cX11_controlCame 72 = .ok (.invokevirtual 303, 3) := by decide +kernel
theorem dX11_controlCame_75 : decode cX11_controlCame 75 = .ok (.pop, 1) := by decide +kernel
theorem dX11_controlCame_76 : decode cX11_controlCame 76 = .ok (.goto 11, 3) := by decide +kernel
theorem dX11_controlCame_79 : decode cX11_controlCame 79 = .ok (.aload_n 0, 1) := by decide +kernel
theorem dX11_controlCame_80 : decode cX11_controlCame 80 = .ok (.iconst 0, 1) := by decide +kernel
theorem dX11_controlCame_81 : decode cX11_controlCame 81 = .ok (.putfield 258, 3) := by decide +kernel
theorem dX11_controlCame_84 : decode cX11_controlCame 84 = .ok (.goto 3, 3) := by decide +kernel
theorem dX11_controlCame_87 : decode cX11_controlCame 87 = .ok (.return_, 1) := by decide +kernel
theorem dX11_stopCame_0 : decode cX11_stopCame 0 = .ok (.aload_n 0, 1) := by decide +kernel
